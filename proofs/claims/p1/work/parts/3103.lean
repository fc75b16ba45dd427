abbrev b_M_wanted : ByteArray := prog_14_method_64_code
theorem d_M_wanted_0 : decode b_M_wanted 0 = .ok (.aload_n 0, 1) := by decide +kernel
theorem d_M_wanted_1 : decode b_M_wanted 1 = .ok (.getfield 24, 3) := by decide +kernel
theorem d_M_wanted_4 : decode b_M_wanted 4 = .ok (.iload_n 1, 1) := by decide +kernel
theorem d_M_wanted_5 : decode b_M_wanted 5 = .ok (.iaload, 1) := by decide +kernel
theorem d_M_wanted_6 : decode b_M_wanted 6 = .ok (.iconst 1, 1) := by decide +kernel
theorem d_M_wanted_7 : decode b_M_wanted 7 = .ok (.iadd, 1) := by decide +kernel
theorem d_M_wanted_8 : decode b_M_wanted 8 = .ok (.istore_n 2, 1) := by decide +kernel
theorem d_M_wanted_9 : decode b_M_wanted 9 = .ok (.iload_n 2, 1) := by decide +kernel
theorem d_M_wanted_10 : decode b_M_wanted 10 = .ok (.bipush 8, 2) := by decide +kernel
theorem d_M_wanted_12 : decode b_M_wanted 12 = .ok (.irem, 1) := by decide +kernel
theorem d_M_wanted_13 : decode b_M_wanted 13 = .ok (.ifCond .eq 10, 3) := by decide +kernel
theorem d_M_wanted_16 : decode b_M_wanted 16 = .ok (.aload_n 0, 1) := by decide +kernel
theorem d_M_wanted_17 : decode b_M_wanted 17 = .ok (.getfield 30, 3) := by decide +kernel
theorem d_M_wanted_20 : decode b_M_wanted 20 = .ok (.iload_n 1, 1) := by decide +kernel
theorem d_M_wanted_21 : decode b_M_wanted 21 = .ok (.iaload, 1) := by decide +kernel
theorem d_M_wanted_22 : decode b_M_wanted 22 = .ok (.ireturn, 1) := by decide +kernel
theorem d_M_wanted_23 : decode b_M_wanted 23 = .ok (.iload_n 1, 1) := by decide +kernel
theorem d_M_wanted_24 : decode b_M_wanted 24 = .ok (.istore_n 3, 1) := by decide +kernel
theorem d_M_wanted_25 : decode b_M_wanted 25 = .ok (.aload_n 0, 1) := by decide +kernel
theorem d_M_wanted_26 : decode b_M_wanted 26 = .ok (.getfield 24, 3) := by decide +kernel
theorem d_M_wanted_29 : decode b_M_wanted 29 = .ok (.iload_n 3, 1) := by decide +kernel
theorem d_M_wanted_30 : decode b_M_wanted 30 = .ok (.iaload, 1) := by decide +kernel
theorem d_M_wanted_31 : decode b_M_wanted 31 = .ok (.iload_n 2, 1) := by decide +kernel
theorem d_M_wanted_32 : decode b_M_wanted 32 = .ok (.bipush 8, 2) := by decide +kernel
theorem d_M_wanted_34 : decode b_M_wanted 34 = .ok (.isub, 1) := by decide +kernel
theorem d_M_wanted_35 : decode b_M_wanted 35 = .ok (.if_icmp .le 13, 3) := by decide +kernel
theorem d_M_wanted_38 : decode b_M_wanted 38 = .ok (.aload_n 0, 1) := by decide +kernel
theorem d_M_wanted_39 : decode b_M_wanted 39 = .ok (.getfield 21, 3) := by decide +kernel
theorem d_M_wanted_42 : decode b_M_wanted 42 = .ok (.iload_n 3, 1) := by decide +kernel
theorem d_M_wanted_43 : decode b_M_wanted 43 = .ok (.iaload, 1) := by decide +kernel
theorem d_M_wanted_44 : decode b_M_wanted 44 = .ok (.istore_n 3, 1) := by decide +kernel
theorem d_M_wanted_45 : decode b_M_wanted 45 = .ok (.goto (-20), 3) := by decide +kernel
theorem d_M_wanted_48 : decode b_M_wanted 48 = .ok (.ldc2_w 570, 3) := by decide +kernel
theorem d_M_wanted_51 : decode b_M_wanted 51 = .ok (.ldc2_w 572, 3) := by decide +kernel
theorem d_M_wanted_54 : decode b_M_wanted 54 = .ok (.aload_n 0, 1) := by decide +kernel
theorem d_M_wanted_55 : decode b_M_wanted 55 = .ok (.getfield 27, 3) := by decide +kernel
theorem d_M_wanted_58 : decode b_M_wanted 58 = .ok (.iload_n 1, 1) := by decide +kernel
theorem d_M_wanted_59 : decode b_M_wanted 59 = .ok (.iaload, 1) := by decide +kernel
theorem d_M_wanted_60 : decode b_M_wanted 60 = .ok (.i2l, 1) := by decide +kernel
theorem d_M_wanted_61 : decode b_M_wanted 61 = .ok (.ldc2_w 332, 3) := by decide +kernel
theorem d_M_wanted_64 : decode b_M_wanted 64 = .ok (.land, 1) := by decide +kernel
theorem d_M_wanted_65 : decode b_M_wanted 65 = .ok (.aload_n 0, 1) := by decide +kernel
theorem d_M_wanted_66 : decode b_M_wanted 66 = .ok (.getfield 27, 3) := by decide +kernel
theorem d_M_wanted_69 : decode b_M_wanted 69 = .ok (.iload_n 3, 1) := by decide +kernel
theorem d_M_wanted_70 : decode b_M_wanted 70 = .ok (.iaload, 1) := by decide +kernel
theorem d_M_wanted_71 : decode b_M_wanted 71 = .ok (.i2l, 1) := by decide +kernel
theorem d_M_wanted_72 : decode b_M_wanted 72 = .ok (.ldc2_w 332, 3) := by decide +kernel
theorem d_M_wanted_75 : decode b_M_wanted 75 = .ok (.land, 1) := by decide +kernel
theorem d_M_wanted_76 : decode b_M_wanted 76 = .ok (.lsub, 1) := by decide +kernel
theorem d_M_wanted_77 : decode b_M_wanted 77 = .ok (.invokestatic 574, 3) := by decide +kernel
theorem d_M_wanted_80 : decode b_M_wanted 80 = .ok (.invokestatic 580, 3) := by decide +kernel
theorem d_M_wanted_83 : decode b_M_wanted 83 = .ok (.lstore 4, 2) := by decide +kernel
theorem d_M_wanted_85 : decode b_M_wanted 85 = .ok (.lconst 0, 1) := by decide +kernel
theorem d_M_wanted_86 : decode b_M_wanted 86 = .ok (.lstore 6, 2) := by decide +kernel
theorem d_M_wanted_88 : decode b_M_wanted 88 = .ok (.aload_n 0, 1) := by decide +kernel
theorem d_M_wanted_89 : decode b_M_wanted 89 = .ok (.aload_n 0, 1) := by decide +kernel
theorem d_M_wanted_90 : decode b_M_wanted 90 = .ok (.getfield 30, 3) := by decide +kernel
theorem d_M_wanted_93 : decode b_M_wanted 93 = .ok (.iload_n 1, 1) := by decide +kernel
theorem d_M_wanted_94 : decode b_M_wanted 94 = .ok (.iaload, 1) := by decide +kernel
theorem d_M_wanted_95 : decode b_M_wanted 95 = .ok (.invokevirtual 258, 3) := by decide +kernel
theorem d_M_wanted_98 : decode b_M_wanted 98 = .ok (.pop, 1) := by decide +kernel
theorem d_M_wanted_99 : decode b_M_wanted 99 = .ok (.iconst 0, 1) := by decide +kernel
theorem d_M_wanted_100 : decode b_M_wanted 100 = .ok (.istore 8, 2) := by decide +kernel
theorem d_M_wanted_102 : decode b_M_wanted 102 = .ok (.iload 8, 2) := by decide +kernel
theorem d_M_wanted_104 : decode b_M_wanted 104 = .ok (.bipush 8, 2) := by decide +kernel
theorem d_M_wanted_106 : decode b_M_wanted 106 = .ok (.if_icmp .ge 46, 3) := by decide +kernel
theorem d_M_wanted_109 : decode b_M_wanted 109 = .ok (.lload 6, 2) := by decide +kernel
theorem d_M_wanted_111 : decode b_M_wanted 111 = .ok (.aload_n 0, 1) := by decide +kernel
theorem d_M_wanted_112 : decode b_M_wanted 112 = .ok (.getfield 130, 3) := by decide +kernel
theorem d_M_wanted_115 : decode b_M_wanted 115 = .ok (.iload 8, 2) := by decide +kernel
theorem d_M_wanted_117 : decode b_M_wanted 117 = .ok (.iaload, 1) := by decide +kernel
theorem d_M_wanted_118 : decode b_M_wanted 118 = .ok (.i2l, 1) := by decide +kernel
theorem d_M_wanted_119 : decode b_M_wanted 119 = .ok (.ldc2_w 332, 3) := by decide +kernel
theorem d_M_wanted_122 : decode b_M_wanted 122 = .ok (.land, 1) := by decide +kernel
theorem d_M_wanted_123 : decode b_M_wanted 123 = .ok (.lload 4, 2) := by decide +kernel
theorem d_M_wanted_125 : decode b_M_wanted 125 = .ok (.lmul, 1) := by decide +kernel
theorem d_M_wanted_126 : decode b_M_wanted 126 = .ok (.ladd, 1) := by decide +kernel
theorem d_M_wanted_127 : decode b_M_wanted 127 = .ok (.lstore 6, 2) := by decide +kernel
theorem d_M_wanted_129 : decode b_M_wanted 129 = .ok (.aload_n 0, 1) := by decide +kernel
theorem d_M_wanted_130 : decode b_M_wanted 130 = .ok (.getfield 148, 3) := by decide +kernel
theorem d_M_wanted_133 : decode b_M_wanted 133 = .ok (.iload 8, 2) := by decide +kernel
theorem d_M_wanted_135 : decode b_M_wanted 135 = .ok (.lload 6, 2) := by decide +kernel
theorem d_M_wanted_137 : decode b_M_wanted 137 = .ok (.l2i, 1) := by decide +kernel
theorem d_M_wanted_138 : decode b_M_wanted 138 = .ok (.iastore, 1) := by decide +kernel
theorem d_M_wanted_139 : decode b_M_wanted 139 = .ok (.lload 6, 2) := by decide +kernel
theorem d_M_wanted_141 : decode b_M_wanted 141 = .ok (.bipush 32, 2) := by decide +kernel
theorem d_M_wanted_143 : decode b_M_wanted 143 = .ok (.lushr, 1) := by decide +kernel
theorem d_M_wanted_144 : decode b_M_wanted 144 = .ok (.lstore 6, 2) := by decide +kernel
theorem d_M_wanted_146 : decode b_M_wanted 146 = .ok (.iinc 8 1, 3) := by decide +kernel
theorem d_M_wanted_149 : decode b_M_wanted 149 = .ok (.goto (-47), 3) := by decide +kernel
theorem d_M_wanted_152 : decode b_M_wanted 152 = .ok (.lload 6, 2) := by decide +kernel
theorem d_M_wanted_154 : decode b_M_wanted 154 = .ok (.lstore 8, 2) := by decide +kernel
theorem d_M_wanted_156 : decode b_M_wanted 156 = .ok (.bipush 7, 2) := by decide +kernel
theorem d_M_wanted_158 : decode b_M_wanted 158 = .ok (.istore 10, 2) := by decide +kernel
theorem d_M_wanted_160 : decode b_M_wanted 160 = .ok (.iload 10, 2) := by decide +kernel
theorem d_M_wanted_162 : decode b_M_wanted 162 = .ok (.ifCond .lt 51, 3) := by decide +kernel
theorem d_M_wanted_165 : decode b_M_wanted 165 = .ok (.lload 8, 2) := by decide +kernel
theorem d_M_wanted_167 : decode b_M_wanted 167 = .ok (.bipush 32, 2) := by decide +kernel
theorem d_M_wanted_169 : decode b_M_wanted 169 = .ok (.lshl, 1) := by decide +kernel
theorem d_M_wanted_170 : decode b_M_wanted 170 = .ok (.aload_n 0, 1) := by decide +kernel
theorem d_M_wanted_171 : decode b_M_wanted 171 = .ok (.getfield 148, 3) := by decide +kernel
theorem d_M_wanted_174 : decode b_M_wanted 174 = .ok (.iload 10, 2) := by decide +kernel
theorem d_M_wanted_176 : decode b_M_wanted 176 = .ok (.iaload, 1) := by decide +kernel
theorem d_M_wanted_177 : decode b_M_wanted 177 = .ok (.i2l, 1) := by decide +kernel
theorem d_M_wanted_178 : decode b_M_wanted 178 = .ok (.ldc2_w 332, 3) := by decide +kernel
theorem d_M_wanted_181 : decode b_M_wanted 181 = .ok (.land, 1) := by decide +kernel
theorem d_M_wanted_182 : decode b_M_wanted 182 = .ok (.lor, 1) := by decide +kernel
theorem d_M_wanted_183 : decode b_M_wanted 183 = .ok (.lstore 8, 2) := by decide +kernel
theorem d_M_wanted_185 : decode b_M_wanted 185 = .ok (.aload_n 0, 1) := by decide +kernel
theorem d_M_wanted_186 : decode b_M_wanted 186 = .ok (.getfield 148, 3) := by decide +kernel
theorem d_M_wanted_189 : decode b_M_wanted 189 = .ok (.iload 10, 2) := by decide +kernel
theorem d_M_wanted_191 : decode b_M_wanted 191 = .ok (.lload 8, 2) := by decide +kernel
theorem d_M_wanted_193 : decode b_M_wanted 193 = .ok (.ldc2_w 583, 3) := by decide +kernel
theorem d_M_wanted_196 : decode b_M_wanted 196 = .ok (.ldiv, 1) := by decide +kernel
theorem d_M_wanted_197 : decode b_M_wanted 197 = .ok (.l2i, 1) := by decide +kernel
theorem d_M_wanted_198 : decode b_M_wanted 198 = .ok (.iastore, 1) := by decide +kernel
theorem d_M_wanted_199 : decode b_M_wanted 199 = .ok (.lload 8, 2) := by decide +kernel
theorem d_M_wanted_201 : decode b_M_wanted 201 = .ok (.ldc2_w 583, 3) := by decide +kernel
theorem d_M_wanted_204 : decode b_M_wanted 204 = .ok (.lrem, 1) := by decide +kernel
theorem d_M_wanted_205 : decode b_M_wanted 205 = .ok (.lstore 8, 2) := by decide +kernel
theorem d_M_wanted_207 : decode b_M_wanted 207 = .ok (.iinc 10 (-1), 3) := by decide +kernel
theorem d_M_wanted_210 : decode b_M_wanted 210 = .ok (.goto (-50), 3) := by decide +kernel
theorem d_M_wanted_213 : decode b_M_wanted 213 = .ok (.lload 6, 2) := by decide +kernel
theorem d_M_wanted_215 : decode b_M_wanted 215 = .ok (.ldc2_w 583, 3) := by decide +kernel
theorem d_M_wanted_218 : decode b_M_wanted 218 = .ok (.lcmp, 1) := by decide +kernel
theorem d_M_wanted_219 : decode b_M_wanted 219 = .ok (.ifCond .ge 26, 3) := by decide +kernel
theorem d_M_wanted_222 : decode b_M_wanted 222 = .ok (.aload_n 0, 1) := by decide +kernel
theorem d_M_wanted_223 : decode b_M_wanted 223 = .ok (.getfield 148, 3) := by decide +kernel
theorem d_M_wanted_226 : decode b_M_wanted 226 = .ok (.bipush 7, 2) := by decide +kernel
theorem d_M_wanted_228 : decode b_M_wanted 228 = .ok (.iaload, 1) := by decide +kernel
theorem d_M_wanted_229 : decode b_M_wanted 229 = .ok (.ifCond .lt 16, 3) := by decide +kernel
theorem d_M_wanted_232 : decode b_M_wanted 232 = .ok (.aload_n 0, 1) := by decide +kernel
theorem d_M_wanted_233 : decode b_M_wanted 233 = .ok (.getfield 148, 3) := by decide +kernel
theorem d_M_wanted_236 : decode b_M_wanted 236 = .ok (.bipush 7, 2) := by decide +kernel
theorem d_M_wanted_238 : decode b_M_wanted 238 = .ok (.iaload, 1) := by decide +kernel
theorem d_M_wanted_239 : decode b_M_wanted 239 = .ok (.ldc_w 359, 3) := by decide +kernel
theorem d_M_wanted_242 : decode b_M_wanted 242 = .ok (.if_icmp .le 7, 3) := by decide +kernel
theorem d_M_wanted_245 : decode b_M_wanted 245 = .ok (.iconst 1, 1) := by decide +kernel
theorem d_M_wanted_246 : decode b_M_wanted 246 = .ok (.goto 4, 3) := by decide +kernel
theorem d_M_wanted_249 : decode b_M_wanted 249 = .ok (.iconst 0, 1) := by decide +kernel
theorem d_M_wanted_250 : decode b_M_wanted 250 = .ok (.istore 10, 2) := by decide +kernel
theorem d_M_wanted_252 : decode b_M_wanted 252 = .ok (.iload 10, 2) := by decide +kernel
theorem d_M_wanted_254 : decode b_M_wanted 254 = .ok (.ifCond .ne 52, 3) := by decide +kernel
theorem d_M_wanted_257 : decode b_M_wanted 257 = .ok (.aload_n 0, 1) := by decide +kernel
theorem d_M_wanted_258 : decode b_M_wanted 258 = .ok (.getfield 148, 3) := by decide +kernel
theorem d_M_wanted_261 : decode b_M_wanted 261 = .ok (.bipush 7, 2) := by decide +kernel
theorem d_M_wanted_263 : decode b_M_wanted 263 = .ok (.iaload, 1) := by decide +kernel
theorem d_M_wanted_264 : decode b_M_wanted 264 = .ok (.ldc_w 359, 3) := by decide +kernel
theorem d_M_wanted_267 : decode b_M_wanted 267 = .ok (.if_icmp .ne 39, 3) := by decide +kernel
theorem d_M_wanted_270 : decode b_M_wanted 270 = .ok (.iconst 0, 1) := by decide +kernel
theorem d_M_wanted_271 : decode b_M_wanted 271 = .ok (.istore 11, 2) := by decide +kernel
theorem d_M_wanted_273 : decode b_M_wanted 273 = .ok (.iload 11, 2) := by decide +kernel
theorem d_M_wanted_275 : decode b_M_wanted 275 = .ok (.bipush 7, 2) := by decide +kernel
theorem d_M_wanted_277 : decode b_M_wanted 277 = .ok (.if_icmp .ge 29, 3) := by decide +kernel
theorem d_M_wanted_280 : decode b_M_wanted 280 = .ok (.iload 10, 2) := by decide +kernel
theorem d_M_wanted_282 : decode b_M_wanted 282 = .ok (.aload_n 0, 1) := by decide +kernel
theorem d_M_wanted_283 : decode b_M_wanted 283 = .ok (.getfield 148, 3) := by decide +kernel
theorem d_M_wanted_286 : decode b_M_wanted 286 = .ok (.iload 11, 2) := by decide +kernel
theorem d_M_wanted_288 : decode b_M_wanted 288 = .ok (.iaload, 1) := by decide +kernel
theorem d_M_wanted_289 : decode b_M_wanted 289 = .ok (.ifCond .eq 7, 3) := by decide +kernel
theorem d_M_wanted_292 : decode b_M_wanted 292 = .ok (.iconst 1, 1) := by decide +kernel
theorem d_M_wanted_293 : decode b_M_wanted 293 = .ok (.goto 4, 3) := by decide +kernel
theorem d_M_wanted_296 : decode b_M_wanted 296 = .ok (.iconst 0, 1) := by decide +kernel
theorem d_M_wanted_297 : decode b_M_wanted 297 = .ok (.ior, 1) := by decide +kernel
theorem d_M_wanted_298 : decode b_M_wanted 298 = .ok (.istore 10, 2) := by decide +kernel
theorem d_M_wanted_300 : decode b_M_wanted 300 = .ok (.iinc 11 1, 3) := by decide +kernel
theorem d_M_wanted_303 : decode b_M_wanted 303 = .ok (.goto (-30), 3) := by decide +kernel
theorem d_M_wanted_306 : decode b_M_wanted 306 = .ok (.iload 10, 2) := by decide +kernel
theorem d_M_wanted_308 : decode b_M_wanted 308 = .ok (.ifCond .eq 9, 3) := by decide +kernel
theorem d_M_wanted_311 : decode b_M_wanted 311 = .ok (.ldc_w 257, 3) := by decide +kernel
theorem d_M_wanted_314 : decode b_M_wanted 314 = .ok (.goto 10, 3) := by decide +kernel
theorem d_M_wanted_317 : decode b_M_wanted 317 = .ok (.aload_n 0, 1) := by decide +kernel
theorem d_M_wanted_318 : decode b_M_wanted 318 = .ok (.getfield 148, 3) := by decide +kernel
theorem d_M_wanted_321 : decode b_M_wanted 321 = .ok (.invokestatic 585, 3) := by decide +kernel
theorem d_M_wanted_324 : decode b_M_wanted 324 = .ok (.ireturn, 1) := by decide +kernel
abbrev rm_M_wanted : Room := { frames := 0, cells := 0, slots := 0, locals := 0 }
abbrev q_M_wanted (D : va_G) (cy : Nat → ClassId) (A : Nat → Prop) (o : Nat) (q : Nat → Nat) (z : Nat → Int32) (g_height : Nat → Int32) (g_bits : Nat → Int32) (res : Int32) : Array Value → State → Outcome → State → Prop := va_Qi (fun r' (_ : Unit) => r' = res) (fun _ t => Po D cy A [(o, .inr (12, mo q z)), ((q 4), .inl (cy 1, 202, .inl g_height)), ((q 6), .inl (cy 1, 202, .inl g_bits))] t) A
def I_M_wanted_e (p : Program) (l : Launch) (e : Env) (s : State) (m : MethodId) (args : Array Value) (below : List Frame) (meth : Method) (c : Code) (D : va_G) (cy : Nat → ClassId) (A : Nat → Prop) (ad : Nat → Nat) (o : Nat) (q : Nat → Nat) (z : Nat → Int32) (g_height : Nat → Int32) (g_bits : Nat → Int32) (k : Int32 → Option (Int32)) : Prop :=
  ∀ (a1 : Int32) (res : Int32), k a1 = some res → ∀ (H : Heap) (locs : List Loc) (ls : Array Slot), va_P D classes [(o, .inr (12, mo q z)), ((q 4), .inl (cy 1, 202, .inl g_height)), ((q 6), .inl (cy 1, 202, .inl g_bits))] H → va_D A [(o, .inr (12, mo q z)), ((q 4), .inl (cy 1, 202, .inl g_height)), ((q 6), .inl (cy 1, 202, .inl g_bits))] → va_S A s.heap H locs → lv_has ls 12 [(0, .ref o), (1, .int a1)] → W p l e rm_M_wanted s m args below meth c H locs 0 0 (MQ below (q_M_wanted D cy A o q z g_height g_bits res) args s 0 0 A) (F0 m 0 ls [])
def x_M_wanted (fu : Nat) (z : Nat → Int32) (g_height : Nat → Int32) (g_bits : Nat → Int32) (a1 : Int32) : Option (Int32) :=
  gd (inb a1 202) <| bnd (g_height a1.toNatClampNeg) fun v1 => bnd (v1 + (1 : Int32)) fun v2 => if (v2 - v2 / (8 : Int32) * (8 : Int32)) = 0 then (none) else (gd (inb a1 202) <| bnd (g_bits a1.toNatClampNeg) fun v3 => some (v3))
set_option maxHeartbeats 8000000 in
set_option maxRecDepth 100000 in
theorem we_M_wanted {p : Program} {l : Launch} {e : Env} {s : State} {m : MethodId} {args : Array Value} {below : List Frame} {meth : Method} {c : Code} {D : va_G} {cy : Nat → ClassId} {A : Nat → Prop} {ad : Nat → Nat} {o : Nat} {q : Nat → Nat} {z : Nat → Int32} {g_height : Nat → Int32} {g_bits : Nat → Int32} {fu : Nat} (F : Fx p s m args meth c b_M_wanted 12 "CoinKeeperModel" "wanted" (some .int) D cy ad A) : I_M_wanted_e p l e s m args below meth c D cy A ad o q z g_height g_bits (x_M_wanted fu z g_height g_bits) := by
  obtain ⟨hx, hb, hr, hml, hown, hts, hlocks, hK, hA, hSt, hnm, hex⟩ := id F
  intro a1 res hf H locs ls hP hD hS hl
  unfold x_M_wanted at hf
  refine lv_aload_n hx hb d_M_wanted_0 rfl (lv_at hl 0 rfl) ?_
  refine va_get (D := D) (ci := 12) (v := .ref (q 4)) (C := "CoinKeeperModel") (T := F_12) (N := 98) hx hb hts i_12 hown hK hP 0 rfl rfl 7 (by decide) (hts _ gw_1426) (fun _ h9 => h9) rfl d_M_wanted_1 ?_
  refine lv_iload_n hx hb d_M_wanted_4 rfl (lv_at hl 1 rfl) ?_
  obtain ⟨hg, hf⟩ := gdp hf
  refine va_iald hx hb hK hP 1 1 rfl rfl (inb_in hg) d_M_wanted_5 ?_
  refine lv_topi (fun v1 ev => ?_)
  have hf := bn ev hf
  clear ev
  refine lv_iconst (v := 1) hx hb d_M_wanted_6 (by decide) ?_
  refine lv_iadd hx hb d_M_wanted_7 ?_
  refine lv_topi (fun v2 ev => ?_)
  have hf := bn ev hf
  clear ev
  refine lv_istore_n (lv' := [(2, .int v2), (0, .ref o), (1, .int a1)]) hx hb d_M_wanted_8 rfl hl (by decide) rfl (fun ls hl => ?_)
  refine lv_iload_n hx hb d_M_wanted_9 rfl (lv_at hl 0 rfl) ?_
  refine lv_bipush (v := 8) hx hb d_M_wanted_10 (by decide) ?_
  refine lv_irem hx hb d_M_wanted_12 (by decide) ?_
  refine lv_if_eq (tgt := 23) hx hb d_M_wanted_13 (by decide) (fun cx => ?_) (fun cx => ?_)
  · have hf := ifp cx hf
    exact nomatch hf
  · have hf := ifn cx hf
    refine lv_aload_n hx hb d_M_wanted_16 rfl (lv_at hl 1 rfl) ?_
    refine va_get (D := D) (ci := 12) (v := .ref (q 6)) (C := "CoinKeeperModel") (T := F_12) (N := 98) hx hb hts i_12 hown hK hP 0 rfl rfl 9 (by decide) (hts _ gw_1428) (fun _ h9 => h9) rfl d_M_wanted_17 ?_
    refine lv_iload_n hx hb d_M_wanted_20 rfl (lv_at hl 2 rfl) ?_
    obtain ⟨hg, hf⟩ := gdp hf
    refine va_iald hx hb hK hP 2 1 rfl rfl (inb_in hg) d_M_wanted_21 ?_
    refine lv_topi (fun v3 ev => ?_)
    have hf := bn ev hf
    clear ev
    obtain rfl := Option.some.inj hf
    exact q_ri hx hb hr hlocks hK hP hD hS d_M_wanted_22
theorem c_M_wanted (l : Launch) (D : va_G) (cy : Nat → ClassId) (ad : Nat → Nat) (fu : Nat) (o : Nat) (q : Nat → Nat) (z : Nat → Int32) (g_height : Nat → Int32) (g_bits : Nat → Int32) (a1 : Int32) (res : Int32) (hf : x_M_wanted fu z g_height g_bits a1 = some res) (sz : Nat) : Met l ({ cls := "CoinKeeperModel", name := "wanted", desc := "(I)I" } : Jvm.MethodName) (.code ({ cls := "CoinKeeperModel", name := "wanted", desc := "(I)I" } : Jvm.MethodName) b_M_wanted 12 (some .int) :: gw) rm_M_wanted (va_Pc [.ref o, .int a1] (Pr D cy ad [(o, .inr (12, mo q z)), ((q 4), .inl (cy 1, 202, .inl g_height)), ((q 6), .inl (cy 1, 202, .inl g_bits))] sz)) (q_M_wanted D cy (va_A [(o, .inr (12, mo q z)), ((q 4), .inl (cy 1, 202, .inl g_height)), ((q 6), .inl (cy 1, 202, .inl g_bits))] sz) o q z g_height g_bits res) 0 0 (va_A [(o, .inr (12, mo q z)), ((q 4), .inl (cy 1, 202, .inl g_height)), ((q 6), .inl (cy 1, 202, .inl g_bits))] sz) :=
  q_met (Qc := fun A => q_M_wanted D cy A o q z g_height g_bits res) (by decide) rfl rfl (Nat.le_of_ble_eq_true rfl) (fun p e s m below meth c ls F hP hD hS hl => we_M_wanted (fu := fu) F a1 res hf _ _ _ hP hD hS hl) sz
abbrev b_M_tip : ByteArray := prog_14_method_87_code
theorem d_M_tip_0 : decode b_M_tip 0 = .ok (.aload_n 0, 1) := by decide +kernel
theorem d_M_tip_1 : decode b_M_tip 1 = .ok (.iload_n 1, 1) := by decide +kernel
theorem d_M_tip_2 : decode b_M_tip 2 = .ok (.ifCond .lt 9, 3) := by decide +kernel
theorem d_M_tip_5 : decode b_M_tip 5 = .ok (.iload_n 1, 1) := by decide +kernel
theorem d_M_tip_6 : decode b_M_tip 6 = .ok (.bipush 11, 2) := by decide +kernel
theorem d_M_tip_8 : decode b_M_tip 8 = .ok (.if_icmp .le 7, 3) := by decide +kernel
theorem d_M_tip_11 : decode b_M_tip 11 = .ok (.iconst 1, 1) := by decide +kernel
theorem d_M_tip_12 : decode b_M_tip 12 = .ok (.goto 4, 3) := by decide +kernel
theorem d_M_tip_15 : decode b_M_tip 15 = .ok (.iconst 0, 1) := by decide +kernel
theorem d_M_tip_16 : decode b_M_tip 16 = .ok (.putfield 268, 3) := by decide +kernel
theorem d_M_tip_19 : decode b_M_tip 19 = .ok (.aload_n 0, 1) := by decide +kernel
theorem d_M_tip_20 : decode b_M_tip 20 = .ok (.getfield 268, 3) := by decide +kernel
theorem d_M_tip_23 : decode b_M_tip 23 = .ok (.ifCond .le 5, 3) := by decide +kernel
theorem d_M_tip_26 : decode b_M_tip 26 = .ok (.iconst 0, 1) := by decide +kernel
theorem d_M_tip_27 : decode b_M_tip 27 = .ok (.ireturn, 1) := by decide +kernel
theorem d_M_tip_28 : decode b_M_tip 28 = .ok (.iload_n 1, 1) := by decide +kernel
theorem d_M_tip_29 : decode b_M_tip 29 = .ok (.bipush 8, 2) := by decide +kernel
theorem d_M_tip_31 : decode b_M_tip 31 = .ok (.if_icmp .ge 20, 3) := by decide +kernel
theorem d_M_tip_34 : decode b_M_tip 34 = .ok (.aload_n 0, 1) := by decide +kernel
theorem d_M_tip_35 : decode b_M_tip 35 = .ok (.getfield 39, 3) := by decide +kernel
theorem d_M_tip_38 : decode b_M_tip 38 = .ok (.bipush 8, 2) := by decide +kernel
theorem d_M_tip_40 : decode b_M_tip 40 = .ok (.aload_n 0, 1) := by decide +kernel
theorem d_M_tip_41 : decode b_M_tip 41 = .ok (.getfield 669, 3) := by decide +kernel
theorem d_M_tip_44 : decode b_M_tip 44 = .ok (.imul, 1) := by decide +kernel
theorem d_M_tip_45 : decode b_M_tip 45 = .ok (.iload_n 1, 1) := by decide +kernel
theorem d_M_tip_46 : decode b_M_tip 46 = .ok (.iadd, 1) := by decide +kernel
theorem d_M_tip_47 : decode b_M_tip 47 = .ok (.iaload, 1) := by decide +kernel
theorem d_M_tip_48 : decode b_M_tip 48 = .ok (.goto 65, 3) := by decide +kernel
theorem d_M_tip_51 : decode b_M_tip 51 = .ok (.iload_n 1, 1) := by decide +kernel
theorem d_M_tip_52 : decode b_M_tip 52 = .ok (.bipush 8, 2) := by decide +kernel
theorem d_M_tip_54 : decode b_M_tip 54 = .ok (.if_icmp .ne 15, 3) := by decide +kernel
theorem d_M_tip_57 : decode b_M_tip 57 = .ok (.aload_n 0, 1) := by decide +kernel
theorem d_M_tip_58 : decode b_M_tip 58 = .ok (.getfield 24, 3) := by decide +kernel
theorem d_M_tip_61 : decode b_M_tip 61 = .ok (.aload_n 0, 1) := by decide +kernel
theorem d_M_tip_62 : decode b_M_tip 62 = .ok (.getfield 669, 3) := by decide +kernel
theorem d_M_tip_65 : decode b_M_tip 65 = .ok (.iaload, 1) := by decide +kernel
theorem d_M_tip_66 : decode b_M_tip 66 = .ok (.goto 47, 3) := by decide +kernel
theorem d_M_tip_69 : decode b_M_tip 69 = .ok (.iload_n 1, 1) := by decide +kernel
theorem d_M_tip_70 : decode b_M_tip 70 = .ok (.bipush 9, 2) := by decide +kernel
theorem d_M_tip_72 : decode b_M_tip 72 = .ok (.if_icmp .ne 15, 3) := by decide +kernel
theorem d_M_tip_75 : decode b_M_tip 75 = .ok (.aload_n 0, 1) := by decide +kernel
theorem d_M_tip_76 : decode b_M_tip 76 = .ok (.getfield 27, 3) := by decide +kernel
theorem d_M_tip_79 : decode b_M_tip 79 = .ok (.aload_n 0, 1) := by decide +kernel
theorem d_M_tip_80 : decode b_M_tip 80 = .ok (.getfield 669, 3) := by decide +kernel
theorem d_M_tip_83 : decode b_M_tip 83 = .ok (.iaload, 1) := by decide +kernel
theorem d_M_tip_84 : decode b_M_tip 84 = .ok (.goto 29, 3) := by decide +kernel
theorem d_M_tip_87 : decode b_M_tip 87 = .ok (.iload_n 1, 1) := by decide +kernel
theorem d_M_tip_88 : decode b_M_tip 88 = .ok (.bipush 10, 2) := by decide +kernel
theorem d_M_tip_90 : decode b_M_tip 90 = .ok (.if_icmp .ne 15, 3) := by decide +kernel
theorem d_M_tip_93 : decode b_M_tip 93 = .ok (.aload_n 0, 1) := by decide +kernel
theorem d_M_tip_94 : decode b_M_tip 94 = .ok (.getfield 30, 3) := by decide +kernel
theorem d_M_tip_97 : decode b_M_tip 97 = .ok (.aload_n 0, 1) := by decide +kernel
theorem d_M_tip_98 : decode b_M_tip 98 = .ok (.getfield 669, 3) := by decide +kernel
theorem d_M_tip_101 : decode b_M_tip 101 = .ok (.iaload, 1) := by decide +kernel
theorem d_M_tip_102 : decode b_M_tip 102 = .ok (.goto 11, 3) := by decide +kernel
theorem d_M_tip_105 : decode b_M_tip 105 = .ok (.aload_n 0, 1) := by decide +kernel
theorem d_M_tip_106 : decode b_M_tip 106 = .ok (.aload_n 0, 1) := by decide +kernel
theorem d_M_tip_107 : decode b_M_tip 107 = .ok (.getfield 669, 3) := by decide +kernel
theorem d_M_tip_110 : decode b_M_tip 110 = .ok (.invokevirtual 613, 3) := by decide +kernel
theorem d_M_tip_113 : decode b_M_tip 113 = .ok (.ireturn, 1) := by decide +kernel
abbrev rm_M_tip : Room := { frames := 1, cells := 0, slots := 0, locals := 31 }
abbrev q_M_tip (D : va_G) (cy : Nat → ClassId) (A : Nat → Prop) (o : Nat) (q : Nat → Nat) (g_height : Nat → Int32) (g_time : Nat → Int32) (g_bits : Nat → Int32) (g_bId : Nat → Int32) (res : Int32 × (Nat → Int32)) : Array Value → State → Outcome → State → Prop := va_Qi (fun r' (_ : Unit) => r' = res.1) (fun _ t => Po D cy A [(o, .inr (12, mo q res.2)), ((q 4), .inl (cy 1, 202, .inl g_height)), ((q 5), .inl (cy 1, 202, .inl g_time)), ((q 6), .inl (cy 1, 202, .inl g_bits)), ((q 9), .inl (cy 1, 1616, .inl g_bId))] t) A
def I_M_tip_16 (p : Program) (l : Launch) (e : Env) (s : State) (m : MethodId) (args : Array Value) (below : List Frame) (meth : Method) (c : Code) (D : va_G) (cy : Nat → ClassId) (A : Nat → Prop) (ad : Nat → Nat) (o : Nat) (q : Nat → Nat) (g_height : Nat → Int32) (g_time : Nat → Int32) (g_bits : Nat → Int32) (g_bId : Nat → Int32) (k : Int32 → Int32 → (Nat → Int32) → Option (Int32 × (Nat → Int32))) : Prop :=
  ∀ (x1 : Int32) (y0 : Int32) (u0 : Nat → Int32) (res : Int32 × (Nat → Int32)), k x1 y0 u0 = some res → ∀ (H : Heap) (locs : List Loc) (ls : Array Slot), va_P D classes [(o, .inr (12, mo q u0)), ((q 4), .inl (cy 1, 202, .inl g_height)), ((q 5), .inl (cy 1, 202, .inl g_time)), ((q 6), .inl (cy 1, 202, .inl g_bits)), ((q 9), .inl (cy 1, 1616, .inl g_bId))] H → va_D A [(o, .inr (12, mo q u0)), ((q 4), .inl (cy 1, 202, .inl g_height)), ((q 5), .inl (cy 1, 202, .inl g_time)), ((q 6), .inl (cy 1, 202, .inl g_bits)), ((q 9), .inl (cy 1, 1616, .inl g_bId))] → va_S A s.heap H locs → lv_has ls 2 [(0, .ref o), (1, .int x1)] → W p l e rm_M_tip s m args below meth c H locs 0 0 (MQ below (q_M_tip D cy A o q g_height g_time g_bits g_bId res) args s 0 0 A) (F0 m 16 ls [.int y0, .ref o])
def I_M_tip_11 (p : Program) (l : Launch) (e : Env) (s : State) (m : MethodId) (args : Array Value) (below : List Frame) (meth : Method) (c : Code) (D : va_G) (cy : Nat → ClassId) (A : Nat → Prop) (ad : Nat → Nat) (o : Nat) (q : Nat → Nat) (g_height : Nat → Int32) (g_time : Nat → Int32) (g_bits : Nat → Int32) (g_bId : Nat → Int32) (k : Int32 → (Nat → Int32) → Option (Int32 × (Nat → Int32))) : Prop :=
  ∀ (x1 : Int32) (u0 : Nat → Int32) (res : Int32 × (Nat → Int32)), k x1 u0 = some res → ∀ (H : Heap) (locs : List Loc) (ls : Array Slot), va_P D classes [(o, .inr (12, mo q u0)), ((q 4), .inl (cy 1, 202, .inl g_height)), ((q 5), .inl (cy 1, 202, .inl g_time)), ((q 6), .inl (cy 1, 202, .inl g_bits)), ((q 9), .inl (cy 1, 1616, .inl g_bId))] H → va_D A [(o, .inr (12, mo q u0)), ((q 4), .inl (cy 1, 202, .inl g_height)), ((q 5), .inl (cy 1, 202, .inl g_time)), ((q 6), .inl (cy 1, 202, .inl g_bits)), ((q 9), .inl (cy 1, 1616, .inl g_bId))] → va_S A s.heap H locs → lv_has ls 2 [(0, .ref o), (1, .int x1)] → W p l e rm_M_tip s m args below meth c H locs 0 0 (MQ below (q_M_tip D cy A o q g_height g_time g_bits g_bId res) args s 0 0 A) (F0 m 11 ls [.ref o])
def I_M_tip_e (p : Program) (l : Launch) (e : Env) (s : State) (m : MethodId) (args : Array Value) (below : List Frame) (meth : Method) (c : Code) (D : va_G) (cy : Nat → ClassId) (A : Nat → Prop) (ad : Nat → Nat) (o : Nat) (q : Nat → Nat) (g_height : Nat → Int32) (g_time : Nat → Int32) (g_bits : Nat → Int32) (g_bId : Nat → Int32) (k : Int32 → (Nat → Int32) → Option (Int32 × (Nat → Int32))) : Prop :=
  ∀ (a1 : Int32) (u0 : Nat → Int32) (res : Int32 × (Nat → Int32)), k a1 u0 = some res → ∀ (H : Heap) (locs : List Loc) (ls : Array Slot), va_P D classes [(o, .inr (12, mo q u0)), ((q 4), .inl (cy 1, 202, .inl g_height)), ((q 5), .inl (cy 1, 202, .inl g_time)), ((q 6), .inl (cy 1, 202, .inl g_bits)), ((q 9), .inl (cy 1, 1616, .inl g_bId))] H → va_D A [(o, .inr (12, mo q u0)), ((q 4), .inl (cy 1, 202, .inl g_height)), ((q 5), .inl (cy 1, 202, .inl g_time)), ((q 6), .inl (cy 1, 202, .inl g_bits)), ((q 9), .inl (cy 1, 1616, .inl g_bId))] → va_S A s.heap H locs → lv_has ls 2 [(0, .ref o), (1, .int a1)] → W p l e rm_M_tip s m args below meth c H locs 0 0 (MQ below (q_M_tip D cy A o q g_height g_time g_bits g_bId res) args s 0 0 A) (F0 m 0 ls [])
theorem hdb_13 : ({ cls := "CoinKeeperModel", name := "wanted", desc := "(I)I" } : Jvm.MethodName).cls ≠ "java/lang/invoke/MethodHandle" ∧ ({ cls := "CoinKeeperModel", name := "wanted", desc := "(I)I" } : Jvm.MethodName).cls ≠ "java/lang/invoke/VarHandle" ∧ (parseMethodDescriptor ({ cls := "CoinKeeperModel", name := "wanted", desc := "(I)I" } : Jvm.MethodName).desc).map (fun d => d.parameters.length) = some 1 := by decide +kernel
def xb_M_tip_16 (fu : Nat) (g_height : Nat → Int32) (g_time : Nat → Int32) (g_bits : Nat → Int32) (g_bId : Nat → Int32) (x1 : Int32) (y0 : Int32) (u0 : Nat → Int32) : Option (Int32 × (Nat → Int32)) :=
  bnd (upd u0 2 y0) fun z1 => if (z1 2) ≤ 0 then (if (8 : Int32) ≤ x1 then (if x1 = (8 : Int32) then (gd (inb (z1 4) 202) <| bnd (g_height (z1 4).toNatClampNeg) fun v5 => some (v5, z1)) else (if x1 = (9 : Int32) then (gd (inb (z1 4) 202) <| bnd (g_time (z1 4).toNatClampNeg) fun v4 => some (v4, z1)) else (if x1 = (10 : Int32) then (gd (inb (z1 4) 202) <| bnd (g_bits (z1 4).toNatClampNeg) fun v3 => some (v3, z1)) else (bd1 (x_M_wanted fu z1 g_height g_bits (z1 4)) fun v2 => some (v2, z1))))) else (bnd ((8 : Int32) * (z1 4)) fun v6 => bnd (v6 + x1) fun v7 => gd (inb v7 1616) <| bnd (g_bId v7.toNatClampNeg) fun v8 => some (v8, z1))) else (some ((0 : Int32), z1))
set_option maxHeartbeats 8000000 in
set_option maxRecDepth 100000 in
theorem wb_M_tip_16 {p : Program} {l : Launch} {e : Env} {s : State} {m : MethodId} {args : Array Value} {below : List Frame} {meth : Method} {c : Code} {D : va_G} {cy : Nat → ClassId} {A : Nat → Prop} {ad : Nat → Nat} {o : Nat} {q : Nat → Nat} {g_height : Nat → Int32} {g_time : Nat → Int32} {g_bits : Nat → Int32} {g_bId : Nat → Int32} {fu : Nat} (F : Fx p s m args meth c b_M_tip 2 "CoinKeeperModel" "tip" (some .int) D cy ad A) : I_M_tip_16 p l e s m args below meth c D cy A ad o q g_height g_time g_bits g_bId (xb_M_tip_16 fu g_height g_time g_bits g_bId) := by
  obtain ⟨hx, hb, hr, hml, hown, hts, hlocks, hK, hA, hSt, hnm, hex⟩ := id F
  intro x1 y0 u0 res hf H locs ls hP hD hS hl
  unfold xb_M_tip_16 at hf
  refine va_put (D := D) (ci := 12) (v := .int y0) (ty := .int) (C := "CoinKeeperModel") (T := F_12) (N := 98) hx hb hts i_12 t_12 t_12_ok n_12 hown hK hP hD hS 0 rfl rfl 4 (by decide) (hts _ gw_1423) (fun _ h9 => h9) rfl (by decide +kernel) rfl rfl (Nat.le_of_ble_eq_true rfl) d_M_tip_16 (fun H locs hP hD hS => ?_)
  obtain ⟨z1, ev, hf⟩ := bne hf
  have hP : va_P D classes [(o, .inr (12, mo q z1)), ((q 4), .inl (cy 1, 202, .inl g_height)), ((q 5), .inl (cy 1, 202, .inl g_time)), ((q 6), .inl (cy 1, 202, .inl g_bits)), ((q 9), .inl (cy 1, 1616, .inl g_bId))] H := by rw [ev]; exact hP
  have hD : va_D A [(o, .inr (12, mo q z1)), ((q 4), .inl (cy 1, 202, .inl g_height)), ((q 5), .inl (cy 1, 202, .inl g_time)), ((q 6), .inl (cy 1, 202, .inl g_bits)), ((q 9), .inl (cy 1, 1616, .inl g_bId))] := by rw [ev]; exact hD
  clear ev
  refine lv_aload_n hx hb d_M_tip_19 rfl (lv_at hl 0 rfl) ?_
  refine va_get (D := D) (ci := 12) (v := .int (z1 2)) (C := "CoinKeeperModel") (T := F_12) (N := 98) hx hb hts i_12 hown hK hP 0 rfl rfl 4 (by decide) (hts _ gw_1423) (fun _ h9 => h9) rfl d_M_tip_20 ?_
  refine lv_if_le (tgt := 28) hx hb d_M_tip_23 (by decide) (fun cx => ?_) (fun cx => ?_)
  · have hf := ifp cx hf
    refine lv_iload_n hx hb d_M_tip_28 rfl (lv_at hl 1 rfl) ?_
    refine lv_bipush (v := 8) hx hb d_M_tip_29 (by decide) ?_
    refine lv_icmp_ge (tgt := 51) hx hb d_M_tip_31 (by decide) (fun cx => ?_) (fun cx => ?_)
    · have hf := ifp cx hf
      refine lv_iload_n hx hb d_M_tip_51 rfl (lv_at hl 1 rfl) ?_
      refine lv_bipush (v := 8) hx hb d_M_tip_52 (by decide) ?_
      refine lv_icmp_ne (tgt := 69) hx hb d_M_tip_54 (by decide) (fun cx => ?_) (fun cx => ?_)
      · have hf := ifn cx hf
        refine lv_iload_n hx hb d_M_tip_69 rfl (lv_at hl 1 rfl) ?_
        refine lv_bipush (v := 9) hx hb d_M_tip_70 (by decide) ?_
        refine lv_icmp_ne (tgt := 87) hx hb d_M_tip_72 (by decide) (fun cx => ?_) (fun cx => ?_)
        · have hf := ifn cx hf
          refine lv_iload_n hx hb d_M_tip_87 rfl (lv_at hl 1 rfl) ?_
          refine lv_bipush (v := 10) hx hb d_M_tip_88 (by decide) ?_
          refine lv_icmp_ne (tgt := 105) hx hb d_M_tip_90 (by decide) (fun cx => ?_) (fun cx => ?_)
          · have hf := ifn cx hf
            refine lv_aload_n hx hb d_M_tip_105 rfl (lv_at hl 0 rfl) ?_
            refine lv_aload_n hx hb d_M_tip_106 rfl (lv_at hl 0 rfl) ?_
            refine va_get (D := D) (ci := 12) (v := .int (z1 4)) (C := "CoinKeeperModel") (T := F_12) (N := 98) hx hb hts i_12 hown hK hP 0 rfl rfl 16 (by decide) (hts _ gw_1435) (fun _ h9 => h9) rfl d_M_tip_107 ?_
            obtain ⟨v2, hc, hf⟩ := bdp1 hf
            refine q_ai (wr := [((q 5), .inl (cy 1, 202, .inl g_time)), ((q 9), .inl (cy 1, 1616, .inl g_bId))]) (va_runV (C := "CoinKeeperModel") (As := [.int (z1 4)]) (rest := []) ⟨hx, hb, hml, hown, hts⟩ (c_M_wanted l D cy ad fu o q z1 g_height g_bits (z1 4) _ hc H.size) ⟨q_cB hts gw_1787 gw_18 gw_1784 hdb_13 ⟨by decide, by decide⟩, hts _ gw_1786, hts _ gs_75⟩ (q_preV (q_pre (hP.sub [0, 1, 3] rfl) (hD.sub [0, 1, 3] (by decide) rfl) hK hSt hS (va_free hD hS hA [0, 1, 3] rfl) _) (va_recv hK (hP.sub [0, 1, 3] rfl) (ci := 12) (q0 := 0) rfl rfl)) rfl rfl hl.1 rfl (lv_room (Nat.le_of_ble_eq_true rfl)) d_M_tip_110 ⟨Nat.le_of_ble_eq_true rfl, Nat.le_of_ble_eq_true rfl⟩) hP hD hS hA [0, 1, 3] [2, 4] rfl rfl (by decide) (by decide) (fun H locs hP hD hS => ?_)
            clear hc
            have hP : va_P D classes [((q 5), .inl (cy 1, 202, .inl g_time)), ((q 9), .inl (cy 1, 1616, .inl g_bId)), (o, .inr (12, mo q z1)), ((q 4), .inl (cy 1, 202, .inl g_height)), ((q 6), .inl (cy 1, 202, .inl g_bits))] H := hP
            have hD : va_D A [((q 5), .inl (cy 1, 202, .inl g_time)), ((q 9), .inl (cy 1, 1616, .inl g_bId)), (o, .inr (12, mo q z1)), ((q 4), .inl (cy 1, 202, .inl g_height)), ((q 6), .inl (cy 1, 202, .inl g_bits))] := hD
            obtain rfl := Option.some.inj hf
            exact q_ri hx hb hr hlocks hK (hP.sub [2, 3, 0, 4, 1] rfl) (hD.sub [2, 3, 0, 4, 1] (by decide) rfl) hS d_M_tip_113
          · have hf := ifp cx hf
            refine lv_aload_n hx hb d_M_tip_93 rfl (lv_at hl 0 rfl) ?_
            refine va_get (D := D) (ci := 12) (v := .ref (q 6)) (C := "CoinKeeperModel") (T := F_12) (N := 98) hx hb hts i_12 hown hK hP 0 rfl rfl 9 (by decide) (hts _ gw_1428) (fun _ h9 => h9) rfl d_M_tip_94 ?_
            refine lv_aload_n hx hb d_M_tip_97 rfl (lv_at hl 0 rfl) ?_
            refine va_get (D := D) (ci := 12) (v := .int (z1 4)) (C := "CoinKeeperModel") (T := F_12) (N := 98) hx hb hts i_12 hown hK hP 0 rfl rfl 16 (by decide) (hts _ gw_1435) (fun _ h9 => h9) rfl d_M_tip_98 ?_
            obtain ⟨hg, hf⟩ := gdp hf
            refine va_iald hx hb hK hP 3 1 rfl rfl (inb_in hg) d_M_tip_101 ?_
            refine lv_topi (fun v3 ev => ?_)
            have hf := bn ev hf
            clear ev
            refine lv_goto (tgt := 113) hx hb d_M_tip_102 (by decide) ?_
            obtain rfl := Option.some.inj hf
            exact q_ri hx hb hr hlocks hK hP hD hS d_M_tip_113
        · have hf := ifp cx hf
          refine lv_aload_n hx hb d_M_tip_75 rfl (lv_at hl 0 rfl) ?_
          refine va_get (D := D) (ci := 12) (v := .ref (q 5)) (C := "CoinKeeperModel") (T := F_12) (N := 98) hx hb hts i_12 hown hK hP 0 rfl rfl 8 (by decide) (hts _ gw_1427) (fun _ h9 => h9) rfl d_M_tip_76 ?_
          refine lv_aload_n hx hb d_M_tip_79 rfl (lv_at hl 0 rfl) ?_
          refine va_get (D := D) (ci := 12) (v := .int (z1 4)) (C := "CoinKeeperModel") (T := F_12) (N := 98) hx hb hts i_12 hown hK hP 0 rfl rfl 16 (by decide) (hts _ gw_1435) (fun _ h9 => h9) rfl d_M_tip_80 ?_
          obtain ⟨hg, hf⟩ := gdp hf
          refine va_iald hx hb hK hP 2 1 rfl rfl (inb_in hg) d_M_tip_83 ?_
          refine lv_topi (fun v4 ev => ?_)
          have hf := bn ev hf
          clear ev
          refine lv_goto (tgt := 113) hx hb d_M_tip_84 (by decide) ?_
          obtain rfl := Option.some.inj hf
          exact q_ri hx hb hr hlocks hK hP hD hS d_M_tip_113
      · have hf := ifp cx hf
        refine lv_aload_n hx hb d_M_tip_57 rfl (lv_at hl 0 rfl) ?_
        refine va_get (D := D) (ci := 12) (v := .ref (q 4)) (C := "CoinKeeperModel") (T := F_12) (N := 98) hx hb hts i_12 hown hK hP 0 rfl rfl 7 (by decide) (hts _ gw_1426) (fun _ h9 => h9) rfl d_M_tip_58 ?_
        refine lv_aload_n hx hb d_M_tip_61 rfl (lv_at hl 0 rfl) ?_
        refine va_get (D := D) (ci := 12) (v := .int (z1 4)) (C := "CoinKeeperModel") (T := F_12) (N := 98) hx hb hts i_12 hown hK hP 0 rfl rfl 16 (by decide) (hts _ gw_1435) (fun _ h9 => h9) rfl d_M_tip_62 ?_
        obtain ⟨hg, hf⟩ := gdp hf
        refine va_iald hx hb hK hP 1 1 rfl rfl (inb_in hg) d_M_tip_65 ?_
        refine lv_topi (fun v5 ev => ?_)
        have hf := bn ev hf
        clear ev
        refine lv_goto (tgt := 113) hx hb d_M_tip_66 (by decide) ?_
        obtain rfl := Option.some.inj hf
        exact q_ri hx hb hr hlocks hK hP hD hS d_M_tip_113
    · have hf := ifn cx hf
      refine lv_aload_n hx hb d_M_tip_34 rfl (lv_at hl 0 rfl) ?_
      refine va_get (D := D) (ci := 12) (v := .ref (q 9)) (C := "CoinKeeperModel") (T := F_12) (N := 98) hx hb hts i_12 hown hK hP 0 rfl rfl 12 (by decide) (hts _ gw_1431) (fun _ h9 => h9) rfl d_M_tip_35 ?_
      refine lv_bipush (v := 8) hx hb d_M_tip_38 (by decide) ?_
      refine lv_aload_n hx hb d_M_tip_40 rfl (lv_at hl 0 rfl) ?_
      refine va_get (D := D) (ci := 12) (v := .int (z1 4)) (C := "CoinKeeperModel") (T := F_12) (N := 98) hx hb hts i_12 hown hK hP 0 rfl rfl 16 (by decide) (hts _ gw_1435) (fun _ h9 => h9) rfl d_M_tip_41 ?_
      refine lv_imul hx hb d_M_tip_44 ?_
      refine lv_topi (fun v6 ev => ?_)
      have hf := bn ev hf
      clear ev
      refine lv_iload_n hx hb d_M_tip_45 rfl (lv_at hl 1 rfl) ?_
      refine lv_iadd hx hb d_M_tip_46 ?_
      refine lv_topi (fun v7 ev => ?_)
      have hf := bn ev hf
      clear ev
      obtain ⟨hg, hf⟩ := gdp hf
      refine va_iald hx hb hK hP 4 1 rfl rfl (inb_in hg) d_M_tip_47 ?_
      refine lv_topi (fun v8 ev => ?_)
      have hf := bn ev hf
      clear ev
      refine lv_goto (tgt := 113) hx hb d_M_tip_48 (by decide) ?_
      obtain rfl := Option.some.inj hf
      exact q_ri hx hb hr hlocks hK hP hD hS d_M_tip_113
  · have hf := ifn cx hf
    refine lv_iconst (v := 0) hx hb d_M_tip_26 (by decide) ?_
    obtain rfl := Option.some.inj hf
    exact q_ri hx hb hr hlocks hK hP hD hS d_M_tip_27
def xb_M_tip_11 (fu : Nat) (g_height : Nat → Int32) (g_time : Nat → Int32) (g_bits : Nat → Int32) (g_bId : Nat → Int32) (x1 : Int32) (u0 : Nat → Int32) : Option (Int32 × (Nat → Int32)) :=
  xb_M_tip_16 fu g_height g_time g_bits g_bId x1 (1 : Int32) u0
set_option maxHeartbeats 8000000 in
set_option maxRecDepth 100000 in
theorem wb_M_tip_11 {p : Program} {l : Launch} {e : Env} {s : State} {m : MethodId} {args : Array Value} {below : List Frame} {meth : Method} {c : Code} {D : va_G} {cy : Nat → ClassId} {A : Nat → Prop} {ad : Nat → Nat} {o : Nat} {q : Nat → Nat} {g_height : Nat → Int32} {g_time : Nat → Int32} {g_bits : Nat → Int32} {g_bId : Nat → Int32} {fu : Nat} (F : Fx p s m args meth c b_M_tip 2 "CoinKeeperModel" "tip" (some .int) D cy ad A) : I_M_tip_11 p l e s m args below meth c D cy A ad o q g_height g_time g_bits g_bId (xb_M_tip_11 fu g_height g_time g_bits g_bId) := by
  obtain ⟨hx, hb, hr, hml, hown, hts, hlocks, hK, hA, hSt, hnm, hex⟩ := id F
  intro x1 u0 res hf H locs ls hP hD hS hl
  unfold xb_M_tip_11 at hf
  refine lv_iconst (v := 1) hx hb d_M_tip_11 (by decide) ?_
  refine lv_goto (tgt := 16) hx hb d_M_tip_12 (by decide) ?_
  exact wb_M_tip_16 (fu := fu) F _ _ _ _ hf _ _ _ hP hD hS (lv_sub hl [0, 1] rfl)
def x_M_tip (fu : Nat) (g_height : Nat → Int32) (g_time : Nat → Int32) (g_bits : Nat → Int32) (g_bId : Nat → Int32) (a1 : Int32) (u0 : Nat → Int32) : Option (Int32 × (Nat → Int32)) :=
  if a1 < 0 then (xb_M_tip_11 fu g_height g_time g_bits g_bId a1 u0) else (if a1 ≤ (11 : Int32) then (xb_M_tip_16 fu g_height g_time g_bits g_bId a1 (0 : Int32) u0) else (xb_M_tip_11 fu g_height g_time g_bits g_bId a1 u0))
set_option maxHeartbeats 8000000 in
set_option maxRecDepth 100000 in
theorem we_M_tip {p : Program} {l : Launch} {e : Env} {s : State} {m : MethodId} {args : Array Value} {below : List Frame} {meth : Method} {c : Code} {D : va_G} {cy : Nat → ClassId} {A : Nat → Prop} {ad : Nat → Nat} {o : Nat} {q : Nat → Nat} {g_height : Nat → Int32} {g_time : Nat → Int32} {g_bits : Nat → Int32} {g_bId : Nat → Int32} {fu : Nat} (F : Fx p s m args meth c b_M_tip 2 "CoinKeeperModel" "tip" (some .int) D cy ad A) : I_M_tip_e p l e s m args below meth c D cy A ad o q g_height g_time g_bits g_bId (x_M_tip fu g_height g_time g_bits g_bId) := by
  obtain ⟨hx, hb, hr, hml, hown, hts, hlocks, hK, hA, hSt, hnm, hex⟩ := id F
  intro a1 u0 res hf H locs ls hP hD hS hl
  unfold x_M_tip at hf
  refine lv_aload_n hx hb d_M_tip_0 rfl (lv_at hl 0 rfl) ?_
  refine lv_iload_n hx hb d_M_tip_1 rfl (lv_at hl 1 rfl) ?_
  refine lv_if_lt (tgt := 11) hx hb d_M_tip_2 (by decide) (fun cx => ?_) (fun cx => ?_)
  · have hf := ifp cx hf
    exact wb_M_tip_11 (fu := fu) F _ _ _ hf _ _ _ hP hD hS (lv_sub hl [0, 1] rfl)
  · have hf := ifn cx hf
    refine lv_iload_n hx hb d_M_tip_5 rfl (lv_at hl 1 rfl) ?_
    refine lv_bipush (v := 11) hx hb d_M_tip_6 (by decide) ?_
    refine lv_icmp_le (tgt := 15) hx hb d_M_tip_8 (by decide) (fun cx => ?_) (fun cx => ?_)
    · have hf := ifp cx hf
      refine lv_iconst (v := 0) hx hb d_M_tip_15 (by decide) ?_
      exact wb_M_tip_16 (fu := fu) F _ _ _ _ hf _ _ _ hP hD hS (lv_sub hl [0, 1] rfl)
    · have hf := ifn cx hf
      exact wb_M_tip_11 (fu := fu) F _ _ _ hf _ _ _ hP hD hS (lv_sub hl [0, 1] rfl)
theorem c_M_tip (l : Launch) (D : va_G) (cy : Nat → ClassId) (ad : Nat → Nat) (fu : Nat) (o : Nat) (q : Nat → Nat) (g_height : Nat → Int32) (g_time : Nat → Int32) (g_bits : Nat → Int32) (g_bId : Nat → Int32) (a1 : Int32) (u0 : Nat → Int32) (res : Int32 × (Nat → Int32)) (hf : x_M_tip fu g_height g_time g_bits g_bId a1 u0 = some res) (sz : Nat) : Met l ({ cls := "CoinKeeperModel", name := "tip", desc := "(I)I" } : Jvm.MethodName) (.code ({ cls := "CoinKeeperModel", name := "tip", desc := "(I)I" } : Jvm.MethodName) b_M_tip 2 (some .int) :: gw) rm_M_tip (va_Pc [.ref o, .int a1] (Pr D cy ad [(o, .inr (12, mo q u0)), ((q 4), .inl (cy 1, 202, .inl g_height)), ((q 5), .inl (cy 1, 202, .inl g_time)), ((q 6), .inl (cy 1, 202, .inl g_bits)), ((q 9), .inl (cy 1, 1616, .inl g_bId))] sz)) (q_M_tip D cy (va_A [(o, .inr (12, mo q u0)), ((q 4), .inl (cy 1, 202, .inl g_height)), ((q 5), .inl (cy 1, 202, .inl g_time)), ((q 6), .inl (cy 1, 202, .inl g_bits)), ((q 9), .inl (cy 1, 1616, .inl g_bId))] sz) o q g_height g_time g_bits g_bId res) 0 0 (va_A [(o, .inr (12, mo q u0)), ((q 4), .inl (cy 1, 202, .inl g_height)), ((q 5), .inl (cy 1, 202, .inl g_time)), ((q 6), .inl (cy 1, 202, .inl g_bits)), ((q 9), .inl (cy 1, 1616, .inl g_bId))] sz) :=
  q_met (Qc := fun A => q_M_tip D cy A o q g_height g_time g_bits g_bId res) (by decide) rfl rfl (Nat.le_of_ble_eq_true rfl) (fun p e s m below meth c ls F hP hD hS hl => we_M_tip (fu := fu) F a1 u0 res hf _ _ _ hP hD hS hl) sz
abbrev b_M_unspent : ByteArray := prog_14_method_88_code
theorem d_M_unspent_0 : decode b_M_unspent 0 = .ok (.aload_n 0, 1) := by decide +kernel
theorem d_M_unspent_1 : decode b_M_unspent 1 = .ok (.aload_n 0, 1) := by decide +kernel
theorem d_M_unspent_2 : decode b_M_unspent 2 = .ok (.getfield 656, 3) := by decide +kernel
theorem d_M_unspent_5 : decode b_M_unspent 5 = .ok (.bipush 32, 2) := by decide +kernel
theorem d_M_unspent_7 : decode b_M_unspent 7 = .ok (.if_icmp .eq 7, 3) := by decide +kernel
theorem d_M_unspent_10 : decode b_M_unspent 10 = .ok (.iconst 1, 1) := by decide +kernel
theorem d_M_unspent_11 : decode b_M_unspent 11 = .ok (.goto 4, 3) := by decide +kernel
theorem d_M_unspent_14 : decode b_M_unspent 14 = .ok (.iconst 0, 1) := by decide +kernel
theorem d_M_unspent_15 : decode b_M_unspent 15 = .ok (.putfield 268, 3) := by decide +kernel
theorem d_M_unspent_18 : decode b_M_unspent 18 = .ok (.aload_n 0, 1) := by decide +kernel
theorem d_M_unspent_19 : decode b_M_unspent 19 = .ok (.getfield 268, 3) := by decide +kernel
theorem d_M_unspent_22 : decode b_M_unspent 22 = .ok (.ifCond .le 5, 3) := by decide +kernel
theorem d_M_unspent_25 : decode b_M_unspent 25 = .ok (.lconst 0, 1) := by decide +kernel
theorem d_M_unspent_26 : decode b_M_unspent 26 = .ok (.lreturn, 1) := by decide +kernel
theorem d_M_unspent_27 : decode b_M_unspent 27 = .ok (.aload_n 0, 1) := by decide +kernel
theorem d_M_unspent_28 : decode b_M_unspent 28 = .ok (.aload_n 0, 1) := by decide +kernel
theorem d_M_unspent_29 : decode b_M_unspent 29 = .ok (.getfield 9, 3) := by decide +kernel
theorem d_M_unspent_32 : decode b_M_unspent 32 = .ok (.iconst 0, 1) := by decide +kernel
theorem d_M_unspent_33 : decode b_M_unspent 33 = .ok (.iload_n 1, 1) := by decide +kernel
theorem d_M_unspent_34 : decode b_M_unspent 34 = .ok (.invokevirtual 631, 3) := by decide +kernel
theorem d_M_unspent_37 : decode b_M_unspent 37 = .ok (.istore_n 2, 1) := by decide +kernel
theorem d_M_unspent_38 : decode b_M_unspent 38 = .ok (.aload_n 0, 1) := by decide +kernel
theorem d_M_unspent_39 : decode b_M_unspent 39 = .ok (.iload_n 2, 1) := by decide +kernel
theorem d_M_unspent_40 : decode b_M_unspent 40 = .ok (.ifCond .ge 7, 3) := by decide +kernel
theorem d_M_unspent_43 : decode b_M_unspent 43 = .ok (.iconst 2, 1) := by decide +kernel
theorem d_M_unspent_44 : decode b_M_unspent 44 = .ok (.goto 4, 3) := by decide +kernel
theorem d_M_unspent_47 : decode b_M_unspent 47 = .ok (.iconst 0, 1) := by decide +kernel
theorem d_M_unspent_48 : decode b_M_unspent 48 = .ok (.putfield 268, 3) := by decide +kernel
theorem d_M_unspent_51 : decode b_M_unspent 51 = .ok (.iload_n 2, 1) := by decide +kernel
theorem d_M_unspent_52 : decode b_M_unspent 52 = .ok (.ifCond .ge 7, 3) := by decide +kernel
theorem d_M_unspent_55 : decode b_M_unspent 55 = .ok (.lconst 0, 1) := by decide +kernel
theorem d_M_unspent_56 : decode b_M_unspent 56 = .ok (.goto 14, 3) := by decide +kernel
theorem d_M_unspent_59 : decode b_M_unspent 59 = .ok (.aload_n 0, 1) := by decide +kernel
theorem d_M_unspent_60 : decode b_M_unspent 60 = .ok (.getfield 88, 3) := by decide +kernel
theorem d_M_unspent_63 : decode b_M_unspent 63 = .ok (.aload_n 0, 1) := by decide +kernel
theorem d_M_unspent_64 : decode b_M_unspent 64 = .ok (.getfield 101, 3) := by decide +kernel
theorem d_M_unspent_67 : decode b_M_unspent 67 = .ok (.iload_n 2, 1) := by decide +kernel
theorem d_M_unspent_68 : decode b_M_unspent 68 = .ok (.iaload, 1) := by decide +kernel
theorem d_M_unspent_69 : decode b_M_unspent 69 = .ok (.laload, 1) := by decide +kernel
theorem d_M_unspent_70 : decode b_M_unspent 70 = .ok (.lreturn, 1) := by decide +kernel
abbrev rm_M_unspent : Room := { frames := 0, cells := 0, slots := 0, locals := 0 }
abbrev q_M_unspent (D : va_G) (cy : Nat → ClassId) (A : Nat → Prop) (o : Nat) (q : Nat → Nat) (res : Int64 × (Nat → Int32)) : Array Value → State → Outcome → State → Prop := va_Ql (fun r' (_ : Unit) => r' = res.1) (fun _ t => Po D cy A [(o, .inr (12, mo q res.2))] t) A
def I_M_unspent_15 (p : Program) (l : Launch) (e : Env) (s : State) (m : MethodId) (args : Array Value) (below : List Frame) (meth : Method) (c : Code) (D : va_G) (cy : Nat → ClassId) (A : Nat → Prop) (ad : Nat → Nat) (o : Nat) (q : Nat → Nat) (k : Int32 → Int32 → (Nat → Int32) → Option (Int64 × (Nat → Int32))) : Prop :=
  ∀ (x1 : Int32) (y0 : Int32) (u0 : Nat → Int32) (res : Int64 × (Nat → Int32)), k x1 y0 u0 = some res → ∀ (H : Heap) (locs : List Loc) (ls : Array Slot), va_P D classes [(o, .inr (12, mo q u0))] H → va_D A [(o, .inr (12, mo q u0))] → va_S A s.heap H locs → lv_has ls 3 [(0, .ref o), (1, .int x1)] → W p l e rm_M_unspent s m args below meth c H locs 0 0 (MQ below (q_M_unspent D cy A o q res) args s 0 0 A) (F0 m 15 ls [.int y0, .ref o])
def I_M_unspent_e (p : Program) (l : Launch) (e : Env) (s : State) (m : MethodId) (args : Array Value) (below : List Frame) (meth : Method) (c : Code) (D : va_G) (cy : Nat → ClassId) (A : Nat → Prop) (ad : Nat → Nat) (o : Nat) (q : Nat → Nat) (k : Int32 → (Nat → Int32) → Option (Int64 × (Nat → Int32))) : Prop :=
  ∀ (a1 : Int32) (u0 : Nat → Int32) (res : Int64 × (Nat → Int32)), k a1 u0 = some res → ∀ (H : Heap) (locs : List Loc) (ls : Array Slot), va_P D classes [(o, .inr (12, mo q u0))] H → va_D A [(o, .inr (12, mo q u0))] → va_S A s.heap H locs → lv_has ls 3 [(0, .ref o), (1, .int a1)] → W p l e rm_M_unspent s m args below meth c H locs 0 0 (MQ below (q_M_unspent D cy A o q res) args s 0 0 A) (F0 m 0 ls [])
def xb_M_unspent_15 (fu : Nat) (x1 : Int32) (y0 : Int32) (u0 : Nat → Int32) : Option (Int64 × (Nat → Int32)) :=
  bnd (upd u0 2 y0) fun z1 => if (z1 2) ≤ 0 then (none) else (some ((0 : Int64), z1))
set_option maxHeartbeats 8000000 in
set_option maxRecDepth 100000 in
theorem wb_M_unspent_15 {p : Program} {l : Launch} {e : Env} {s : State} {m : MethodId} {args : Array Value} {below : List Frame} {meth : Method} {c : Code} {D : va_G} {cy : Nat → ClassId} {A : Nat → Prop} {ad : Nat → Nat} {o : Nat} {q : Nat → Nat} {fu : Nat} (F : Fx p s m args meth c b_M_unspent 3 "CoinKeeperModel" "unspent" (some .long) D cy ad A) : I_M_unspent_15 p l e s m args below meth c D cy A ad o q (xb_M_unspent_15 fu) := by
  obtain ⟨hx, hb, hr, hml, hown, hts, hlocks, hK, hA, hSt, hnm, hex⟩ := id F
  intro x1 y0 u0 res hf H locs ls hP hD hS hl
  unfold xb_M_unspent_15 at hf
  refine va_put (D := D) (ci := 12) (v := .int y0) (ty := .int) (C := "CoinKeeperModel") (T := F_12) (N := 98) hx hb hts i_12 t_12 t_12_ok n_12 hown hK hP hD hS 0 rfl rfl 4 (by decide) (hts _ gw_1423) (fun _ h9 => h9) rfl (by decide +kernel) rfl rfl (Nat.le_of_ble_eq_true rfl) d_M_unspent_15 (fun H locs hP hD hS => ?_)
  obtain ⟨z1, ev, hf⟩ := bne hf
  have hP : va_P D classes [(o, .inr (12, mo q z1))] H := by rw [ev]; exact hP
  have hD : va_D A [(o, .inr (12, mo q z1))] := by rw [ev]; exact hD
  clear ev
  refine lv_aload_n hx hb d_M_unspent_18 rfl (lv_at hl 0 rfl) ?_
  refine va_get (D := D) (ci := 12) (v := .int (z1 2)) (C := "CoinKeeperModel") (T := F_12) (N := 98) hx hb hts i_12 hown hK hP 0 rfl rfl 4 (by decide) (hts _ gw_1423) (fun _ h9 => h9) rfl d_M_unspent_19 ?_
  refine lv_if_le (tgt := 27) hx hb d_M_unspent_22 (by decide) (fun cx => ?_) (fun cx => ?_)
  · have hf := ifp cx hf
    refine lv_aload_n hx hb d_M_unspent_27 rfl (lv_at hl 0 rfl) ?_
    refine lv_aload_n hx hb d_M_unspent_28 rfl (lv_at hl 0 rfl) ?_
    refine va_get (D := D) (ci := 12) (v := .ref (q 0)) (C := "CoinKeeperModel") (T := F_12) (N := 98) hx hb hts i_12 hown hK hP 0 rfl rfl 0 (by decide) (hts _ gw_1419) (fun _ h9 => h9) rfl d_M_unspent_29 ?_
    refine lv_iconst (v := 0) hx hb d_M_unspent_32 (by decide) ?_
    refine lv_iload_n hx hb d_M_unspent_33 rfl (lv_at hl 1 rfl) ?_
    exact nomatch hf
  · have hf := ifn cx hf
    refine lv_lconst (v := 0) hx hb d_M_unspent_25 (by decide) ?_
    obtain rfl := Option.some.inj hf
    exact q_rl hx hb hr hlocks hK hP hD hS d_M_unspent_26
def x_M_unspent (fu : Nat) (a1 : Int32) (u0 : Nat → Int32) : Option (Int64 × (Nat → Int32)) :=
  if (u0 0) = (32 : Int32) then (xb_M_unspent_15 fu a1 (0 : Int32) u0) else (xb_M_unspent_15 fu a1 (1 : Int32) u0)
set_option maxHeartbeats 8000000 in
set_option maxRecDepth 100000 in
theorem we_M_unspent {p : Program} {l : Launch} {e : Env} {s : State} {m : MethodId} {args : Array Value} {below : List Frame} {meth : Method} {c : Code} {D : va_G} {cy : Nat → ClassId} {A : Nat → Prop} {ad : Nat → Nat} {o : Nat} {q : Nat → Nat} {fu : Nat} (F : Fx p s m args meth c b_M_unspent 3 "CoinKeeperModel" "unspent" (some .long) D cy ad A) : I_M_unspent_e p l e s m args below meth c D cy A ad o q (x_M_unspent fu) := by
  obtain ⟨hx, hb, hr, hml, hown, hts, hlocks, hK, hA, hSt, hnm, hex⟩ := id F
  intro a1 u0 res hf H locs ls hP hD hS hl
  unfold x_M_unspent at hf
  refine lv_aload_n hx hb d_M_unspent_0 rfl (lv_at hl 0 rfl) ?_
  refine lv_aload_n hx hb d_M_unspent_1 rfl (lv_at hl 0 rfl) ?_
  refine va_get (D := D) (ci := 12) (v := .int (u0 0)) (C := "CoinKeeperModel") (T := F_12) (N := 98) hx hb hts i_12 hown hK hP 0 rfl rfl 2 (by decide) (hts _ gw_1421) (fun _ h9 => h9) rfl d_M_unspent_2 ?_
  refine lv_bipush (v := 32) hx hb d_M_unspent_5 (by decide) ?_
  refine lv_icmp_eq (tgt := 14) hx hb d_M_unspent_7 (by decide) (fun cx => ?_) (fun cx => ?_)
  · have hf := ifp cx hf
    refine lv_iconst (v := 0) hx hb d_M_unspent_14 (by decide) ?_
    exact wb_M_unspent_15 (fu := fu) F _ _ _ _ hf _ _ _ hP hD hS (lv_sub hl [0, 1] rfl)
  · have hf := ifn cx hf
    refine lv_iconst (v := 1) hx hb d_M_unspent_10 (by decide) ?_
    refine lv_goto (tgt := 15) hx hb d_M_unspent_11 (by decide) ?_
    exact wb_M_unspent_15 (fu := fu) F _ _ _ _ hf _ _ _ hP hD hS (lv_sub hl [0, 1] rfl)
theorem c_M_unspent (l : Launch) (D : va_G) (cy : Nat → ClassId) (ad : Nat → Nat) (fu : Nat) (o : Nat) (q : Nat → Nat) (a1 : Int32) (u0 : Nat → Int32) (res : Int64 × (Nat → Int32)) (hf : x_M_unspent fu a1 u0 = some res) (sz : Nat) : Met l ({ cls := "CoinKeeperModel", name := "unspent", desc := "(I)J" } : Jvm.MethodName) (.code ({ cls := "CoinKeeperModel", name := "unspent", desc := "(I)J" } : Jvm.MethodName) b_M_unspent 3 (some .long) :: gw) rm_M_unspent (va_Pc [.ref o, .int a1] (Pr D cy ad [(o, .inr (12, mo q u0))] sz)) (q_M_unspent D cy (va_A [(o, .inr (12, mo q u0))] sz) o q res) 0 0 (va_A [(o, .inr (12, mo q u0))] sz) :=
  q_met (Qc := fun A => q_M_unspent D cy A o q res) (by decide) rfl rfl (Nat.le_of_ble_eq_true rfl) (fun p e s m below meth c ls F hP hD hS hl => we_M_unspent (fu := fu) F a1 u0 res hf _ _ _ hP hD hS hl) sz
abbrev b_M_count2 : ByteArray := prog_14_method_89_code
theorem d_M_count2_0 : decode b_M_count2 0 = .ok (.aload_n 0, 1) := by decide +kernel
theorem d_M_count2_1 : decode b_M_count2 1 = .ok (.iload_n 1, 1) := by decide +kernel
theorem d_M_count2_2 : decode b_M_count2 2 = .ok (.ifCond .lt 8, 3) := by decide +kernel
theorem d_M_count2_5 : decode b_M_count2 5 = .ok (.iload_n 1, 1) := by decide +kernel
theorem d_M_count2_6 : decode b_M_count2 6 = .ok (.iconst 5, 1) := by decide +kernel
theorem d_M_count2_7 : decode b_M_count2 7 = .ok (.if_icmp .le 7, 3) := by decide +kernel
theorem d_M_count2_10 : decode b_M_count2 10 = .ok (.iconst 1, 1) := by decide +kernel
theorem d_M_count2_11 : decode b_M_count2 11 = .ok (.goto 4, 3) := by decide +kernel
theorem d_M_count2_14 : decode b_M_count2 14 = .ok (.iconst 0, 1) := by decide +kernel
theorem d_M_count2_15 : decode b_M_count2 15 = .ok (.putfield 268, 3) := by decide +kernel
theorem d_M_count2_18 : decode b_M_count2 18 = .ok (.aload_n 0, 1) := by decide +kernel
theorem d_M_count2_19 : decode b_M_count2 19 = .ok (.getfield 268, 3) := by decide +kernel
theorem d_M_count2_22 : decode b_M_count2 22 = .ok (.ifCond .le 5, 3) := by decide +kernel
theorem d_M_count2_25 : decode b_M_count2 25 = .ok (.lconst 0, 1) := by decide +kernel
theorem d_M_count2_26 : decode b_M_count2 26 = .ok (.lreturn, 1) := by decide +kernel
theorem d_M_count2_27 : decode b_M_count2 27 = .ok (.lconst 0, 1) := by decide +kernel
theorem d_M_count2_28 : decode b_M_count2 28 = .ok (.lstore_n 2, 1) := by decide +kernel
theorem d_M_count2_29 : decode b_M_count2 29 = .ok (.iload_n 1, 1) := by decide +kernel
theorem d_M_count2_30 : decode b_M_count2 30 = .ok (.tableswitch 167 0 4 #[34, 42, 76, 76, 130], 34) := by decide +kernel
theorem d_M_count2_64 : decode b_M_count2 64 = .ok (.aload_n 0, 1) := by decide +kernel
theorem d_M_count2_65 : decode b_M_count2 65 = .ok (.getfield 252, 3) := by decide +kernel
theorem d_M_count2_68 : decode b_M_count2 68 = .ok (.iconst 1, 1) := by decide +kernel
theorem d_M_count2_69 : decode b_M_count2 69 = .ok (.isub, 1) := by decide +kernel
theorem d_M_count2_70 : decode b_M_count2 70 = .ok (.i2l, 1) := by decide +kernel
theorem d_M_count2_71 : decode b_M_count2 71 = .ok (.lreturn, 1) := by decide +kernel
theorem d_M_count2_72 : decode b_M_count2 72 = .ok (.iconst 1, 1) := by decide +kernel
theorem d_M_count2_73 : decode b_M_count2 73 = .ok (.istore 4, 2) := by decide +kernel
theorem d_M_count2_75 : decode b_M_count2 75 = .ok (.iload 4, 2) := by decide +kernel
theorem d_M_count2_77 : decode b_M_count2 77 = .ok (.aload_n 0, 1) := by decide +kernel
theorem d_M_count2_78 : decode b_M_count2 78 = .ok (.getfield 252, 3) := by decide +kernel
theorem d_M_count2_81 : decode b_M_count2 81 = .ok (.if_icmp .ge 23, 3) := by decide +kernel
theorem d_M_count2_84 : decode b_M_count2 84 = .ok (.aload_n 0, 1) := by decide +kernel
theorem d_M_count2_85 : decode b_M_count2 85 = .ok (.getfield 45, 3) := by decide +kernel
theorem d_M_count2_88 : decode b_M_count2 88 = .ok (.iload 4, 2) := by decide +kernel
theorem d_M_count2_90 : decode b_M_count2 90 = .ok (.baload, 1) := by decide +kernel
theorem d_M_count2_91 : decode b_M_count2 91 = .ok (.ifCond .eq 7, 3) := by decide +kernel
theorem d_M_count2_94 : decode b_M_count2 94 = .ok (.lload_n 2, 1) := by decide +kernel
theorem d_M_count2_95 : decode b_M_count2 95 = .ok (.lconst 1, 1) := by decide +kernel
theorem d_M_count2_96 : decode b_M_count2 96 = .ok (.ladd, 1) := by decide +kernel
theorem d_M_count2_97 : decode b_M_count2 97 = .ok (.lstore_n 2, 1) := by decide +kernel
theorem d_M_count2_98 : decode b_M_count2 98 = .ok (.iinc 4 1, 3) := by decide +kernel
theorem d_M_count2_101 : decode b_M_count2 101 = .ok (.goto (-26), 3) := by decide +kernel
theorem d_M_count2_104 : decode b_M_count2 104 = .ok (.lload_n 2, 1) := by decide +kernel
theorem d_M_count2_105 : decode b_M_count2 105 = .ok (.lreturn, 1) := by decide +kernel
theorem d_M_count2_106 : decode b_M_count2 106 = .ok (.iconst 0, 1) := by decide +kernel
theorem d_M_count2_107 : decode b_M_count2 107 = .ok (.istore 4, 2) := by decide +kernel
theorem d_M_count2_109 : decode b_M_count2 109 = .ok (.iload 4, 2) := by decide +kernel
theorem d_M_count2_111 : decode b_M_count2 111 = .ok (.aload_n 0, 1) := by decide +kernel
theorem d_M_count2_112 : decode b_M_count2 112 = .ok (.getfield 635, 3) := by decide +kernel
theorem d_M_count2_115 : decode b_M_count2 115 = .ok (.if_icmp .ge 43, 3) := by decide +kernel
theorem d_M_count2_118 : decode b_M_count2 118 = .ok (.aload_n 0, 1) := by decide +kernel
theorem d_M_count2_119 : decode b_M_count2 119 = .ok (.getfield 114, 3) := by decide +kernel
theorem d_M_count2_122 : decode b_M_count2 122 = .ok (.iload 4, 2) := by decide +kernel
theorem d_M_count2_124 : decode b_M_count2 124 = .ok (.baload, 1) := by decide +kernel
theorem d_M_count2_125 : decode b_M_count2 125 = .ok (.ifCond .eq 27, 3) := by decide +kernel
theorem d_M_count2_128 : decode b_M_count2 128 = .ok (.lload_n 2, 1) := by decide +kernel
theorem d_M_count2_129 : decode b_M_count2 129 = .ok (.iload_n 1, 1) := by decide +kernel
theorem d_M_count2_130 : decode b_M_count2 130 = .ok (.iconst 2, 1) := by decide +kernel
theorem d_M_count2_131 : decode b_M_count2 131 = .ok (.if_icmp .ne 7, 3) := by decide +kernel
theorem d_M_count2_134 : decode b_M_count2 134 = .ok (.lconst 1, 1) := by decide +kernel
theorem d_M_count2_135 : decode b_M_count2 135 = .ok (.goto 15, 3) := by decide +kernel
theorem d_M_count2_138 : decode b_M_count2 138 = .ok (.aload_n 0, 1) := by decide +kernel
theorem d_M_count2_139 : decode b_M_count2 139 = .ok (.getfield 88, 3) := by decide +kernel
theorem d_M_count2_142 : decode b_M_count2 142 = .ok (.aload_n 0, 1) := by decide +kernel
theorem d_M_count2_143 : decode b_M_count2 143 = .ok (.getfield 101, 3) := by decide +kernel
theorem d_M_count2_146 : decode b_M_count2 146 = .ok (.iload 4, 2) := by decide +kernel
theorem d_M_count2_148 : decode b_M_count2 148 = .ok (.iaload, 1) := by decide +kernel
theorem d_M_count2_149 : decode b_M_count2 149 = .ok (.laload, 1) := by decide +kernel
theorem d_M_count2_150 : decode b_M_count2 150 = .ok (.ladd, 1) := by decide +kernel
theorem d_M_count2_151 : decode b_M_count2 151 = .ok (.lstore_n 2, 1) := by decide +kernel
theorem d_M_count2_152 : decode b_M_count2 152 = .ok (.iinc 4 1, 3) := by decide +kernel
theorem d_M_count2_155 : decode b_M_count2 155 = .ok (.goto (-46), 3) := by decide +kernel
theorem d_M_count2_158 : decode b_M_count2 158 = .ok (.lload_n 2, 1) := by decide +kernel
theorem d_M_count2_159 : decode b_M_count2 159 = .ok (.lreturn, 1) := by decide +kernel
theorem d_M_count2_160 : decode b_M_count2 160 = .ok (.aload_n 0, 1) := by decide +kernel
theorem d_M_count2_161 : decode b_M_count2 161 = .ok (.getfield 42, 3) := by decide +kernel
theorem d_M_count2_164 : decode b_M_count2 164 = .ok (.bipush 8, 2) := by decide +kernel
theorem d_M_count2_166 : decode b_M_count2 166 = .ok (.aload_n 0, 1) := by decide +kernel
theorem d_M_count2_167 : decode b_M_count2 167 = .ok (.getfield 669, 3) := by decide +kernel
theorem d_M_count2_170 : decode b_M_count2 170 = .ok (.imul, 1) := by decide +kernel
theorem d_M_count2_171 : decode b_M_count2 171 = .ok (.iconst 1, 1) := by decide +kernel
theorem d_M_count2_172 : decode b_M_count2 172 = .ok (.iadd, 1) := by decide +kernel
theorem d_M_count2_173 : decode b_M_count2 173 = .ok (.iaload, 1) := by decide +kernel
theorem d_M_count2_174 : decode b_M_count2 174 = .ok (.i2l, 1) := by decide +kernel
theorem d_M_count2_175 : decode b_M_count2 175 = .ok (.bipush 32, 2) := by decide +kernel
theorem d_M_count2_177 : decode b_M_count2 177 = .ok (.lshl, 1) := by decide +kernel
theorem d_M_count2_178 : decode b_M_count2 178 = .ok (.aload_n 0, 1) := by decide +kernel
theorem d_M_count2_179 : decode b_M_count2 179 = .ok (.getfield 42, 3) := by decide +kernel
theorem d_M_count2_182 : decode b_M_count2 182 = .ok (.bipush 8, 2) := by decide +kernel
theorem d_M_count2_184 : decode b_M_count2 184 = .ok (.aload_n 0, 1) := by decide +kernel
theorem d_M_count2_185 : decode b_M_count2 185 = .ok (.getfield 669, 3) := by decide +kernel
theorem d_M_count2_188 : decode b_M_count2 188 = .ok (.imul, 1) := by decide +kernel
theorem d_M_count2_189 : decode b_M_count2 189 = .ok (.iaload, 1) := by decide +kernel
theorem d_M_count2_190 : decode b_M_count2 190 = .ok (.i2l, 1) := by decide +kernel
theorem d_M_count2_191 : decode b_M_count2 191 = .ok (.ldc2_w 332, 3) := by decide +kernel
theorem d_M_count2_194 : decode b_M_count2 194 = .ok (.land, 1) := by decide +kernel
theorem d_M_count2_195 : decode b_M_count2 195 = .ok (.lor, 1) := by decide +kernel
theorem d_M_count2_196 : decode b_M_count2 196 = .ok (.lreturn, 1) := by decide +kernel
theorem d_M_count2_197 : decode b_M_count2 197 = .ok (.aload_n 0, 1) := by decide +kernel
theorem d_M_count2_198 : decode b_M_count2 198 = .ok (.getfield 656, 3) := by decide +kernel
theorem d_M_count2_201 : decode b_M_count2 201 = .ok (.i2l, 1) := by decide +kernel
theorem d_M_count2_202 : decode b_M_count2 202 = .ok (.lreturn, 1) := by decide +kernel
abbrev rm_M_count2 : Room := { frames := 0, cells := 0, slots := 0, locals := 0 }
abbrev q_M_count2 (D : va_G) (cy : Nat → ClassId) (A : Nat → Prop) (o : Nat) (q : Nat → Nat) (g_work : Nat → Int32) (g_isBad : Nat → Int32) (g_oValue : Nat → Int64) (g_uOutput : Nat → Int32) (g_uIs : Nat → Int32) (res : Int64 × (Nat → Int32)) : Array Value → State → Outcome → State → Prop := va_Ql (fun r' (_ : Unit) => r' = res.1) (fun _ t => Po D cy A [(o, .inr (12, mo q res.2)), ((q 10), .inl (cy 1, 1616, .inl g_work)), ((q 11), .inl (cy 3, 202, .inl g_isBad)), ((q 25), .inl (cy 2, 11600, .inr (.inl g_oValue))), ((q 29), .inl (cy 1, 11600, .inl g_uOutput)), ((q 33), .inl (cy 3, 11600, .inl g_uIs))] t) A
def I_M_count2_98 (p : Program) (l : Launch) (e : Env) (s : State) (m : MethodId) (args : Array Value) (below : List Frame) (meth : Method) (c : Code) (D : va_G) (cy : Nat → ClassId) (A : Nat → Prop) (ad : Nat → Nat) (o : Nat) (q : Nat → Nat) (g_work : Nat → Int32) (g_isBad : Nat → Int32) (g_oValue : Nat → Int64) (g_uOutput : Nat → Int32) (g_uIs : Nat → Int32) (k : Int64 → Int32 → (Nat → Int32) → Option (Int64 × (Nat → Int32))) : Prop :=
  ∀ (x2 : Int64) (x4 : Int32) (u0 : Nat → Int32) (res : Int64 × (Nat → Int32)), k x2 x4 u0 = some res → ∀ (H : Heap) (locs : List Loc) (ls : Array Slot), va_P D classes [(o, .inr (12, mo q u0)), ((q 10), .inl (cy 1, 1616, .inl g_work)), ((q 11), .inl (cy 3, 202, .inl g_isBad)), ((q 25), .inl (cy 2, 11600, .inr (.inl g_oValue))), ((q 29), .inl (cy 1, 11600, .inl g_uOutput)), ((q 33), .inl (cy 3, 11600, .inl g_uIs))] H → va_D A [(o, .inr (12, mo q u0)), ((q 10), .inl (cy 1, 1616, .inl g_work)), ((q 11), .inl (cy 3, 202, .inl g_isBad)), ((q 25), .inl (cy 2, 11600, .inr (.inl g_oValue))), ((q 29), .inl (cy 1, 11600, .inl g_uOutput)), ((q 33), .inl (cy 3, 11600, .inl g_uIs))] → va_S A s.heap H locs → lv_has ls 5 [(0, .ref o), (2, .long x2), (4, .int x4)] → W p l e rm_M_count2 s m args below meth c H locs 0 0 (MQ below (q_M_count2 D cy A o q g_work g_isBad g_oValue g_uOutput g_uIs res) args s 0 0 A) (F0 m 98 ls [])
def I_M_count2_75 (p : Program) (l : Launch) (e : Env) (s : State) (m : MethodId) (args : Array Value) (below : List Frame) (meth : Method) (c : Code) (D : va_G) (cy : Nat → ClassId) (A : Nat → Prop) (ad : Nat → Nat) (o : Nat) (q : Nat → Nat) (g_work : Nat → Int32) (g_isBad : Nat → Int32) (g_oValue : Nat → Int64) (g_uOutput : Nat → Int32) (g_uIs : Nat → Int32) (k : Int64 → Int32 → (Nat → Int32) → Option (Int64 × (Nat → Int32))) : Prop :=
  ∀ (x2 : Int64) (x4 : Int32) (u0 : Nat → Int32) (res : Int64 × (Nat → Int32)), k x2 x4 u0 = some res → ∀ (H : Heap) (locs : List Loc) (ls : Array Slot), va_P D classes [(o, .inr (12, mo q u0)), ((q 10), .inl (cy 1, 1616, .inl g_work)), ((q 11), .inl (cy 3, 202, .inl g_isBad)), ((q 25), .inl (cy 2, 11600, .inr (.inl g_oValue))), ((q 29), .inl (cy 1, 11600, .inl g_uOutput)), ((q 33), .inl (cy 3, 11600, .inl g_uIs))] H → va_D A [(o, .inr (12, mo q u0)), ((q 10), .inl (cy 1, 1616, .inl g_work)), ((q 11), .inl (cy 3, 202, .inl g_isBad)), ((q 25), .inl (cy 2, 11600, .inr (.inl g_oValue))), ((q 29), .inl (cy 1, 11600, .inl g_uOutput)), ((q 33), .inl (cy 3, 11600, .inl g_uIs))] → va_S A s.heap H locs → lv_has ls 5 [(0, .ref o), (2, .long x2), (4, .int x4)] → W p l e rm_M_count2 s m args below meth c H locs 0 0 (MQ below (q_M_count2 D cy A o q g_work g_isBad g_oValue g_uOutput g_uIs res) args s 0 0 A) (F0 m 75 ls [])
def I_M_count2_152 (p : Program) (l : Launch) (e : Env) (s : State) (m : MethodId) (args : Array Value) (below : List Frame) (meth : Method) (c : Code) (D : va_G) (cy : Nat → ClassId) (A : Nat → Prop) (ad : Nat → Nat) (o : Nat) (q : Nat → Nat) (g_work : Nat → Int32) (g_isBad : Nat → Int32) (g_oValue : Nat → Int64) (g_uOutput : Nat → Int32) (g_uIs : Nat → Int32) (k : Int32 → Int64 → Int32 → (Nat → Int32) → Option (Int64 × (Nat → Int32))) : Prop :=
  ∀ (x1 : Int32) (x2 : Int64) (x4 : Int32) (u0 : Nat → Int32) (res : Int64 × (Nat → Int32)), k x1 x2 x4 u0 = some res → ∀ (H : Heap) (locs : List Loc) (ls : Array Slot), va_P D classes [(o, .inr (12, mo q u0)), ((q 10), .inl (cy 1, 1616, .inl g_work)), ((q 11), .inl (cy 3, 202, .inl g_isBad)), ((q 25), .inl (cy 2, 11600, .inr (.inl g_oValue))), ((q 29), .inl (cy 1, 11600, .inl g_uOutput)), ((q 33), .inl (cy 3, 11600, .inl g_uIs))] H → va_D A [(o, .inr (12, mo q u0)), ((q 10), .inl (cy 1, 1616, .inl g_work)), ((q 11), .inl (cy 3, 202, .inl g_isBad)), ((q 25), .inl (cy 2, 11600, .inr (.inl g_oValue))), ((q 29), .inl (cy 1, 11600, .inl g_uOutput)), ((q 33), .inl (cy 3, 11600, .inl g_uIs))] → va_S A s.heap H locs → lv_has ls 5 [(0, .ref o), (1, .int x1), (2, .long x2), (4, .int x4)] → W p l e rm_M_count2 s m args below meth c H locs 0 0 (MQ below (q_M_count2 D cy A o q g_work g_isBad g_oValue g_uOutput g_uIs res) args s 0 0 A) (F0 m 152 ls [])
def I_M_count2_150 (p : Program) (l : Launch) (e : Env) (s : State) (m : MethodId) (args : Array Value) (below : List Frame) (meth : Method) (c : Code) (D : va_G) (cy : Nat → ClassId) (A : Nat → Prop) (ad : Nat → Nat) (o : Nat) (q : Nat → Nat) (g_work : Nat → Int32) (g_isBad : Nat → Int32) (g_oValue : Nat → Int64) (g_uOutput : Nat → Int32) (g_uIs : Nat → Int32) (k : Int32 → Int32 → Int64 → Int64 → (Nat → Int32) → Option (Int64 × (Nat → Int32))) : Prop :=
  ∀ (x1 : Int32) (x4 : Int32) (y0 : Int64) (y1 : Int64) (u0 : Nat → Int32) (res : Int64 × (Nat → Int32)), k x1 x4 y0 y1 u0 = some res → ∀ (H : Heap) (locs : List Loc) (ls : Array Slot), va_P D classes [(o, .inr (12, mo q u0)), ((q 10), .inl (cy 1, 1616, .inl g_work)), ((q 11), .inl (cy 3, 202, .inl g_isBad)), ((q 25), .inl (cy 2, 11600, .inr (.inl g_oValue))), ((q 29), .inl (cy 1, 11600, .inl g_uOutput)), ((q 33), .inl (cy 3, 11600, .inl g_uIs))] H → va_D A [(o, .inr (12, mo q u0)), ((q 10), .inl (cy 1, 1616, .inl g_work)), ((q 11), .inl (cy 3, 202, .inl g_isBad)), ((q 25), .inl (cy 2, 11600, .inr (.inl g_oValue))), ((q 29), .inl (cy 1, 11600, .inl g_uOutput)), ((q 33), .inl (cy 3, 11600, .inl g_uIs))] → va_S A s.heap H locs → lv_has ls 5 [(0, .ref o), (1, .int x1), (4, .int x4)] → W p l e rm_M_count2 s m args below meth c H locs 0 0 (MQ below (q_M_count2 D cy A o q g_work g_isBad g_oValue g_uOutput g_uIs res) args s 0 0 A) (F0 m 150 ls [.long y0, .long y1])
def I_M_count2_109 (p : Program) (l : Launch) (e : Env) (s : State) (m : MethodId) (args : Array Value) (below : List Frame) (meth : Method) (c : Code) (D : va_G) (cy : Nat → ClassId) (A : Nat → Prop) (ad : Nat → Nat) (o : Nat) (q : Nat → Nat) (g_work : Nat → Int32) (g_isBad : Nat → Int32) (g_oValue : Nat → Int64) (g_uOutput : Nat → Int32) (g_uIs : Nat → Int32) (k : Int32 → Int64 → Int32 → (Nat → Int32) → Option (Int64 × (Nat → Int32))) : Prop :=
  ∀ (x1 : Int32) (x2 : Int64) (x4 : Int32) (u0 : Nat → Int32) (res : Int64 × (Nat → Int32)), k x1 x2 x4 u0 = some res → ∀ (H : Heap) (locs : List Loc) (ls : Array Slot), va_P D classes [(o, .inr (12, mo q u0)), ((q 10), .inl (cy 1, 1616, .inl g_work)), ((q 11), .inl (cy 3, 202, .inl g_isBad)), ((q 25), .inl (cy 2, 11600, .inr (.inl g_oValue))), ((q 29), .inl (cy 1, 11600, .inl g_uOutput)), ((q 33), .inl (cy 3, 11600, .inl g_uIs))] H → va_D A [(o, .inr (12, mo q u0)), ((q 10), .inl (cy 1, 1616, .inl g_work)), ((q 11), .inl (cy 3, 202, .inl g_isBad)), ((q 25), .inl (cy 2, 11600, .inr (.inl g_oValue))), ((q 29), .inl (cy 1, 11600, .inl g_uOutput)), ((q 33), .inl (cy 3, 11600, .inl g_uIs))] → va_S A s.heap H locs → lv_has ls 5 [(0, .ref o), (1, .int x1), (2, .long x2), (4, .int x4)] → W p l e rm_M_count2 s m args below meth c H locs 0 0 (MQ below (q_M_count2 D cy A o q g_work g_isBad g_oValue g_uOutput g_uIs res) args s 0 0 A) (F0 m 109 ls [])
def I_M_count2_106 (p : Program) (l : Launch) (e : Env) (s : State) (m : MethodId) (args : Array Value) (below : List Frame) (meth : Method) (c : Code) (D : va_G) (cy : Nat → ClassId) (A : Nat → Prop) (ad : Nat → Nat) (o : Nat) (q : Nat → Nat) (g_work : Nat → Int32) (g_isBad : Nat → Int32) (g_oValue : Nat → Int64) (g_uOutput : Nat → Int32) (g_uIs : Nat → Int32) (k : Int32 → Int64 → (Nat → Int32) → Option (Int64 × (Nat → Int32))) : Prop :=
  ∀ (x1 : Int32) (x2 : Int64) (u0 : Nat → Int32) (res : Int64 × (Nat → Int32)), k x1 x2 u0 = some res → ∀ (H : Heap) (locs : List Loc) (ls : Array Slot), va_P D classes [(o, .inr (12, mo q u0)), ((q 10), .inl (cy 1, 1616, .inl g_work)), ((q 11), .inl (cy 3, 202, .inl g_isBad)), ((q 25), .inl (cy 2, 11600, .inr (.inl g_oValue))), ((q 29), .inl (cy 1, 11600, .inl g_uOutput)), ((q 33), .inl (cy 3, 11600, .inl g_uIs))] H → va_D A [(o, .inr (12, mo q u0)), ((q 10), .inl (cy 1, 1616, .inl g_work)), ((q 11), .inl (cy 3, 202, .inl g_isBad)), ((q 25), .inl (cy 2, 11600, .inr (.inl g_oValue))), ((q 29), .inl (cy 1, 11600, .inl g_uOutput)), ((q 33), .inl (cy 3, 11600, .inl g_uIs))] → va_S A s.heap H locs → lv_has ls 5 [(0, .ref o), (1, .int x1), (2, .long x2)] → W p l e rm_M_count2 s m args below meth c H locs 0 0 (MQ below (q_M_count2 D cy A o q g_work g_isBad g_oValue g_uOutput g_uIs res) args s 0 0 A) (F0 m 106 ls [])
def I_M_count2_15 (p : Program) (l : Launch) (e : Env) (s : State) (m : MethodId) (args : Array Value) (below : List Frame) (meth : Method) (c : Code) (D : va_G) (cy : Nat → ClassId) (A : Nat → Prop) (ad : Nat → Nat) (o : Nat) (q : Nat → Nat) (g_work : Nat → Int32) (g_isBad : Nat → Int32) (g_oValue : Nat → Int64) (g_uOutput : Nat → Int32) (g_uIs : Nat → Int32) (k : Int32 → Int32 → (Nat → Int32) → Option (Int64 × (Nat → Int32))) : Prop :=
  ∀ (x1 : Int32) (y0 : Int32) (u0 : Nat → Int32) (res : Int64 × (Nat → Int32)), k x1 y0 u0 = some res → ∀ (H : Heap) (locs : List Loc) (ls : Array Slot), va_P D classes [(o, .inr (12, mo q u0)), ((q 10), .inl (cy 1, 1616, .inl g_work)), ((q 11), .inl (cy 3, 202, .inl g_isBad)), ((q 25), .inl (cy 2, 11600, .inr (.inl g_oValue))), ((q 29), .inl (cy 1, 11600, .inl g_uOutput)), ((q 33), .inl (cy 3, 11600, .inl g_uIs))] H → va_D A [(o, .inr (12, mo q u0)), ((q 10), .inl (cy 1, 1616, .inl g_work)), ((q 11), .inl (cy 3, 202, .inl g_isBad)), ((q 25), .inl (cy 2, 11600, .inr (.inl g_oValue))), ((q 29), .inl (cy 1, 11600, .inl g_uOutput)), ((q 33), .inl (cy 3, 11600, .inl g_uIs))] → va_S A s.heap H locs → lv_has ls 5 [(0, .ref o), (1, .int x1)] → W p l e rm_M_count2 s m args below meth c H locs 0 0 (MQ below (q_M_count2 D cy A o q g_work g_isBad g_oValue g_uOutput g_uIs res) args s 0 0 A) (F0 m 15 ls [.int y0, .ref o])
def I_M_count2_10 (p : Program) (l : Launch) (e : Env) (s : State) (m : MethodId) (args : Array Value) (below : List Frame) (meth : Method) (c : Code) (D : va_G) (cy : Nat → ClassId) (A : Nat → Prop) (ad : Nat → Nat) (o : Nat) (q : Nat → Nat) (g_work : Nat → Int32) (g_isBad : Nat → Int32) (g_oValue : Nat → Int64) (g_uOutput : Nat → Int32) (g_uIs : Nat → Int32) (k : Int32 → (Nat → Int32) → Option (Int64 × (Nat → Int32))) : Prop :=
  ∀ (x1 : Int32) (u0 : Nat → Int32) (res : Int64 × (Nat → Int32)), k x1 u0 = some res → ∀ (H : Heap) (locs : List Loc) (ls : Array Slot), va_P D classes [(o, .inr (12, mo q u0)), ((q 10), .inl (cy 1, 1616, .inl g_work)), ((q 11), .inl (cy 3, 202, .inl g_isBad)), ((q 25), .inl (cy 2, 11600, .inr (.inl g_oValue))), ((q 29), .inl (cy 1, 11600, .inl g_uOutput)), ((q 33), .inl (cy 3, 11600, .inl g_uIs))] H → va_D A [(o, .inr (12, mo q u0)), ((q 10), .inl (cy 1, 1616, .inl g_work)), ((q 11), .inl (cy 3, 202, .inl g_isBad)), ((q 25), .inl (cy 2, 11600, .inr (.inl g_oValue))), ((q 29), .inl (cy 1, 11600, .inl g_uOutput)), ((q 33), .inl (cy 3, 11600, .inl g_uIs))] → va_S A s.heap H locs → lv_has ls 5 [(0, .ref o), (1, .int x1)] → W p l e rm_M_count2 s m args below meth c H locs 0 0 (MQ below (q_M_count2 D cy A o q g_work g_isBad g_oValue g_uOutput g_uIs res) args s 0 0 A) (F0 m 10 ls [.ref o])
def I_M_count2_e (p : Program) (l : Launch) (e : Env) (s : State) (m : MethodId) (args : Array Value) (below : List Frame) (meth : Method) (c : Code) (D : va_G) (cy : Nat → ClassId) (A : Nat → Prop) (ad : Nat → Nat) (o : Nat) (q : Nat → Nat) (g_work : Nat → Int32) (g_isBad : Nat → Int32) (g_oValue : Nat → Int64) (g_uOutput : Nat → Int32) (g_uIs : Nat → Int32) (k : Int32 → (Nat → Int32) → Option (Int64 × (Nat → Int32))) : Prop :=
  ∀ (a1 : Int32) (u0 : Nat → Int32) (res : Int64 × (Nat → Int32)), k a1 u0 = some res → ∀ (H : Heap) (locs : List Loc) (ls : Array Slot), va_P D classes [(o, .inr (12, mo q u0)), ((q 10), .inl (cy 1, 1616, .inl g_work)), ((q 11), .inl (cy 3, 202, .inl g_isBad)), ((q 25), .inl (cy 2, 11600, .inr (.inl g_oValue))), ((q 29), .inl (cy 1, 11600, .inl g_uOutput)), ((q 33), .inl (cy 3, 11600, .inl g_uIs))] H → va_D A [(o, .inr (12, mo q u0)), ((q 10), .inl (cy 1, 1616, .inl g_work)), ((q 11), .inl (cy 3, 202, .inl g_isBad)), ((q 25), .inl (cy 2, 11600, .inr (.inl g_oValue))), ((q 29), .inl (cy 1, 11600, .inl g_uOutput)), ((q 33), .inl (cy 3, 11600, .inl g_uIs))] → va_S A s.heap H locs → lv_has ls 5 [(0, .ref o), (1, .int a1)] → W p l e rm_M_count2 s m args below meth c H locs 0 0 (MQ below (q_M_count2 D cy A o q g_work g_isBad g_oValue g_uOutput g_uIs res) args s 0 0 A) (F0 m 0 ls [])
def xb_M_count2_98 (fu : Nat) (g_work : Nat → Int32) (g_isBad : Nat → Int32) (g_oValue : Nat → Int64) (g_uOutput : Nat → Int32) (g_uIs : Nat → Int32) (k_75 : Int64 → Int32 → (Nat → Int32) → Option (Int64 × (Nat → Int32))) (x2 : Int64) (x4 : Int32) (u0 : Nat → Int32) : Option (Int64 × (Nat → Int32)) :=
  bnd (x4 + (1 : Int32)) fun v1 => k_75 x2 v1 u0
set_option maxHeartbeats 8000000 in
set_option maxRecDepth 100000 in
theorem wb_M_count2_98 {p : Program} {l : Launch} {e : Env} {s : State} {m : MethodId} {args : Array Value} {below : List Frame} {meth : Method} {c : Code} {D : va_G} {cy : Nat → ClassId} {A : Nat → Prop} {ad : Nat → Nat} {o : Nat} {q : Nat → Nat} {g_work : Nat → Int32} {g_isBad : Nat → Int32} {g_oValue : Nat → Int64} {g_uOutput : Nat → Int32} {g_uIs : Nat → Int32} {fu : Nat} {k_75 : Int64 → Int32 → (Nat → Int32) → Option (Int64 × (Nat → Int32))} (F : Fx p s m args meth c b_M_count2 5 "CoinKeeperModel" "count" (some .long) D cy ad A) (hk_75 : I_M_count2_75 p l e s m args below meth c D cy A ad o q g_work g_isBad g_oValue g_uOutput g_uIs k_75) : I_M_count2_98 p l e s m args below meth c D cy A ad o q g_work g_isBad g_oValue g_uOutput g_uIs (xb_M_count2_98 fu g_work g_isBad g_oValue g_uOutput g_uIs k_75) := by
  obtain ⟨hx, hb, hr, hml, hown, hts, hlocks, hK, hA, hSt, hnm, hex⟩ := id F
  intro x2 x4 u0 res hf H locs ls hP hD hS hl
  unfold xb_M_count2_98 at hf
  obtain ⟨v1, ev, hf⟩ := bne hf
  refine lv_iinc (v := v1) (lv' := [(4, .int v1), (0, .ref o), (2, .long x2)]) hx hb d_M_count2_98 hl (k := 2) rfl (by rw [ev]; rfl) (by decide) rfl (fun ls hl => ?_)
  clear ev
  refine lv_goto (tgt := 75) hx hb d_M_count2_101 (by decide) ?_
  exact hk_75 _ _ _ _ hf _ _ _ hP hD hS (lv_sub hl [1, 2, 0] rfl)
def xb_M_count2_75 (fu : Nat) (g_work : Nat → Int32) (g_isBad : Nat → Int32) (g_oValue : Nat → Int64) (g_uOutput : Nat → Int32) (g_uIs : Nat → Int32) (k_75 : Int64 → Int32 → (Nat → Int32) → Option (Int64 × (Nat → Int32))) (x2 : Int64) (x4 : Int32) (u0 : Nat → Int32) : Option (Int64 × (Nat → Int32)) :=
  if (u0 3) ≤ x4 then (some (x2, u0)) else (gd (inb x4 202) <| bnd (g_isBad x4.toNatClampNeg) fun v1 => if v1 = 0 then (xb_M_count2_98 fu g_work g_isBad g_oValue g_uOutput g_uIs k_75 x2 x4 u0) else (bnd (x2 + (1 : Int64)) fun v2 => xb_M_count2_98 fu g_work g_isBad g_oValue g_uOutput g_uIs k_75 v2 x4 u0))
set_option maxHeartbeats 8000000 in
set_option maxRecDepth 100000 in
theorem wb_M_count2_75 {p : Program} {l : Launch} {e : Env} {s : State} {m : MethodId} {args : Array Value} {below : List Frame} {meth : Method} {c : Code} {D : va_G} {cy : Nat → ClassId} {A : Nat → Prop} {ad : Nat → Nat} {o : Nat} {q : Nat → Nat} {g_work : Nat → Int32} {g_isBad : Nat → Int32} {g_oValue : Nat → Int64} {g_uOutput : Nat → Int32} {g_uIs : Nat → Int32} {fu : Nat} {k_75 : Int64 → Int32 → (Nat → Int32) → Option (Int64 × (Nat → Int32))} (F : Fx p s m args meth c b_M_count2 5 "CoinKeeperModel" "count" (some .long) D cy ad A) (hk_75 : I_M_count2_75 p l e s m args below meth c D cy A ad o q g_work g_isBad g_oValue g_uOutput g_uIs k_75) : I_M_count2_75 p l e s m args below meth c D cy A ad o q g_work g_isBad g_oValue g_uOutput g_uIs (xb_M_count2_75 fu g_work g_isBad g_oValue g_uOutput g_uIs k_75) := by
  obtain ⟨hx, hb, hr, hml, hown, hts, hlocks, hK, hA, hSt, hnm, hex⟩ := id F
  intro x2 x4 u0 res hf H locs ls hP hD hS hl
  unfold xb_M_count2_75 at hf
  refine lv_iload hx hb d_M_count2_75 (lv_at hl 2 rfl) ?_
  refine lv_aload_n hx hb d_M_count2_77 rfl (lv_at hl 0 rfl) ?_
  refine va_get (D := D) (ci := 12) (v := .int (u0 3)) (C := "CoinKeeperModel") (T := F_12) (N := 98) hx hb hts i_12 hown hK hP 0 rfl rfl 15 (by decide) (hts _ gw_1434) (fun _ h9 => h9) rfl d_M_count2_78 ?_
  refine lv_icmp_ge (tgt := 104) hx hb d_M_count2_81 (by decide) (fun cx => ?_) (fun cx => ?_)
  · have hf := ifp cx hf
    refine lv_lload_n hx hb d_M_count2_104 rfl (lv_at hl 1 rfl) ?_
    obtain rfl := Option.some.inj hf
    exact q_rl hx hb hr hlocks hK hP hD hS d_M_count2_105
  · have hf := ifn cx hf
    refine lv_aload_n hx hb d_M_count2_84 rfl (lv_at hl 0 rfl) ?_
    refine va_get (D := D) (ci := 12) (v := .ref (q 11)) (C := "CoinKeeperModel") (T := F_12) (N := 98) hx hb hts i_12 hown hK hP 0 rfl rfl 14 (by decide) (hts _ gw_1433) (fun _ h9 => h9) rfl d_M_count2_85 ?_
    refine lv_iload hx hb d_M_count2_88 (lv_at hl 2 rfl) ?_
    obtain ⟨hg, hf⟩ := gdp hf
    refine va_zald hx hb hK hP 2 3 rfl rfl (inb_in hg) d_M_count2_90 ?_
    refine lv_topi (fun v1 ev => ?_)
    have hf := bn ev hf
    clear ev
    refine lv_if_eq (tgt := 98) hx hb d_M_count2_91 (by decide) (fun cx => ?_) (fun cx => ?_)
    · have hf := ifp cx hf
      exact wb_M_count2_98 (fu := fu) F hk_75 _ _ _ _ hf _ _ _ hP hD hS (lv_sub hl [0, 1, 2] rfl)
    · have hf := ifn cx hf
      refine lv_lload_n hx hb d_M_count2_94 rfl (lv_at hl 1 rfl) ?_
      refine lv_lconst (v := 1) hx hb d_M_count2_95 (by decide) ?_
      refine lv_ladd hx hb d_M_count2_96 ?_
      refine lv_topl (fun v2 ev => ?_)
      have hf := bn ev hf
      clear ev
      refine lv_lstore_n (lv' := [(2, .long v2), (0, .ref o), (4, .int x4)]) hx hb d_M_count2_97 rfl hl (by decide) rfl (fun ls hl => ?_)
      exact wb_M_count2_98 (fu := fu) F hk_75 _ _ _ _ hf _ _ _ hP hD hS (lv_sub hl [1, 0, 2] rfl)
def x_M_count2_75 (fu : Nat) (g_work : Nat → Int32) (g_isBad : Nat → Int32) (g_oValue : Nat → Int64) (g_uOutput : Nat → Int32) (g_uIs : Nat → Int32) : Nat → Int64 → Int32 → (Nat → Int32) → Option (Int64 × (Nat → Int32))
  | 0 => fun _ _ _ => none
  | n + 1 => xb_M_count2_75 fu g_work g_isBad g_oValue g_uOutput g_uIs (x_M_count2_75 fu g_work g_isBad g_oValue g_uOutput g_uIs n)
theorem w_M_count2_75 {p : Program} {l : Launch} {e : Env} {s : State} {m : MethodId} {args : Array Value} {below : List Frame} {meth : Method} {c : Code} {D : va_G} {cy : Nat → ClassId} {A : Nat → Prop} {ad : Nat → Nat} {o : Nat} {q : Nat → Nat} {g_work : Nat → Int32} {g_isBad : Nat → Int32} {g_oValue : Nat → Int64} {g_uOutput : Nat → Int32} {g_uIs : Nat → Int32} {fu : Nat} (F : Fx p s m args meth c b_M_count2 5 "CoinKeeperModel" "count" (some .long) D cy ad A) : ∀ n : Nat, I_M_count2_75 p l e s m args below meth c D cy A ad o q g_work g_isBad g_oValue g_uOutput g_uIs (x_M_count2_75 fu g_work g_isBad g_oValue g_uOutput g_uIs n)
  | 0 => fun _ _ _ _ hf => nomatch (show (none : Option (Int64 × (Nat → Int32))) = some _ from hf)
  | n + 1 => wb_M_count2_75 F (w_M_count2_75 F n)
def xb_M_count2_152 (fu : Nat) (g_work : Nat → Int32) (g_isBad : Nat → Int32) (g_oValue : Nat → Int64) (g_uOutput : Nat → Int32) (g_uIs : Nat → Int32) (k_109 : Int32 → Int64 → Int32 → (Nat → Int32) → Option (Int64 × (Nat → Int32))) (x1 : Int32) (x2 : Int64) (x4 : Int32) (u0 : Nat → Int32) : Option (Int64 × (Nat → Int32)) :=
  bnd (x4 + (1 : Int32)) fun v1 => k_109 x1 x2 v1 u0
set_option maxHeartbeats 8000000 in
set_option maxRecDepth 100000 in
theorem wb_M_count2_152 {p : Program} {l : Launch} {e : Env} {s : State} {m : MethodId} {args : Array Value} {below : List Frame} {meth : Method} {c : Code} {D : va_G} {cy : Nat → ClassId} {A : Nat → Prop} {ad : Nat → Nat} {o : Nat} {q : Nat → Nat} {g_work : Nat → Int32} {g_isBad : Nat → Int32} {g_oValue : Nat → Int64} {g_uOutput : Nat → Int32} {g_uIs : Nat → Int32} {fu : Nat} {k_109 : Int32 → Int64 → Int32 → (Nat → Int32) → Option (Int64 × (Nat → Int32))} (F : Fx p s m args meth c b_M_count2 5 "CoinKeeperModel" "count" (some .long) D cy ad A) (hk_109 : I_M_count2_109 p l e s m args below meth c D cy A ad o q g_work g_isBad g_oValue g_uOutput g_uIs k_109) : I_M_count2_152 p l e s m args below meth c D cy A ad o q g_work g_isBad g_oValue g_uOutput g_uIs (xb_M_count2_152 fu g_work g_isBad g_oValue g_uOutput g_uIs k_109) := by
  obtain ⟨hx, hb, hr, hml, hown, hts, hlocks, hK, hA, hSt, hnm, hex⟩ := id F
  intro x1 x2 x4 u0 res hf H locs ls hP hD hS hl
  unfold xb_M_count2_152 at hf
  obtain ⟨v1, ev, hf⟩ := bne hf
  refine lv_iinc (v := v1) (lv' := [(4, .int v1), (0, .ref o), (1, .int x1), (2, .long x2)]) hx hb d_M_count2_152 hl (k := 3) rfl (by rw [ev]; rfl) (by decide) rfl (fun ls hl => ?_)
  clear ev
  refine lv_goto (tgt := 109) hx hb d_M_count2_155 (by decide) ?_
  exact hk_109 _ _ _ _ _ hf _ _ _ hP hD hS (lv_sub hl [1, 2, 3, 0] rfl)
def xb_M_count2_150 (fu : Nat) (g_work : Nat → Int32) (g_isBad : Nat → Int32) (g_oValue : Nat → Int64) (g_uOutput : Nat → Int32) (g_uIs : Nat → Int32) (k_109 : Int32 → Int64 → Int32 → (Nat → Int32) → Option (Int64 × (Nat → Int32))) (x1 : Int32) (x4 : Int32) (y0 : Int64) (y1 : Int64) (u0 : Nat → Int32) : Option (Int64 × (Nat → Int32)) :=
  bnd (y1 + y0) fun v1 => xb_M_count2_152 fu g_work g_isBad g_oValue g_uOutput g_uIs k_109 x1 v1 x4 u0
set_option maxHeartbeats 8000000 in
set_option maxRecDepth 100000 in
theorem wb_M_count2_150 {p : Program} {l : Launch} {e : Env} {s : State} {m : MethodId} {args : Array Value} {below : List Frame} {meth : Method} {c : Code} {D : va_G} {cy : Nat → ClassId} {A : Nat → Prop} {ad : Nat → Nat} {o : Nat} {q : Nat → Nat} {g_work : Nat → Int32} {g_isBad : Nat → Int32} {g_oValue : Nat → Int64} {g_uOutput : Nat → Int32} {g_uIs : Nat → Int32} {fu : Nat} {k_109 : Int32 → Int64 → Int32 → (Nat → Int32) → Option (Int64 × (Nat → Int32))} (F : Fx p s m args meth c b_M_count2 5 "CoinKeeperModel" "count" (some .long) D cy ad A) (hk_109 : I_M_count2_109 p l e s m args below meth c D cy A ad o q g_work g_isBad g_oValue g_uOutput g_uIs k_109) : I_M_count2_150 p l e s m args below meth c D cy A ad o q g_work g_isBad g_oValue g_uOutput g_uIs (xb_M_count2_150 fu g_work g_isBad g_oValue g_uOutput g_uIs k_109) := by
  obtain ⟨hx, hb, hr, hml, hown, hts, hlocks, hK, hA, hSt, hnm, hex⟩ := id F
  intro x1 x4 y0 y1 u0 res hf H locs ls hP hD hS hl
  unfold xb_M_count2_150 at hf
  refine lv_ladd hx hb d_M_count2_150 ?_
  refine lv_topl (fun v1 ev => ?_)
  have hf := bn ev hf
  clear ev
  refine lv_lstore_n (lv' := [(2, .long v1), (0, .ref o), (1, .int x1), (4, .int x4)]) hx hb d_M_count2_151 rfl hl (by decide) rfl (fun ls hl => ?_)
  exact wb_M_count2_152 (fu := fu) F hk_109 _ _ _ _ _ hf _ _ _ hP hD hS (lv_sub hl [1, 2, 0, 3] rfl)
def xb_M_count2_109 (fu : Nat) (g_work : Nat → Int32) (g_isBad : Nat → Int32) (g_oValue : Nat → Int64) (g_uOutput : Nat → Int32) (g_uIs : Nat → Int32) (k_109 : Int32 → Int64 → Int32 → (Nat → Int32) → Option (Int64 × (Nat → Int32))) (x1 : Int32) (x2 : Int64) (x4 : Int32) (u0 : Nat → Int32) : Option (Int64 × (Nat → Int32)) :=
  if (u0 19) ≤ x4 then (some (x2, u0)) else (gd (inb x4 11600) <| bnd (g_uIs x4.toNatClampNeg) fun v1 => if v1 = 0 then (xb_M_count2_152 fu g_work g_isBad g_oValue g_uOutput g_uIs k_109 x1 x2 x4 u0) else (if x1 = (2 : Int32) then (xb_M_count2_150 fu g_work g_isBad g_oValue g_uOutput g_uIs k_109 x1 x4 (1 : Int64) x2 u0) else (gd (inb x4 11600) <| bnd (g_uOutput x4.toNatClampNeg) fun v2 => gd (inb v2 11600) <| bnd (g_oValue v2.toNatClampNeg) fun v3 => xb_M_count2_150 fu g_work g_isBad g_oValue g_uOutput g_uIs k_109 x1 x4 v3 x2 u0)))
set_option maxHeartbeats 8000000 in
set_option maxRecDepth 100000 in
theorem wb_M_count2_109 {p : Program} {l : Launch} {e : Env} {s : State} {m : MethodId} {args : Array Value} {below : List Frame} {meth : Method} {c : Code} {D : va_G} {cy : Nat → ClassId} {A : Nat → Prop} {ad : Nat → Nat} {o : Nat} {q : Nat → Nat} {g_work : Nat → Int32} {g_isBad : Nat → Int32} {g_oValue : Nat → Int64} {g_uOutput : Nat → Int32} {g_uIs : Nat → Int32} {fu : Nat} {k_109 : Int32 → Int64 → Int32 → (Nat → Int32) → Option (Int64 × (Nat → Int32))} (F : Fx p s m args meth c b_M_count2 5 "CoinKeeperModel" "count" (some .long) D cy ad A) (hk_109 : I_M_count2_109 p l e s m args below meth c D cy A ad o q g_work g_isBad g_oValue g_uOutput g_uIs k_109) : I_M_count2_109 p l e s m args below meth c D cy A ad o q g_work g_isBad g_oValue g_uOutput g_uIs (xb_M_count2_109 fu g_work g_isBad g_oValue g_uOutput g_uIs k_109) := by
  obtain ⟨hx, hb, hr, hml, hown, hts, hlocks, hK, hA, hSt, hnm, hex⟩ := id F
  intro x1 x2 x4 u0 res hf H locs ls hP hD hS hl
  unfold xb_M_count2_109 at hf
  refine lv_iload hx hb d_M_count2_109 (lv_at hl 3 rfl) ?_
  refine lv_aload_n hx hb d_M_count2_111 rfl (lv_at hl 0 rfl) ?_
  refine va_get (D := D) (ci := 12) (v := .int (u0 19)) (C := "CoinKeeperModel") (T := F_12) (N := 98) hx hb hts i_12 hown hK hP 0 rfl rfl 95 (by decide) (hts _ gw_1514) (fun _ h9 => h9) rfl d_M_count2_112 ?_
  refine lv_icmp_ge (tgt := 158) hx hb d_M_count2_115 (by decide) (fun cx => ?_) (fun cx => ?_)
  · have hf := ifp cx hf
    refine lv_lload_n hx hb d_M_count2_158 rfl (lv_at hl 2 rfl) ?_
    obtain rfl := Option.some.inj hf
    exact q_rl hx hb hr hlocks hK hP hD hS d_M_count2_159
  · have hf := ifn cx hf
    refine lv_aload_n hx hb d_M_count2_118 rfl (lv_at hl 0 rfl) ?_
    refine va_get (D := D) (ci := 12) (v := .ref (q 33)) (C := "CoinKeeperModel") (T := F_12) (N := 98) hx hb hts i_12 hown hK hP 0 rfl rfl 41 (by decide) (hts _ gw_1460) (fun _ h9 => h9) rfl d_M_count2_119 ?_
    refine lv_iload hx hb d_M_count2_122 (lv_at hl 3 rfl) ?_
    obtain ⟨hg, hf⟩ := gdp hf
    refine va_zald hx hb hK hP 5 3 rfl rfl (inb_in hg) d_M_count2_124 ?_
    refine lv_topi (fun v1 ev => ?_)
    have hf := bn ev hf
    clear ev
    refine lv_if_eq (tgt := 152) hx hb d_M_count2_125 (by decide) (fun cx => ?_) (fun cx => ?_)
    · have hf := ifp cx hf
      exact wb_M_count2_152 (fu := fu) F hk_109 _ _ _ _ _ hf _ _ _ hP hD hS (lv_sub hl [0, 1, 2, 3] rfl)
    · have hf := ifn cx hf
      refine lv_lload_n hx hb d_M_count2_128 rfl (lv_at hl 2 rfl) ?_
      refine lv_iload_n hx hb d_M_count2_129 rfl (lv_at hl 1 rfl) ?_
      refine lv_iconst (v := 2) hx hb d_M_count2_130 (by decide) ?_
      refine lv_icmp_ne (tgt := 138) hx hb d_M_count2_131 (by decide) (fun cx => ?_) (fun cx => ?_)
      · have hf := ifn cx hf
        refine lv_aload_n hx hb d_M_count2_138 rfl (lv_at hl 0 rfl) ?_
        refine va_get (D := D) (ci := 12) (v := .ref (q 25)) (C := "CoinKeeperModel") (T := F_12) (N := 98) hx hb hts i_12 hown hK hP 0 rfl rfl 32 (by decide) (hts _ gw_1451) (fun _ h9 => h9) rfl d_M_count2_139 ?_
        refine lv_aload_n hx hb d_M_count2_142 rfl (lv_at hl 0 rfl) ?_
        refine va_get (D := D) (ci := 12) (v := .ref (q 29)) (C := "CoinKeeperModel") (T := F_12) (N := 98) hx hb hts i_12 hown hK hP 0 rfl rfl 37 (by decide) (hts _ gw_1456) (fun _ h9 => h9) rfl d_M_count2_143 ?_
        refine lv_iload hx hb d_M_count2_146 (lv_at hl 3 rfl) ?_
        obtain ⟨hg, hf⟩ := gdp hf
        refine va_iald hx hb hK hP 4 1 rfl rfl (inb_in hg) d_M_count2_148 ?_
        refine lv_topi (fun v2 ev => ?_)
        have hf := bn ev hf
        clear ev
        obtain ⟨hg, hf⟩ := gdp hf
        refine va_lald hx hb hK hP 3 2 rfl rfl (inb_in hg) d_M_count2_149 ?_
        refine lv_topl (fun v3 ev => ?_)
        have hf := bn ev hf
        clear ev
        exact wb_M_count2_150 (fu := fu) F hk_109 _ _ _ _ _ _ hf _ _ _ hP hD hS (lv_sub hl [0, 1, 3] rfl)
      · have hf := ifp cx hf
        refine lv_lconst (v := 1) hx hb d_M_count2_134 (by decide) ?_
        refine lv_goto (tgt := 150) hx hb d_M_count2_135 (by decide) ?_
        exact wb_M_count2_150 (fu := fu) F hk_109 _ _ _ _ _ _ hf _ _ _ hP hD hS (lv_sub hl [0, 1, 3] rfl)
def x_M_count2_109 (fu : Nat) (g_work : Nat → Int32) (g_isBad : Nat → Int32) (g_oValue : Nat → Int64) (g_uOutput : Nat → Int32) (g_uIs : Nat → Int32) : Nat → Int32 → Int64 → Int32 → (Nat → Int32) → Option (Int64 × (Nat → Int32))
  | 0 => fun _ _ _ _ => none
  | n + 1 => xb_M_count2_109 fu g_work g_isBad g_oValue g_uOutput g_uIs (x_M_count2_109 fu g_work g_isBad g_oValue g_uOutput g_uIs n)
theorem w_M_count2_109 {p : Program} {l : Launch} {e : Env} {s : State} {m : MethodId} {args : Array Value} {below : List Frame} {meth : Method} {c : Code} {D : va_G} {cy : Nat → ClassId} {A : Nat → Prop} {ad : Nat → Nat} {o : Nat} {q : Nat → Nat} {g_work : Nat → Int32} {g_isBad : Nat → Int32} {g_oValue : Nat → Int64} {g_uOutput : Nat → Int32} {g_uIs : Nat → Int32} {fu : Nat} (F : Fx p s m args meth c b_M_count2 5 "CoinKeeperModel" "count" (some .long) D cy ad A) : ∀ n : Nat, I_M_count2_109 p l e s m args below meth c D cy A ad o q g_work g_isBad g_oValue g_uOutput g_uIs (x_M_count2_109 fu g_work g_isBad g_oValue g_uOutput g_uIs n)
  | 0 => fun _ _ _ _ _ hf => nomatch (show (none : Option (Int64 × (Nat → Int32))) = some _ from hf)
  | n + 1 => wb_M_count2_109 F (w_M_count2_109 F n)
def xb_M_count2_106 (fu : Nat) (g_work : Nat → Int32) (g_isBad : Nat → Int32) (g_oValue : Nat → Int64) (g_uOutput : Nat → Int32) (g_uIs : Nat → Int32) (x1 : Int32) (x2 : Int64) (u0 : Nat → Int32) : Option (Int64 × (Nat → Int32)) :=
  x_M_count2_109 fu g_work g_isBad g_oValue g_uOutput g_uIs fu x1 x2 (0 : Int32) u0
set_option maxHeartbeats 8000000 in
set_option maxRecDepth 100000 in
theorem wb_M_count2_106 {p : Program} {l : Launch} {e : Env} {s : State} {m : MethodId} {args : Array Value} {below : List Frame} {meth : Method} {c : Code} {D : va_G} {cy : Nat → ClassId} {A : Nat → Prop} {ad : Nat → Nat} {o : Nat} {q : Nat → Nat} {g_work : Nat → Int32} {g_isBad : Nat → Int32} {g_oValue : Nat → Int64} {g_uOutput : Nat → Int32} {g_uIs : Nat → Int32} {fu : Nat} (F : Fx p s m args meth c b_M_count2 5 "CoinKeeperModel" "count" (some .long) D cy ad A) : I_M_count2_106 p l e s m args below meth c D cy A ad o q g_work g_isBad g_oValue g_uOutput g_uIs (xb_M_count2_106 fu g_work g_isBad g_oValue g_uOutput g_uIs) := by
  obtain ⟨hx, hb, hr, hml, hown, hts, hlocks, hK, hA, hSt, hnm, hex⟩ := id F
  intro x1 x2 u0 res hf H locs ls hP hD hS hl
  unfold xb_M_count2_106 at hf
  refine lv_iconst (v := 0) hx hb d_M_count2_106 (by decide) ?_
  refine lv_istore (lv' := [(4, .int (0 : Int32)), (0, .ref o), (1, .int x1), (2, .long x2)]) hx hb d_M_count2_107 hl (by decide) rfl (fun ls hl => ?_)
  exact w_M_count2_109 F fu _ _ _ _ _ hf _ _ _ hP hD hS (lv_sub hl [1, 2, 3, 0] rfl)
def xb_M_count2_15 (fu : Nat) (g_work : Nat → Int32) (g_isBad : Nat → Int32) (g_oValue : Nat → Int64) (g_uOutput : Nat → Int32) (g_uIs : Nat → Int32) (x1 : Int32) (y0 : Int32) (u0 : Nat → Int32) : Option (Int64 × (Nat → Int32)) :=
  bnd (upd u0 2 y0) fun z1 => if (z1 2) ≤ 0 then (if x1 = 0 then (bnd (((z1 3) - (1 : Int32)).toInt64) fun v2 => some (v2, z1)) else if x1 = 1 then (x_M_count2_75 fu g_work g_isBad g_oValue g_uOutput g_uIs fu (0 : Int64) (1 : Int32) z1) else if x1 = 2 then (xb_M_count2_106 fu g_work g_isBad g_oValue g_uOutput g_uIs x1 (0 : Int64) z1) else if x1 = 3 then (xb_M_count2_106 fu g_work g_isBad g_oValue g_uOutput g_uIs x1 (0 : Int64) z1) else if x1 = 4 then (bnd ((8 : Int32) * (z1 4)) fun v3 => bnd (v3 + (1 : Int32)) fun v4 => gd (inb v4 1616) <| bnd (g_work v4.toNatClampNeg) fun v5 => bnd (v5.toInt64) fun v6 => bnd (v6 <<< ((32 : Int32).toInt64 &&& 63)) fun v7 => bnd ((8 : Int32) * (z1 4)) fun v8 => gd (inb v8 1616) <| bnd (g_work v8.toNatClampNeg) fun v9 => bnd (v9.toInt64) fun v10 => bnd (v7 ||| (v10 &&& (4294967295 : Int64))) fun v11 => some (v11, z1)) else (bnd ((z1 0).toInt64) fun v12 => some (v12, z1))) else (some ((0 : Int64), z1))
set_option maxHeartbeats 8000000 in
set_option maxRecDepth 100000 in
theorem wb_M_count2_15 {p : Program} {l : Launch} {e : Env} {s : State} {m : MethodId} {args : Array Value} {below : List Frame} {meth : Method} {c : Code} {D : va_G} {cy : Nat → ClassId} {A : Nat → Prop} {ad : Nat → Nat} {o : Nat} {q : Nat → Nat} {g_work : Nat → Int32} {g_isBad : Nat → Int32} {g_oValue : Nat → Int64} {g_uOutput : Nat → Int32} {g_uIs : Nat → Int32} {fu : Nat} (F : Fx p s m args meth c b_M_count2 5 "CoinKeeperModel" "count" (some .long) D cy ad A) : I_M_count2_15 p l e s m args below meth c D cy A ad o q g_work g_isBad g_oValue g_uOutput g_uIs (xb_M_count2_15 fu g_work g_isBad g_oValue g_uOutput g_uIs) := by
  obtain ⟨hx, hb, hr, hml, hown, hts, hlocks, hK, hA, hSt, hnm, hex⟩ := id F
  intro x1 y0 u0 res hf H locs ls hP hD hS hl
  unfold xb_M_count2_15 at hf
  refine va_put (D := D) (ci := 12) (v := .int y0) (ty := .int) (C := "CoinKeeperModel") (T := F_12) (N := 98) hx hb hts i_12 t_12 t_12_ok n_12 hown hK hP hD hS 0 rfl rfl 4 (by decide) (hts _ gw_1423) (fun _ h9 => h9) rfl (by decide +kernel) rfl rfl (Nat.le_of_ble_eq_true rfl) d_M_count2_15 (fun H locs hP hD hS => ?_)
  obtain ⟨z1, ev, hf⟩ := bne hf
  have hP : va_P D classes [(o, .inr (12, mo q z1)), ((q 10), .inl (cy 1, 1616, .inl g_work)), ((q 11), .inl (cy 3, 202, .inl g_isBad)), ((q 25), .inl (cy 2, 11600, .inr (.inl g_oValue))), ((q 29), .inl (cy 1, 11600, .inl g_uOutput)), ((q 33), .inl (cy 3, 11600, .inl g_uIs))] H := by rw [ev]; exact hP
  have hD : va_D A [(o, .inr (12, mo q z1)), ((q 10), .inl (cy 1, 1616, .inl g_work)), ((q 11), .inl (cy 3, 202, .inl g_isBad)), ((q 25), .inl (cy 2, 11600, .inr (.inl g_oValue))), ((q 29), .inl (cy 1, 11600, .inl g_uOutput)), ((q 33), .inl (cy 3, 11600, .inl g_uIs))] := by rw [ev]; exact hD
  clear ev
  refine lv_aload_n hx hb d_M_count2_18 rfl (lv_at hl 0 rfl) ?_
  refine va_get (D := D) (ci := 12) (v := .int (z1 2)) (C := "CoinKeeperModel") (T := F_12) (N := 98) hx hb hts i_12 hown hK hP 0 rfl rfl 4 (by decide) (hts _ gw_1423) (fun _ h9 => h9) rfl d_M_count2_19 ?_
  refine lv_if_le (tgt := 27) hx hb d_M_count2_22 (by decide) (fun cx => ?_) (fun cx => ?_)
  · have hf := ifp cx hf
    refine lv_lconst (v := 0) hx hb d_M_count2_27 (by decide) ?_
    refine lv_lstore_n (lv' := [(2, .long (0 : Int64)), (0, .ref o), (1, .int x1)]) hx hb d_M_count2_28 rfl hl (by decide) rfl (fun ls hl => ?_)
    refine lv_iload_n hx hb d_M_count2_29 rfl (lv_at hl 2 rfl) ?_
    by_cases cx : x1 = 0
    · have hf := ifp cx hf
      refine lv_tableIn (tgt := 64) (off := 34) hx hb d_M_count2_30 (by rw [cx]; decide) (by rw [cx]; decide) (by rw [cx]; decide +kernel) (by decide) ?_
      refine lv_aload_n hx hb d_M_count2_64 rfl (lv_at hl 1 rfl) ?_
      refine va_get (D := D) (ci := 12) (v := .int (z1 3)) (C := "CoinKeeperModel") (T := F_12) (N := 98) hx hb hts i_12 hown hK hP 0 rfl rfl 15 (by decide) (hts _ gw_1434) (fun _ h9 => h9) rfl d_M_count2_65 ?_
      refine lv_iconst (v := 1) hx hb d_M_count2_68 (by decide) ?_
      refine lv_isub hx hb d_M_count2_69 ?_
      refine lv_i2l hx hb d_M_count2_70 rfl ?_
      refine lv_topl (fun v2 ev => ?_)
      have hf := bn ev hf
      clear ev
      obtain rfl := Option.some.inj hf
      exact q_rl hx hb hr hlocks hK hP hD hS d_M_count2_71
    · have hf := ifn cx hf
      have cn_0 := lv_neT (a := 0) cx (by decide)
      clear cx
      by_cases cx : x1 = 1
      · have hf := ifp cx hf
        refine lv_tableIn (tgt := 72) (off := 42) hx hb d_M_count2_30 (by rw [cx]; decide) (by rw [cx]; decide) (by rw [cx]; decide +kernel) (by decide) ?_
        refine lv_iconst (v := 1) hx hb d_M_count2_72 (by decide) ?_
        refine lv_istore (lv' := [(4, .int (1 : Int32)), (2, .long (0 : Int64)), (0, .ref o), (1, .int x1)]) hx hb d_M_count2_73 hl (by decide) rfl (fun ls hl => ?_)
        exact w_M_count2_75 F fu _ _ _ _ hf _ _ _ hP hD hS (lv_sub hl [2, 1, 0] rfl)
      · have hf := ifn cx hf
        have cn_1 := lv_neT (a := 1) cx (by decide)
        clear cx
        by_cases cx : x1 = 2
        · have hf := ifp cx hf
          refine lv_tableIn (tgt := 106) (off := 76) hx hb d_M_count2_30 (by rw [cx]; decide) (by rw [cx]; decide) (by rw [cx]; decide +kernel) (by decide) ?_
          exact wb_M_count2_106 (fu := fu) F _ _ _ _ hf _ _ _ hP hD hS (lv_sub hl [1, 2, 0] rfl)
        · have hf := ifn cx hf
          have cn_2 := lv_neT (a := 2) cx (by decide)
          clear cx
          by_cases cx : x1 = 3
          · have hf := ifp cx hf
            refine lv_tableIn (tgt := 106) (off := 76) hx hb d_M_count2_30 (by rw [cx]; decide) (by rw [cx]; decide) (by rw [cx]; decide +kernel) (by decide) ?_
            exact wb_M_count2_106 (fu := fu) F _ _ _ _ hf _ _ _ hP hD hS (lv_sub hl [1, 2, 0] rfl)
          · have hf := ifn cx hf
            have cn_3 := lv_neT (a := 3) cx (by decide)
            clear cx
            by_cases cx : x1 = 4
            · have hf := ifp cx hf
              refine lv_tableIn (tgt := 160) (off := 130) hx hb d_M_count2_30 (by rw [cx]; decide) (by rw [cx]; decide) (by rw [cx]; decide +kernel) (by decide) ?_
              refine lv_aload_n hx hb d_M_count2_160 rfl (lv_at hl 1 rfl) ?_
              refine va_get (D := D) (ci := 12) (v := .ref (q 10)) (C := "CoinKeeperModel") (T := F_12) (N := 98) hx hb hts i_12 hown hK hP 0 rfl rfl 13 (by decide) (hts _ gw_1432) (fun _ h9 => h9) rfl d_M_count2_161 ?_
              refine lv_bipush (v := 8) hx hb d_M_count2_164 (by decide) ?_
              refine lv_aload_n hx hb d_M_count2_166 rfl (lv_at hl 1 rfl) ?_
              refine va_get (D := D) (ci := 12) (v := .int (z1 4)) (C := "CoinKeeperModel") (T := F_12) (N := 98) hx hb hts i_12 hown hK hP 0 rfl rfl 16 (by decide) (hts _ gw_1435) (fun _ h9 => h9) rfl d_M_count2_167 ?_
              refine lv_imul hx hb d_M_count2_170 ?_
              refine lv_topi (fun v3 ev => ?_)
              have hf := bn ev hf
              clear ev
              refine lv_iconst (v := 1) hx hb d_M_count2_171 (by decide) ?_
              refine lv_iadd hx hb d_M_count2_172 ?_
              refine lv_topi (fun v4 ev => ?_)
              have hf := bn ev hf
              clear ev
              obtain ⟨hg, hf⟩ := gdp hf
              refine va_iald hx hb hK hP 1 1 rfl rfl (inb_in hg) d_M_count2_173 ?_
              refine lv_topi (fun v5 ev => ?_)
              have hf := bn ev hf
              clear ev
              refine lv_i2l hx hb d_M_count2_174 rfl ?_
              refine lv_topl (fun v6 ev => ?_)
              have hf := bn ev hf
              clear ev
              refine lv_bipush (v := 32) hx hb d_M_count2_175 (by decide) ?_
              refine lv_lshl hx hb d_M_count2_177 rfl ?_
              refine lv_topl (fun v7 ev => ?_)
              have hf := bn ev hf
              clear ev
              refine lv_aload_n hx hb d_M_count2_178 rfl (lv_at hl 1 rfl) ?_
              refine va_get (D := D) (ci := 12) (v := .ref (q 10)) (C := "CoinKeeperModel") (T := F_12) (N := 98) hx hb hts i_12 hown hK hP 0 rfl rfl 13 (by decide) (hts _ gw_1432) (fun _ h9 => h9) rfl d_M_count2_179 ?_
              refine lv_bipush (v := 8) hx hb d_M_count2_182 (by decide) ?_
              refine lv_aload_n hx hb d_M_count2_184 rfl (lv_at hl 1 rfl) ?_
              refine va_get (D := D) (ci := 12) (v := .int (z1 4)) (C := "CoinKeeperModel") (T := F_12) (N := 98) hx hb hts i_12 hown hK hP 0 rfl rfl 16 (by decide) (hts _ gw_1435) (fun _ h9 => h9) rfl d_M_count2_185 ?_
              refine lv_imul hx hb d_M_count2_188 ?_
              refine lv_topi (fun v8 ev => ?_)
              have hf := bn ev hf
              clear ev
              obtain ⟨hg, hf⟩ := gdp hf
              refine va_iald hx hb hK hP 1 1 rfl rfl (inb_in hg) d_M_count2_189 ?_
              refine lv_topi (fun v9 ev => ?_)
              have hf := bn ev hf
              clear ev
              refine lv_i2l hx hb d_M_count2_190 rfl ?_
              refine lv_topl (fun v10 ev => ?_)
              have hf := bn ev hf
              clear ev
              refine lv_ldc2 (v := 4294967295) hx hb hown (hts _ gw_1390) d_M_count2_191 ?_
              refine lv_land hx hb d_M_count2_194 ?_
              refine lv_lor hx hb d_M_count2_195 ?_
              refine lv_topl (fun v11 ev => ?_)
              have hf := bn ev hf
              clear ev
              obtain rfl := Option.some.inj hf
              exact q_rl hx hb hr hlocks hK hP hD hS d_M_count2_196
            · have hf := ifn cx hf
              have cn_4 := lv_neT (a := 4) cx (by decide)
              clear cx
              refine lv_tableOut (tgt := 197) hx hb d_M_count2_30 (by omega) (by decide) ?_
              clear cn_0 cn_1 cn_2 cn_3 cn_4
              refine lv_aload_n hx hb d_M_count2_197 rfl (lv_at hl 1 rfl) ?_
              refine va_get (D := D) (ci := 12) (v := .int (z1 0)) (C := "CoinKeeperModel") (T := F_12) (N := 98) hx hb hts i_12 hown hK hP 0 rfl rfl 2 (by decide) (hts _ gw_1421) (fun _ h9 => h9) rfl d_M_count2_198 ?_
              refine lv_i2l hx hb d_M_count2_201 rfl ?_
              refine lv_topl (fun v12 ev => ?_)
              have hf := bn ev hf
              clear ev
              obtain rfl := Option.some.inj hf
              exact q_rl hx hb hr hlocks hK hP hD hS d_M_count2_202
  · have hf := ifn cx hf
    refine lv_lconst (v := 0) hx hb d_M_count2_25 (by decide) ?_
    obtain rfl := Option.some.inj hf
    exact q_rl hx hb hr hlocks hK hP hD hS d_M_count2_26
def xb_M_count2_10 (fu : Nat) (g_work : Nat → Int32) (g_isBad : Nat → Int32) (g_oValue : Nat → Int64) (g_uOutput : Nat → Int32) (g_uIs : Nat → Int32) (x1 : Int32) (u0 : Nat → Int32) : Option (Int64 × (Nat → Int32)) :=
  xb_M_count2_15 fu g_work g_isBad g_oValue g_uOutput g_uIs x1 (1 : Int32) u0
set_option maxHeartbeats 8000000 in
set_option maxRecDepth 100000 in
theorem wb_M_count2_10 {p : Program} {l : Launch} {e : Env} {s : State} {m : MethodId} {args : Array Value} {below : List Frame} {meth : Method} {c : Code} {D : va_G} {cy : Nat → ClassId} {A : Nat → Prop} {ad : Nat → Nat} {o : Nat} {q : Nat → Nat} {g_work : Nat → Int32} {g_isBad : Nat → Int32} {g_oValue : Nat → Int64} {g_uOutput : Nat → Int32} {g_uIs : Nat → Int32} {fu : Nat} (F : Fx p s m args meth c b_M_count2 5 "CoinKeeperModel" "count" (some .long) D cy ad A) : I_M_count2_10 p l e s m args below meth c D cy A ad o q g_work g_isBad g_oValue g_uOutput g_uIs (xb_M_count2_10 fu g_work g_isBad g_oValue g_uOutput g_uIs) := by
  obtain ⟨hx, hb, hr, hml, hown, hts, hlocks, hK, hA, hSt, hnm, hex⟩ := id F
  intro x1 u0 res hf H locs ls hP hD hS hl
  unfold xb_M_count2_10 at hf
  refine lv_iconst (v := 1) hx hb d_M_count2_10 (by decide) ?_
  refine lv_goto (tgt := 15) hx hb d_M_count2_11 (by decide) ?_
  exact wb_M_count2_15 (fu := fu) F _ _ _ _ hf _ _ _ hP hD hS (lv_sub hl [0, 1] rfl)
def x_M_count2 (fu : Nat) (g_work : Nat → Int32) (g_isBad : Nat → Int32) (g_oValue : Nat → Int64) (g_uOutput : Nat → Int32) (g_uIs : Nat → Int32) (a1 : Int32) (u0 : Nat → Int32) : Option (Int64 × (Nat → Int32)) :=
  if a1 < 0 then (xb_M_count2_10 fu g_work g_isBad g_oValue g_uOutput g_uIs a1 u0) else (if a1 ≤ (5 : Int32) then (xb_M_count2_15 fu g_work g_isBad g_oValue g_uOutput g_uIs a1 (0 : Int32) u0) else (xb_M_count2_10 fu g_work g_isBad g_oValue g_uOutput g_uIs a1 u0))
set_option maxHeartbeats 8000000 in
set_option maxRecDepth 100000 in
theorem we_M_count2 {p : Program} {l : Launch} {e : Env} {s : State} {m : MethodId} {args : Array Value} {below : List Frame} {meth : Method} {c : Code} {D : va_G} {cy : Nat → ClassId} {A : Nat → Prop} {ad : Nat → Nat} {o : Nat} {q : Nat → Nat} {g_work : Nat → Int32} {g_isBad : Nat → Int32} {g_oValue : Nat → Int64} {g_uOutput : Nat → Int32} {g_uIs : Nat → Int32} {fu : Nat} (F : Fx p s m args meth c b_M_count2 5 "CoinKeeperModel" "count" (some .long) D cy ad A) : I_M_count2_e p l e s m args below meth c D cy A ad o q g_work g_isBad g_oValue g_uOutput g_uIs (x_M_count2 fu g_work g_isBad g_oValue g_uOutput g_uIs) := by
  obtain ⟨hx, hb, hr, hml, hown, hts, hlocks, hK, hA, hSt, hnm, hex⟩ := id F
  intro a1 u0 res hf H locs ls hP hD hS hl
  unfold x_M_count2 at hf
  refine lv_aload_n hx hb d_M_count2_0 rfl (lv_at hl 0 rfl) ?_
  refine lv_iload_n hx hb d_M_count2_1 rfl (lv_at hl 1 rfl) ?_
  refine lv_if_lt (tgt := 10) hx hb d_M_count2_2 (by decide) (fun cx => ?_) (fun cx => ?_)
  · have hf := ifp cx hf
    exact wb_M_count2_10 (fu := fu) F _ _ _ hf _ _ _ hP hD hS (lv_sub hl [0, 1] rfl)
  · have hf := ifn cx hf
    refine lv_iload_n hx hb d_M_count2_5 rfl (lv_at hl 1 rfl) ?_
    refine lv_iconst (v := 5) hx hb d_M_count2_6 (by decide) ?_
    refine lv_icmp_le (tgt := 14) hx hb d_M_count2_7 (by decide) (fun cx => ?_) (fun cx => ?_)
    · have hf := ifp cx hf
      refine lv_iconst (v := 0) hx hb d_M_count2_14 (by decide) ?_
      exact wb_M_count2_15 (fu := fu) F _ _ _ _ hf _ _ _ hP hD hS (lv_sub hl [0, 1] rfl)
    · have hf := ifn cx hf
      exact wb_M_count2_10 (fu := fu) F _ _ _ hf _ _ _ hP hD hS (lv_sub hl [0, 1] rfl)
theorem c_M_count2 (l : Launch) (D : va_G) (cy : Nat → ClassId) (ad : Nat → Nat) (fu : Nat) (o : Nat) (q : Nat → Nat) (g_work : Nat → Int32) (g_isBad : Nat → Int32) (g_oValue : Nat → Int64) (g_uOutput : Nat → Int32) (g_uIs : Nat → Int32) (a1 : Int32) (u0 : Nat → Int32) (res : Int64 × (Nat → Int32)) (hf : x_M_count2 fu g_work g_isBad g_oValue g_uOutput g_uIs a1 u0 = some res) (sz : Nat) : Met l ({ cls := "CoinKeeperModel", name := "count", desc := "(I)J" } : Jvm.MethodName) (.code ({ cls := "CoinKeeperModel", name := "count", desc := "(I)J" } : Jvm.MethodName) b_M_count2 5 (some .long) :: gw) rm_M_count2 (va_Pc [.ref o, .int a1] (Pr D cy ad [(o, .inr (12, mo q u0)), ((q 10), .inl (cy 1, 1616, .inl g_work)), ((q 11), .inl (cy 3, 202, .inl g_isBad)), ((q 25), .inl (cy 2, 11600, .inr (.inl g_oValue))), ((q 29), .inl (cy 1, 11600, .inl g_uOutput)), ((q 33), .inl (cy 3, 11600, .inl g_uIs))] sz)) (q_M_count2 D cy (va_A [(o, .inr (12, mo q u0)), ((q 10), .inl (cy 1, 1616, .inl g_work)), ((q 11), .inl (cy 3, 202, .inl g_isBad)), ((q 25), .inl (cy 2, 11600, .inr (.inl g_oValue))), ((q 29), .inl (cy 1, 11600, .inl g_uOutput)), ((q 33), .inl (cy 3, 11600, .inl g_uIs))] sz) o q g_work g_isBad g_oValue g_uOutput g_uIs res) 0 0 (va_A [(o, .inr (12, mo q u0)), ((q 10), .inl (cy 1, 1616, .inl g_work)), ((q 11), .inl (cy 3, 202, .inl g_isBad)), ((q 25), .inl (cy 2, 11600, .inr (.inl g_oValue))), ((q 29), .inl (cy 1, 11600, .inl g_uOutput)), ((q 33), .inl (cy 3, 11600, .inl g_uIs))] sz) :=
  q_met (Qc := fun A => q_M_count2 D cy A o q g_work g_isBad g_oValue g_uOutput g_uIs res) (by decide) rfl rfl (Nat.le_of_ble_eq_true rfl) (fun p e s m below meth c ls F hP hD hS hl => we_M_count2 (fu := fu) F a1 u0 res hf _ _ _ hP hD hS hl) sz
abbrev b_M_digest : ByteArray := prog_14_method_90_code
theorem d_M_digest_0 : decode b_M_digest 0 = .ok (.aload_n 0, 1) := by decide +kernel
theorem d_M_digest_1 : decode b_M_digest 1 = .ok (.iconst 0, 1) := by decide +kernel
theorem d_M_digest_2 : decode b_M_digest 2 = .ok (.putfield 268, 3) := by decide +kernel
theorem d_M_digest_5 : decode b_M_digest 5 = .ok (.lconst 0, 1) := by decide +kernel
theorem d_M_digest_6 : decode b_M_digest 6 = .ok (.lstore_n 1, 1) := by decide +kernel
theorem d_M_digest_7 : decode b_M_digest 7 = .ok (.iconst 0, 1) := by decide +kernel
theorem d_M_digest_8 : decode b_M_digest 8 = .ok (.istore_n 3, 1) := by decide +kernel
theorem d_M_digest_9 : decode b_M_digest 9 = .ok (.iload_n 3, 1) := by decide +kernel
theorem d_M_digest_10 : decode b_M_digest 10 = .ok (.aload_n 0, 1) := by decide +kernel
theorem d_M_digest_11 : decode b_M_digest 11 = .ok (.getfield 635, 3) := by decide +kernel
theorem d_M_digest_14 : decode b_M_digest 14 = .ok (.if_icmp .ge 90, 3) := by decide +kernel
theorem d_M_digest_17 : decode b_M_digest 17 = .ok (.aload_n 0, 1) := by decide +kernel
theorem d_M_digest_18 : decode b_M_digest 18 = .ok (.getfield 114, 3) := by decide +kernel
theorem d_M_digest_21 : decode b_M_digest 21 = .ok (.iload_n 3, 1) := by decide +kernel
theorem d_M_digest_22 : decode b_M_digest 22 = .ok (.baload, 1) := by decide +kernel
theorem d_M_digest_23 : decode b_M_digest 23 = .ok (.ifCond .ne 6, 3) := by decide +kernel
theorem d_M_digest_26 : decode b_M_digest 26 = .ok (.goto 72, 3) := by decide +kernel
theorem d_M_digest_29 : decode b_M_digest 29 = .ok (.aload_n 0, 1) := by decide +kernel
theorem d_M_digest_30 : decode b_M_digest 30 = .ok (.getfield 101, 3) := by decide +kernel
theorem d_M_digest_33 : decode b_M_digest 33 = .ok (.iload_n 3, 1) := by decide +kernel
theorem d_M_digest_34 : decode b_M_digest 34 = .ok (.iaload, 1) := by decide +kernel
theorem d_M_digest_35 : decode b_M_digest 35 = .ok (.istore 4, 2) := by decide +kernel
theorem d_M_digest_37 : decode b_M_digest 37 = .ok (.aload_n 0, 1) := by decide +kernel
theorem d_M_digest_38 : decode b_M_digest 38 = .ok (.getfield 98, 3) := by decide +kernel
theorem d_M_digest_41 : decode b_M_digest 41 = .ok (.iload 4, 2) := by decide +kernel
theorem d_M_digest_43 : decode b_M_digest 43 = .ok (.iaload, 1) := by decide +kernel
theorem d_M_digest_44 : decode b_M_digest 44 = .ok (.istore 5, 2) := by decide +kernel
theorem d_M_digest_46 : decode b_M_digest 46 = .ok (.ldc2_w 678, 3) := by decide +kernel
theorem d_M_digest_49 : decode b_M_digest 49 = .ok (.ldc2_w 678, 3) := by decide +kernel
theorem d_M_digest_52 : decode b_M_digest 52 = .ok (.aload_n 0, 1) := by decide +kernel
theorem d_M_digest_53 : decode b_M_digest 53 = .ok (.getfield 55, 3) := by decide +kernel
theorem d_M_digest_56 : decode b_M_digest 56 = .ok (.bipush 8, 2) := by decide +kernel
theorem d_M_digest_58 : decode b_M_digest 58 = .ok (.iload 5, 2) := by decide +kernel
theorem d_M_digest_60 : decode b_M_digest 60 = .ok (.imul, 1) := by decide +kernel
theorem d_M_digest_61 : decode b_M_digest 61 = .ok (.iaload, 1) := by decide +kernel
theorem d_M_digest_62 : decode b_M_digest 62 = .ok (.i2l, 1) := by decide +kernel
theorem d_M_digest_63 : decode b_M_digest 63 = .ok (.lmul, 1) := by decide +kernel
theorem d_M_digest_64 : decode b_M_digest 64 = .ok (.iload 4, 2) := by decide +kernel
theorem d_M_digest_66 : decode b_M_digest 66 = .ok (.aload_n 0, 1) := by decide +kernel
theorem d_M_digest_67 : decode b_M_digest 67 = .ok (.getfield 64, 3) := by decide +kernel
theorem d_M_digest_70 : decode b_M_digest 70 = .ok (.iload 5, 2) := by decide +kernel
theorem d_M_digest_72 : decode b_M_digest 72 = .ok (.iaload, 1) := by decide +kernel
theorem d_M_digest_73 : decode b_M_digest 73 = .ok (.isub, 1) := by decide +kernel
theorem d_M_digest_74 : decode b_M_digest 74 = .ok (.i2l, 1) := by decide +kernel
theorem d_M_digest_75 : decode b_M_digest 75 = .ok (.ladd, 1) := by decide +kernel
theorem d_M_digest_76 : decode b_M_digest 76 = .ok (.lmul, 1) := by decide +kernel
theorem d_M_digest_77 : decode b_M_digest 77 = .ok (.aload_n 0, 1) := by decide +kernel
theorem d_M_digest_78 : decode b_M_digest 78 = .ok (.getfield 88, 3) := by decide +kernel
theorem d_M_digest_81 : decode b_M_digest 81 = .ok (.iload 4, 2) := by decide +kernel
theorem d_M_digest_83 : decode b_M_digest 83 = .ok (.laload, 1) := by decide +kernel
theorem d_M_digest_84 : decode b_M_digest 84 = .ok (.ladd, 1) := by decide +kernel
theorem d_M_digest_85 : decode b_M_digest 85 = .ok (.lstore 6, 2) := by decide +kernel
theorem d_M_digest_87 : decode b_M_digest 87 = .ok (.lload_n 1, 1) := by decide +kernel
theorem d_M_digest_88 : decode b_M_digest 88 = .ok (.lload 6, 2) := by decide +kernel
theorem d_M_digest_90 : decode b_M_digest 90 = .ok (.lload 6, 2) := by decide +kernel
theorem d_M_digest_92 : decode b_M_digest 92 = .ok (.lmul, 1) := by decide +kernel
theorem d_M_digest_93 : decode b_M_digest 93 = .ok (.lload 6, 2) := by decide +kernel
theorem d_M_digest_95 : decode b_M_digest 95 = .ok (.ladd, 1) := by decide +kernel
theorem d_M_digest_96 : decode b_M_digest 96 = .ok (.ladd, 1) := by decide +kernel
theorem d_M_digest_97 : decode b_M_digest 97 = .ok (.lstore_n 1, 1) := by decide +kernel
theorem d_M_digest_98 : decode b_M_digest 98 = .ok (.iinc 3 1, 3) := by decide +kernel
theorem d_M_digest_101 : decode b_M_digest 101 = .ok (.goto (-92), 3) := by decide +kernel
theorem d_M_digest_104 : decode b_M_digest 104 = .ok (.lload_n 1, 1) := by decide +kernel
theorem d_M_digest_105 : decode b_M_digest 105 = .ok (.lreturn, 1) := by decide +kernel
abbrev rm_M_digest : Room := { frames := 0, cells := 0, slots := 0, locals := 0 }
abbrev q_M_digest (D : va_G) (cy : Nat → ClassId) (A : Nat → Prop) (o : Nat) (q : Nat → Nat) (g_tId : Nat → Int32) (g_tOut : Nat → Int32) (g_oValue : Nat → Int64) (g_oTx : Nat → Int32) (g_uOutput : Nat → Int32) (g_uIs : Nat → Int32) (res : Int64 × (Nat → Int32)) : Array Value → State → Outcome → State → Prop := va_Ql (fun r' (_ : Unit) => r' = res.1) (fun _ t => Po D cy A [(o, .inr (12, mo q res.2)), ((q 14), .inl (cy 1, 17600, .inl g_tId)), ((q 17), .inl (cy 1, 2200, .inl g_tOut)), ((q 25), .inl (cy 2, 11600, .inr (.inl g_oValue))), ((q 28), .inl (cy 1, 11600, .inl g_oTx)), ((q 29), .inl (cy 1, 11600, .inl g_uOutput)), ((q 33), .inl (cy 3, 11600, .inl g_uIs))] t) A
def I_M_digest_98 (p : Program) (l : Launch) (e : Env) (s : State) (m : MethodId) (args : Array Value) (below : List Frame) (meth : Method) (c : Code) (D : va_G) (cy : Nat → ClassId) (A : Nat → Prop) (ad : Nat → Nat) (o : Nat) (q : Nat → Nat) (g_tId : Nat → Int32) (g_tOut : Nat → Int32) (g_oValue : Nat → Int64) (g_oTx : Nat → Int32) (g_uOutput : Nat → Int32) (g_uIs : Nat → Int32) (k : Int64 → Int32 → (Nat → Int32) → Option (Int64 × (Nat → Int32))) : Prop :=
  ∀ (x1 : Int64) (x3 : Int32) (u0 : Nat → Int32) (res : Int64 × (Nat → Int32)), k x1 x3 u0 = some res → ∀ (H : Heap) (locs : List Loc) (ls : Array Slot), va_P D classes [(o, .inr (12, mo q u0)), ((q 14), .inl (cy 1, 17600, .inl g_tId)), ((q 17), .inl (cy 1, 2200, .inl g_tOut)), ((q 25), .inl (cy 2, 11600, .inr (.inl g_oValue))), ((q 28), .inl (cy 1, 11600, .inl g_oTx)), ((q 29), .inl (cy 1, 11600, .inl g_uOutput)), ((q 33), .inl (cy 3, 11600, .inl g_uIs))] H → va_D A [(o, .inr (12, mo q u0)), ((q 14), .inl (cy 1, 17600, .inl g_tId)), ((q 17), .inl (cy 1, 2200, .inl g_tOut)), ((q 25), .inl (cy 2, 11600, .inr (.inl g_oValue))), ((q 28), .inl (cy 1, 11600, .inl g_oTx)), ((q 29), .inl (cy 1, 11600, .inl g_uOutput)), ((q 33), .inl (cy 3, 11600, .inl g_uIs))] → va_S A s.heap H locs → lv_has ls 8 [(0, .ref o), (1, .long x1), (3, .int x3)] → W p l e rm_M_digest s m args below meth c H locs 0 0 (MQ below (q_M_digest D cy A o q g_tId g_tOut g_oValue g_oTx g_uOutput g_uIs res) args s 0 0 A) (F0 m 98 ls [])
def I_M_digest_9 (p : Program) (l : Launch) (e : Env) (s : State) (m : MethodId) (args : Array Value) (below : List Frame) (meth : Method) (c : Code) (D : va_G) (cy : Nat → ClassId) (A : Nat → Prop) (ad : Nat → Nat) (o : Nat) (q : Nat → Nat) (g_tId : Nat → Int32) (g_tOut : Nat → Int32) (g_oValue : Nat → Int64) (g_oTx : Nat → Int32) (g_uOutput : Nat → Int32) (g_uIs : Nat → Int32) (k : Int64 → Int32 → (Nat → Int32) → Option (Int64 × (Nat → Int32))) : Prop :=
  ∀ (x1 : Int64) (x3 : Int32) (u0 : Nat → Int32) (res : Int64 × (Nat → Int32)), k x1 x3 u0 = some res → ∀ (H : Heap) (locs : List Loc) (ls : Array Slot), va_P D classes [(o, .inr (12, mo q u0)), ((q 14), .inl (cy 1, 17600, .inl g_tId)), ((q 17), .inl (cy 1, 2200, .inl g_tOut)), ((q 25), .inl (cy 2, 11600, .inr (.inl g_oValue))), ((q 28), .inl (cy 1, 11600, .inl g_oTx)), ((q 29), .inl (cy 1, 11600, .inl g_uOutput)), ((q 33), .inl (cy 3, 11600, .inl g_uIs))] H → va_D A [(o, .inr (12, mo q u0)), ((q 14), .inl (cy 1, 17600, .inl g_tId)), ((q 17), .inl (cy 1, 2200, .inl g_tOut)), ((q 25), .inl (cy 2, 11600, .inr (.inl g_oValue))), ((q 28), .inl (cy 1, 11600, .inl g_oTx)), ((q 29), .inl (cy 1, 11600, .inl g_uOutput)), ((q 33), .inl (cy 3, 11600, .inl g_uIs))] → va_S A s.heap H locs → lv_has ls 8 [(0, .ref o), (1, .long x1), (3, .int x3)] → W p l e rm_M_digest s m args below meth c H locs 0 0 (MQ below (q_M_digest D cy A o q g_tId g_tOut g_oValue g_oTx g_uOutput g_uIs res) args s 0 0 A) (F0 m 9 ls [])
def I_M_digest_e (p : Program) (l : Launch) (e : Env) (s : State) (m : MethodId) (args : Array Value) (below : List Frame) (meth : Method) (c : Code) (D : va_G) (cy : Nat → ClassId) (A : Nat → Prop) (ad : Nat → Nat) (o : Nat) (q : Nat → Nat) (g_tId : Nat → Int32) (g_tOut : Nat → Int32) (g_oValue : Nat → Int64) (g_oTx : Nat → Int32) (g_uOutput : Nat → Int32) (g_uIs : Nat → Int32) (k : (Nat → Int32) → Option (Int64 × (Nat → Int32))) : Prop :=
  ∀ (u0 : Nat → Int32) (res : Int64 × (Nat → Int32)), k u0 = some res → ∀ (H : Heap) (locs : List Loc) (ls : Array Slot), va_P D classes [(o, .inr (12, mo q u0)), ((q 14), .inl (cy 1, 17600, .inl g_tId)), ((q 17), .inl (cy 1, 2200, .inl g_tOut)), ((q 25), .inl (cy 2, 11600, .inr (.inl g_oValue))), ((q 28), .inl (cy 1, 11600, .inl g_oTx)), ((q 29), .inl (cy 1, 11600, .inl g_uOutput)), ((q 33), .inl (cy 3, 11600, .inl g_uIs))] H → va_D A [(o, .inr (12, mo q u0)), ((q 14), .inl (cy 1, 17600, .inl g_tId)), ((q 17), .inl (cy 1, 2200, .inl g_tOut)), ((q 25), .inl (cy 2, 11600, .inr (.inl g_oValue))), ((q 28), .inl (cy 1, 11600, .inl g_oTx)), ((q 29), .inl (cy 1, 11600, .inl g_uOutput)), ((q 33), .inl (cy 3, 11600, .inl g_uIs))] → va_S A s.heap H locs → lv_has ls 8 [(0, .ref o)] → W p l e rm_M_digest s m args below meth c H locs 0 0 (MQ below (q_M_digest D cy A o q g_tId g_tOut g_oValue g_oTx g_uOutput g_uIs res) args s 0 0 A) (F0 m 0 ls [])
def xb_M_digest_98 (fu : Nat) (g_tId : Nat → Int32) (g_tOut : Nat → Int32) (g_oValue : Nat → Int64) (g_oTx : Nat → Int32) (g_uOutput : Nat → Int32) (g_uIs : Nat → Int32) (k_9 : Int64 → Int32 → (Nat → Int32) → Option (Int64 × (Nat → Int32))) (x1 : Int64) (x3 : Int32) (u0 : Nat → Int32) : Option (Int64 × (Nat → Int32)) :=
  bnd (x3 + (1 : Int32)) fun v1 => k_9 x1 v1 u0
set_option maxHeartbeats 8000000 in
set_option maxRecDepth 100000 in
theorem wb_M_digest_98 {p : Program} {l : Launch} {e : Env} {s : State} {m : MethodId} {args : Array Value} {below : List Frame} {meth : Method} {c : Code} {D : va_G} {cy : Nat → ClassId} {A : Nat → Prop} {ad : Nat → Nat} {o : Nat} {q : Nat → Nat} {g_tId : Nat → Int32} {g_tOut : Nat → Int32} {g_oValue : Nat → Int64} {g_oTx : Nat → Int32} {g_uOutput : Nat → Int32} {g_uIs : Nat → Int32} {fu : Nat} {k_9 : Int64 → Int32 → (Nat → Int32) → Option (Int64 × (Nat → Int32))} (F : Fx p s m args meth c b_M_digest 8 "CoinKeeperModel" "digest" (some .long) D cy ad A) (hk_9 : I_M_digest_9 p l e s m args below meth c D cy A ad o q g_tId g_tOut g_oValue g_oTx g_uOutput g_uIs k_9) : I_M_digest_98 p l e s m args below meth c D cy A ad o q g_tId g_tOut g_oValue g_oTx g_uOutput g_uIs (xb_M_digest_98 fu g_tId g_tOut g_oValue g_oTx g_uOutput g_uIs k_9) := by
  obtain ⟨hx, hb, hr, hml, hown, hts, hlocks, hK, hA, hSt, hnm, hex⟩ := id F
  intro x1 x3 u0 res hf H locs ls hP hD hS hl
  unfold xb_M_digest_98 at hf
  obtain ⟨v1, ev, hf⟩ := bne hf
  refine lv_iinc (v := v1) (lv' := [(3, .int v1), (0, .ref o), (1, .long x1)]) hx hb d_M_digest_98 hl (k := 2) rfl (by rw [ev]; rfl) (by decide) rfl (fun ls hl => ?_)
  clear ev
  refine lv_goto (tgt := 9) hx hb d_M_digest_101 (by decide) ?_
  exact hk_9 _ _ _ _ hf _ _ _ hP hD hS (lv_sub hl [1, 2, 0] rfl)
def xb_M_digest_9 (fu : Nat) (g_tId : Nat → Int32) (g_tOut : Nat → Int32) (g_oValue : Nat → Int64) (g_oTx : Nat → Int32) (g_uOutput : Nat → Int32) (g_uIs : Nat → Int32) (k_9 : Int64 → Int32 → (Nat → Int32) → Option (Int64 × (Nat → Int32))) (x1 : Int64) (x3 : Int32) (u0 : Nat → Int32) : Option (Int64 × (Nat → Int32)) :=
  if (u0 19) ≤ x3 then (some (x1, u0)) else (gd (inb x3 11600) <| bnd (g_uIs x3.toNatClampNeg) fun v1 => if v1 = 0 then (xb_M_digest_98 fu g_tId g_tOut g_oValue g_oTx g_uOutput g_uIs k_9 x1 x3 u0) else (gd (inb x3 11600) <| bnd (g_uOutput x3.toNatClampNeg) fun v2 => gd (inb v2 11600) <| bnd (g_oTx v2.toNatClampNeg) fun v3 => bnd ((8 : Int32) * v3) fun v4 => gd (inb v4 17600) <| bnd (g_tId v4.toNatClampNeg) fun v5 => bnd ((31 : Int64) * v5.toInt64) fun v6 => gd (inb v3 2200) <| bnd (g_tOut v3.toNatClampNeg) fun v7 => bnd ((31 : Int64) * (v6 + ((v2 - v7).toInt64))) fun v8 => gd (inb v2 11600) <| bnd (g_oValue v2.toNatClampNeg) fun v9 => bnd (v8 + v9) fun v10 => bnd (v10 * v10) fun v11 => bnd (x1 + (v11 + v10)) fun v12 => xb_M_digest_98 fu g_tId g_tOut g_oValue g_oTx g_uOutput g_uIs k_9 v12 x3 u0))
set_option maxHeartbeats 8000000 in
set_option maxRecDepth 100000 in
theorem wb_M_digest_9 {p : Program} {l : Launch} {e : Env} {s : State} {m : MethodId} {args : Array Value} {below : List Frame} {meth : Method} {c : Code} {D : va_G} {cy : Nat → ClassId} {A : Nat → Prop} {ad : Nat → Nat} {o : Nat} {q : Nat → Nat} {g_tId : Nat → Int32} {g_tOut : Nat → Int32} {g_oValue : Nat → Int64} {g_oTx : Nat → Int32} {g_uOutput : Nat → Int32} {g_uIs : Nat → Int32} {fu : Nat} {k_9 : Int64 → Int32 → (Nat → Int32) → Option (Int64 × (Nat → Int32))} (F : Fx p s m args meth c b_M_digest 8 "CoinKeeperModel" "digest" (some .long) D cy ad A) (hk_9 : I_M_digest_9 p l e s m args below meth c D cy A ad o q g_tId g_tOut g_oValue g_oTx g_uOutput g_uIs k_9) : I_M_digest_9 p l e s m args below meth c D cy A ad o q g_tId g_tOut g_oValue g_oTx g_uOutput g_uIs (xb_M_digest_9 fu g_tId g_tOut g_oValue g_oTx g_uOutput g_uIs k_9) := by
  obtain ⟨hx, hb, hr, hml, hown, hts, hlocks, hK, hA, hSt, hnm, hex⟩ := id F
  intro x1 x3 u0 res hf H locs ls hP hD hS hl
  unfold xb_M_digest_9 at hf
  refine lv_iload_n hx hb d_M_digest_9 rfl (lv_at hl 2 rfl) ?_
  refine lv_aload_n hx hb d_M_digest_10 rfl (lv_at hl 0 rfl) ?_
  refine va_get (D := D) (ci := 12) (v := .int (u0 19)) (C := "CoinKeeperModel") (T := F_12) (N := 98) hx hb hts i_12 hown hK hP 0 rfl rfl 95 (by decide) (hts _ gw_1514) (fun _ h9 => h9) rfl d_M_digest_11 ?_
  refine lv_icmp_ge (tgt := 104) hx hb d_M_digest_14 (by decide) (fun cx => ?_) (fun cx => ?_)
  · have hf := ifp cx hf
    refine lv_lload_n hx hb d_M_digest_104 rfl (lv_at hl 1 rfl) ?_
    obtain rfl := Option.some.inj hf
    exact q_rl hx hb hr hlocks hK hP hD hS d_M_digest_105
  · have hf := ifn cx hf
    refine lv_aload_n hx hb d_M_digest_17 rfl (lv_at hl 0 rfl) ?_
    refine va_get (D := D) (ci := 12) (v := .ref (q 33)) (C := "CoinKeeperModel") (T := F_12) (N := 98) hx hb hts i_12 hown hK hP 0 rfl rfl 41 (by decide) (hts _ gw_1460) (fun _ h9 => h9) rfl d_M_digest_18 ?_
    refine lv_iload_n hx hb d_M_digest_21 rfl (lv_at hl 2 rfl) ?_
    obtain ⟨hg, hf⟩ := gdp hf
    refine va_zald hx hb hK hP 6 3 rfl rfl (inb_in hg) d_M_digest_22 ?_
    refine lv_topi (fun v1 ev => ?_)
    have hf := bn ev hf
    clear ev
    refine lv_if_ne (tgt := 29) hx hb d_M_digest_23 (by decide) (fun cx => ?_) (fun cx => ?_)
    · have hf := ifn cx hf
      refine lv_aload_n hx hb d_M_digest_29 rfl (lv_at hl 0 rfl) ?_
      refine va_get (D := D) (ci := 12) (v := .ref (q 29)) (C := "CoinKeeperModel") (T := F_12) (N := 98) hx hb hts i_12 hown hK hP 0 rfl rfl 37 (by decide) (hts _ gw_1456) (fun _ h9 => h9) rfl d_M_digest_30 ?_
      refine lv_iload_n hx hb d_M_digest_33 rfl (lv_at hl 2 rfl) ?_
      obtain ⟨hg, hf⟩ := gdp hf
      refine va_iald hx hb hK hP 5 1 rfl rfl (inb_in hg) d_M_digest_34 ?_
      refine lv_topi (fun v2 ev => ?_)
      have hf := bn ev hf
      clear ev
      refine lv_istore (lv' := [(4, .int v2), (0, .ref o), (1, .long x1), (3, .int x3)]) hx hb d_M_digest_35 hl (by decide) rfl (fun ls hl => ?_)
      refine lv_aload_n hx hb d_M_digest_37 rfl (lv_at hl 1 rfl) ?_
      refine va_get (D := D) (ci := 12) (v := .ref (q 28)) (C := "CoinKeeperModel") (T := F_12) (N := 98) hx hb hts i_12 hown hK hP 0 rfl rfl 35 (by decide) (hts _ gw_1454) (fun _ h9 => h9) rfl d_M_digest_38 ?_
      refine lv_iload hx hb d_M_digest_41 (lv_at hl 0 rfl) ?_
      obtain ⟨hg, hf⟩ := gdp hf
      refine va_iald hx hb hK hP 4 1 rfl rfl (inb_in hg) d_M_digest_43 ?_
      refine lv_topi (fun v3 ev => ?_)
      have hf := bn ev hf
      clear ev
      refine lv_istore (lv' := [(5, .int v3), (4, .int v2), (0, .ref o), (1, .long x1), (3, .int x3)]) hx hb d_M_digest_44 hl (by decide) rfl (fun ls hl => ?_)
      refine lv_ldc2 (v := 31) hx hb hown (hts _ gw_2061) d_M_digest_46 ?_
      refine lv_ldc2 (v := 31) hx hb hown (hts _ gw_2061) d_M_digest_49 ?_
      refine lv_aload_n hx hb d_M_digest_52 rfl (lv_at hl 2 rfl) ?_
      refine va_get (D := D) (ci := 12) (v := .ref (q 14)) (C := "CoinKeeperModel") (T := F_12) (N := 98) hx hb hts i_12 hown hK hP 0 rfl rfl 19 (by decide) (hts _ gw_1438) (fun _ h9 => h9) rfl d_M_digest_53 ?_
      refine lv_bipush (v := 8) hx hb d_M_digest_56 (by decide) ?_
      refine lv_iload hx hb d_M_digest_58 (lv_at hl 0 rfl) ?_
      refine lv_imul hx hb d_M_digest_60 ?_
      refine lv_topi (fun v4 ev => ?_)
      have hf := bn ev hf
      clear ev
      obtain ⟨hg, hf⟩ := gdp hf
      refine va_iald hx hb hK hP 1 1 rfl rfl (inb_in hg) d_M_digest_61 ?_
      refine lv_topi (fun v5 ev => ?_)
      have hf := bn ev hf
      clear ev
      refine lv_i2l hx hb d_M_digest_62 rfl ?_
      refine lv_lmul hx hb d_M_digest_63 ?_
      refine lv_topl (fun v6 ev => ?_)
      have hf := bn ev hf
      clear ev
      refine lv_iload hx hb d_M_digest_64 (lv_at hl 1 rfl) ?_
      refine lv_aload_n hx hb d_M_digest_66 rfl (lv_at hl 2 rfl) ?_
      refine va_get (D := D) (ci := 12) (v := .ref (q 17)) (C := "CoinKeeperModel") (T := F_12) (N := 98) hx hb hts i_12 hown hK hP 0 rfl rfl 22 (by decide) (hts _ gw_1441) (fun _ h9 => h9) rfl d_M_digest_67 ?_
      refine lv_iload hx hb d_M_digest_70 (lv_at hl 0 rfl) ?_
      obtain ⟨hg, hf⟩ := gdp hf
      refine va_iald hx hb hK hP 2 1 rfl rfl (inb_in hg) d_M_digest_72 ?_
      refine lv_topi (fun v7 ev => ?_)
      have hf := bn ev hf
      clear ev
      refine lv_isub hx hb d_M_digest_73 ?_
      refine lv_i2l hx hb d_M_digest_74 rfl ?_
      refine lv_ladd hx hb d_M_digest_75 ?_
      refine lv_lmul hx hb d_M_digest_76 ?_
      refine lv_topl (fun v8 ev => ?_)
      have hf := bn ev hf
      clear ev
      refine lv_aload_n hx hb d_M_digest_77 rfl (lv_at hl 2 rfl) ?_
      refine va_get (D := D) (ci := 12) (v := .ref (q 25)) (C := "CoinKeeperModel") (T := F_12) (N := 98) hx hb hts i_12 hown hK hP 0 rfl rfl 32 (by decide) (hts _ gw_1451) (fun _ h9 => h9) rfl d_M_digest_78 ?_
      refine lv_iload hx hb d_M_digest_81 (lv_at hl 1 rfl) ?_
      obtain ⟨hg, hf⟩ := gdp hf
      refine va_lald hx hb hK hP 3 2 rfl rfl (inb_in hg) d_M_digest_83 ?_
      refine lv_topl (fun v9 ev => ?_)
      have hf := bn ev hf
      clear ev
      refine lv_ladd hx hb d_M_digest_84 ?_
      refine lv_topl (fun v10 ev => ?_)
      have hf := bn ev hf
      clear ev
      refine lv_lstore (lv' := [(6, .long v10), (5, .int v3), (4, .int v2), (0, .ref o), (1, .long x1), (3, .int x3)]) hx hb d_M_digest_85 hl (by decide) rfl (fun ls hl => ?_)
      refine lv_lload_n hx hb d_M_digest_87 rfl (lv_at hl 4 rfl) ?_
      refine lv_lload hx hb d_M_digest_88 (lv_at hl 0 rfl) ?_
      refine lv_lload hx hb d_M_digest_90 (lv_at hl 0 rfl) ?_
      refine lv_lmul hx hb d_M_digest_92 ?_
      refine lv_topl (fun v11 ev => ?_)
      have hf := bn ev hf
      clear ev
      refine lv_lload hx hb d_M_digest_93 (lv_at hl 0 rfl) ?_
      refine lv_ladd hx hb d_M_digest_95 ?_
      refine lv_ladd hx hb d_M_digest_96 ?_
      refine lv_topl (fun v12 ev => ?_)
      have hf := bn ev hf
      clear ev
      refine lv_lstore_n (lv' := [(1, .long v12), (6, .long v10), (5, .int v3), (4, .int v2), (0, .ref o), (3, .int x3)]) hx hb d_M_digest_97 rfl hl (by decide) rfl (fun ls hl => ?_)
      exact wb_M_digest_98 (fu := fu) F hk_9 _ _ _ _ hf _ _ _ hP hD hS (lv_sub hl [4, 0, 5] rfl)
    · have hf := ifp cx hf
      refine lv_goto (tgt := 98) hx hb d_M_digest_26 (by decide) ?_
      exact wb_M_digest_98 (fu := fu) F hk_9 _ _ _ _ hf _ _ _ hP hD hS (lv_sub hl [0, 1, 2] rfl)
def x_M_digest_9 (fu : Nat) (g_tId : Nat → Int32) (g_tOut : Nat → Int32) (g_oValue : Nat → Int64) (g_oTx : Nat → Int32) (g_uOutput : Nat → Int32) (g_uIs : Nat → Int32) : Nat → Int64 → Int32 → (Nat → Int32) → Option (Int64 × (Nat → Int32))
  | 0 => fun _ _ _ => none
  | n + 1 => xb_M_digest_9 fu g_tId g_tOut g_oValue g_oTx g_uOutput g_uIs (x_M_digest_9 fu g_tId g_tOut g_oValue g_oTx g_uOutput g_uIs n)
theorem w_M_digest_9 {p : Program} {l : Launch} {e : Env} {s : State} {m : MethodId} {args : Array Value} {below : List Frame} {meth : Method} {c : Code} {D : va_G} {cy : Nat → ClassId} {A : Nat → Prop} {ad : Nat → Nat} {o : Nat} {q : Nat → Nat} {g_tId : Nat → Int32} {g_tOut : Nat → Int32} {g_oValue : Nat → Int64} {g_oTx : Nat → Int32} {g_uOutput : Nat → Int32} {g_uIs : Nat → Int32} {fu : Nat} (F : Fx p s m args meth c b_M_digest 8 "CoinKeeperModel" "digest" (some .long) D cy ad A) : ∀ n : Nat, I_M_digest_9 p l e s m args below meth c D cy A ad o q g_tId g_tOut g_oValue g_oTx g_uOutput g_uIs (x_M_digest_9 fu g_tId g_tOut g_oValue g_oTx g_uOutput g_uIs n)
  | 0 => fun _ _ _ _ hf => nomatch (show (none : Option (Int64 × (Nat → Int32))) = some _ from hf)
  | n + 1 => wb_M_digest_9 F (w_M_digest_9 F n)
def x_M_digest (fu : Nat) (g_tId : Nat → Int32) (g_tOut : Nat → Int32) (g_oValue : Nat → Int64) (g_oTx : Nat → Int32) (g_uOutput : Nat → Int32) (g_uIs : Nat → Int32) (u0 : Nat → Int32) : Option (Int64 × (Nat → Int32)) :=
  bnd (upd u0 2 (0 : Int32)) fun z1 => x_M_digest_9 fu g_tId g_tOut g_oValue g_oTx g_uOutput g_uIs fu (0 : Int64) (0 : Int32) z1
set_option maxHeartbeats 8000000 in
set_option maxRecDepth 100000 in
theorem we_M_digest {p : Program} {l : Launch} {e : Env} {s : State} {m : MethodId} {args : Array Value} {below : List Frame} {meth : Method} {c : Code} {D : va_G} {cy : Nat → ClassId} {A : Nat → Prop} {ad : Nat → Nat} {o : Nat} {q : Nat → Nat} {g_tId : Nat → Int32} {g_tOut : Nat → Int32} {g_oValue : Nat → Int64} {g_oTx : Nat → Int32} {g_uOutput : Nat → Int32} {g_uIs : Nat → Int32} {fu : Nat} (F : Fx p s m args meth c b_M_digest 8 "CoinKeeperModel" "digest" (some .long) D cy ad A) : I_M_digest_e p l e s m args below meth c D cy A ad o q g_tId g_tOut g_oValue g_oTx g_uOutput g_uIs (x_M_digest fu g_tId g_tOut g_oValue g_oTx g_uOutput g_uIs) := by
  obtain ⟨hx, hb, hr, hml, hown, hts, hlocks, hK, hA, hSt, hnm, hex⟩ := id F
  intro u0 res hf H locs ls hP hD hS hl
  unfold x_M_digest at hf
  refine lv_aload_n hx hb d_M_digest_0 rfl (lv_at hl 0 rfl) ?_
  refine lv_iconst (v := 0) hx hb d_M_digest_1 (by decide) ?_
  refine va_put (D := D) (ci := 12) (v := .int (0 : Int32)) (ty := .int) (C := "CoinKeeperModel") (T := F_12) (N := 98) hx hb hts i_12 t_12 t_12_ok n_12 hown hK hP hD hS 0 rfl rfl 4 (by decide) (hts _ gw_1423) (fun _ h9 => h9) rfl (by decide +kernel) rfl rfl (Nat.le_of_ble_eq_true rfl) d_M_digest_2 (fun H locs hP hD hS => ?_)
  obtain ⟨z1, ev, hf⟩ := bne hf
  have hP : va_P D classes [(o, .inr (12, mo q z1)), ((q 14), .inl (cy 1, 17600, .inl g_tId)), ((q 17), .inl (cy 1, 2200, .inl g_tOut)), ((q 25), .inl (cy 2, 11600, .inr (.inl g_oValue))), ((q 28), .inl (cy 1, 11600, .inl g_oTx)), ((q 29), .inl (cy 1, 11600, .inl g_uOutput)), ((q 33), .inl (cy 3, 11600, .inl g_uIs))] H := by rw [ev]; exact hP
  have hD : va_D A [(o, .inr (12, mo q z1)), ((q 14), .inl (cy 1, 17600, .inl g_tId)), ((q 17), .inl (cy 1, 2200, .inl g_tOut)), ((q 25), .inl (cy 2, 11600, .inr (.inl g_oValue))), ((q 28), .inl (cy 1, 11600, .inl g_oTx)), ((q 29), .inl (cy 1, 11600, .inl g_uOutput)), ((q 33), .inl (cy 3, 11600, .inl g_uIs))] := by rw [ev]; exact hD
  clear ev
  refine lv_lconst (v := 0) hx hb d_M_digest_5 (by decide) ?_
  refine lv_lstore_n (lv' := [(1, .long (0 : Int64)), (0, .ref o)]) hx hb d_M_digest_6 rfl hl (by decide) rfl (fun ls hl => ?_)
  refine lv_iconst (v := 0) hx hb d_M_digest_7 (by decide) ?_
  refine lv_istore_n (lv' := [(3, .int (0 : Int32)), (1, .long (0 : Int64)), (0, .ref o)]) hx hb d_M_digest_8 rfl hl (by decide) rfl (fun ls hl => ?_)
  exact w_M_digest_9 F fu _ _ _ _ hf _ _ _ hP hD hS (lv_sub hl [2, 1, 0] rfl)
theorem c_M_digest (l : Launch) (D : va_G) (cy : Nat → ClassId) (ad : Nat → Nat) (fu : Nat) (o : Nat) (q : Nat → Nat) (g_tId : Nat → Int32) (g_tOut : Nat → Int32) (g_oValue : Nat → Int64) (g_oTx : Nat → Int32) (g_uOutput : Nat → Int32) (g_uIs : Nat → Int32) (u0 : Nat → Int32) (res : Int64 × (Nat → Int32)) (hf : x_M_digest fu g_tId g_tOut g_oValue g_oTx g_uOutput g_uIs u0 = some res) (sz : Nat) : Met l ({ cls := "CoinKeeperModel", name := "digest", desc := "()J" } : Jvm.MethodName) (.code ({ cls := "CoinKeeperModel", name := "digest", desc := "()J" } : Jvm.MethodName) b_M_digest 8 (some .long) :: gw) rm_M_digest (va_Pc [.ref o] (Pr D cy ad [(o, .inr (12, mo q u0)), ((q 14), .inl (cy 1, 17600, .inl g_tId)), ((q 17), .inl (cy 1, 2200, .inl g_tOut)), ((q 25), .inl (cy 2, 11600, .inr (.inl g_oValue))), ((q 28), .inl (cy 1, 11600, .inl g_oTx)), ((q 29), .inl (cy 1, 11600, .inl g_uOutput)), ((q 33), .inl (cy 3, 11600, .inl g_uIs))] sz)) (q_M_digest D cy (va_A [(o, .inr (12, mo q u0)), ((q 14), .inl (cy 1, 17600, .inl g_tId)), ((q 17), .inl (cy 1, 2200, .inl g_tOut)), ((q 25), .inl (cy 2, 11600, .inr (.inl g_oValue))), ((q 28), .inl (cy 1, 11600, .inl g_oTx)), ((q 29), .inl (cy 1, 11600, .inl g_uOutput)), ((q 33), .inl (cy 3, 11600, .inl g_uIs))] sz) o q g_tId g_tOut g_oValue g_oTx g_uOutput g_uIs res) 0 0 (va_A [(o, .inr (12, mo q u0)), ((q 14), .inl (cy 1, 17600, .inl g_tId)), ((q 17), .inl (cy 1, 2200, .inl g_tOut)), ((q 25), .inl (cy 2, 11600, .inr (.inl g_oValue))), ((q 28), .inl (cy 1, 11600, .inl g_oTx)), ((q 29), .inl (cy 1, 11600, .inl g_uOutput)), ((q 33), .inl (cy 3, 11600, .inl g_uIs))] sz) :=
  q_met (Qc := fun A => q_M_digest D cy A o q g_tId g_tOut g_oValue g_oTx g_uOutput g_uIs res) (by decide) rfl rfl (Nat.le_of_ble_eq_true rfl) (fun p e s m below meth c ls F hP hD hS hl => we_M_digest (fu := fu) F u0 res hf _ _ _ hP hD hS hl) sz
abbrev b_M_signed : ByteArray := prog_14_method_91_code
theorem d_M_signed_0 : decode b_M_signed 0 = .ok (.aload_n 0, 1) := by decide +kernel
theorem d_M_signed_1 : decode b_M_signed 1 = .ok (.getfield 656, 3) := by decide +kernel
theorem d_M_signed_4 : decode b_M_signed 4 = .ok (.bipush 32, 2) := by decide +kernel
theorem d_M_signed_6 : decode b_M_signed 6 = .ok (.isub, 1) := by decide +kernel
theorem d_M_signed_7 : decode b_M_signed 7 = .ok (.iload_n 1, 1) := by decide +kernel
theorem d_M_signed_8 : decode b_M_signed 8 = .ok (.isub, 1) := by decide +kernel
theorem d_M_signed_9 : decode b_M_signed 9 = .ok (.istore_n 2, 1) := by decide +kernel
theorem d_M_signed_10 : decode b_M_signed 10 = .ok (.aload_n 0, 1) := by decide +kernel
theorem d_M_signed_11 : decode b_M_signed 11 = .ok (.iload_n 1, 1) := by decide +kernel
theorem d_M_signed_12 : decode b_M_signed 12 = .ok (.ifCond .lt 20, 3) := by decide +kernel
theorem d_M_signed_15 : decode b_M_signed 15 = .ok (.iload_n 1, 1) := by decide +kernel
theorem d_M_signed_16 : decode b_M_signed 16 = .ok (.bipush 100, 2) := by decide +kernel
theorem d_M_signed_18 : decode b_M_signed 18 = .ok (.if_icmp .gt 14, 3) := by decide +kernel
theorem d_M_signed_21 : decode b_M_signed 21 = .ok (.iload_n 2, 1) := by decide +kernel
theorem d_M_signed_22 : decode b_M_signed 22 = .ok (.iconst 1, 1) := by decide +kernel
theorem d_M_signed_23 : decode b_M_signed 23 = .ok (.if_icmp .lt 9, 3) := by decide +kernel
theorem d_M_signed_26 : decode b_M_signed 26 = .ok (.iload_n 2, 1) := by decide +kernel
theorem d_M_signed_27 : decode b_M_signed 27 = .ok (.bipush 80, 2) := by decide +kernel
theorem d_M_signed_29 : decode b_M_signed 29 = .ok (.if_icmp .le 7, 3) := by decide +kernel
theorem d_M_signed_32 : decode b_M_signed 32 = .ok (.iconst 1, 1) := by decide +kernel
theorem d_M_signed_33 : decode b_M_signed 33 = .ok (.goto 4, 3) := by decide +kernel
theorem d_M_signed_36 : decode b_M_signed 36 = .ok (.iconst 0, 1) := by decide +kernel
theorem d_M_signed_37 : decode b_M_signed 37 = .ok (.putfield 268, 3) := by decide +kernel
theorem d_M_signed_40 : decode b_M_signed 40 = .ok (.aload_n 0, 1) := by decide +kernel
theorem d_M_signed_41 : decode b_M_signed 41 = .ok (.getfield 268, 3) := by decide +kernel
theorem d_M_signed_44 : decode b_M_signed 44 = .ok (.ifCond .le 5, 3) := by decide +kernel
theorem d_M_signed_47 : decode b_M_signed 47 = .ok (.iconst 0, 1) := by decide +kernel
theorem d_M_signed_48 : decode b_M_signed 48 = .ok (.ireturn, 1) := by decide +kernel
theorem d_M_signed_49 : decode b_M_signed 49 = .ok (.aload_n 0, 1) := by decide +kernel
theorem d_M_signed_50 : decode b_M_signed 50 = .ok (.getfield 9, 3) := by decide +kernel
theorem d_M_signed_53 : decode b_M_signed 53 = .ok (.iconst 0, 1) := by decide +kernel
theorem d_M_signed_54 : decode b_M_signed 54 = .ok (.aload_n 0, 1) := by decide +kernel
theorem d_M_signed_55 : decode b_M_signed 55 = .ok (.getfield 123, 3) := by decide +kernel
theorem d_M_signed_58 : decode b_M_signed 58 = .ok (.iconst 0, 1) := by decide +kernel
theorem d_M_signed_59 : decode b_M_signed 59 = .ok (.bipush 32, 2) := by decide +kernel
theorem d_M_signed_61 : decode b_M_signed 61 = .ok (.invokestatic 271, 3) := by decide +kernel
theorem d_M_signed_64 : decode b_M_signed 64 = .ok (.aload_n 0, 1) := by decide +kernel
theorem d_M_signed_65 : decode b_M_signed 65 = .ok (.aload_n 0, 1) := by decide +kernel
theorem d_M_signed_66 : decode b_M_signed 66 = .ok (.getfield 9, 3) := by decide +kernel
theorem d_M_signed_69 : decode b_M_signed 69 = .ok (.bipush 32, 2) := by decide +kernel
theorem d_M_signed_71 : decode b_M_signed 71 = .ok (.iload_n 1, 1) := by decide +kernel
theorem d_M_signed_72 : decode b_M_signed 72 = .ok (.aload_n 0, 1) := by decide +kernel
theorem d_M_signed_73 : decode b_M_signed 73 = .ok (.getfield 9, 3) := by decide +kernel
theorem d_M_signed_76 : decode b_M_signed 76 = .ok (.bipush 32, 2) := by decide +kernel
theorem d_M_signed_78 : decode b_M_signed 78 = .ok (.iload_n 1, 1) := by decide +kernel
theorem d_M_signed_79 : decode b_M_signed 79 = .ok (.iadd, 1) := by decide +kernel
theorem d_M_signed_80 : decode b_M_signed 80 = .ok (.iload_n 2, 1) := by decide +kernel
theorem d_M_signed_81 : decode b_M_signed 81 = .ok (.invokevirtual 522, 3) := by decide +kernel
theorem d_M_signed_84 : decode b_M_signed 84 = .ok (.ireturn, 1) := by decide +kernel
abbrev rm_M_signed : Room := { frames := 1, cells := 0, slots := 0, locals := 26 }
abbrev q_M_signed (D : va_G) (cy : Nat → ClassId) (A : Nat → Prop) (o : Nat) (q : Nat → Nat) (g_row : Nat → Int32) (res : Int32 × (Nat → Int32) × (Nat → Int32)) : Array Value → State → Outcome → State → Prop := va_Qi (fun r' (_ : Unit) => r' = res.1) (fun _ t => Po D cy A [(o, .inr (12, mo q res.2.1)), ((q 0), .inl (cy 0, 3000, .inl g_row)), ((q 36), .inl (cy 0, 32, .inl res.2.2))] t) A
def I_M_signed_37 (p : Program) (l : Launch) (e : Env) (s : State) (m : MethodId) (args : Array Value) (below : List Frame) (meth : Method) (c : Code) (D : va_G) (cy : Nat → ClassId) (A : Nat → Prop) (ad : Nat → Nat) (o : Nat) (q : Nat → Nat) (g_row : Nat → Int32) (k : Int32 → Int32 → Int32 → (Nat → Int32) → (Nat → Int32) → Option (Int32 × (Nat → Int32) × (Nat → Int32))) : Prop :=
  ∀ (x1 : Int32) (x2 : Int32) (y0 : Int32) (u0 : Nat → Int32) (u1 : Nat → Int32) (res : Int32 × (Nat → Int32) × (Nat → Int32)), k x1 x2 y0 u0 u1 = some res → ∀ (H : Heap) (locs : List Loc) (ls : Array Slot), va_P D classes [(o, .inr (12, mo q u0)), ((q 0), .inl (cy 0, 3000, .inl g_row)), ((q 36), .inl (cy 0, 32, .inl u1))] H → va_D A [(o, .inr (12, mo q u0)), ((q 0), .inl (cy 0, 3000, .inl g_row)), ((q 36), .inl (cy 0, 32, .inl u1))] → va_S A s.heap H locs → lv_has ls 3 [(0, .ref o), (1, .int x1), (2, .int x2)] → W p l e rm_M_signed s m args below meth c H locs 0 0 (MQ below (q_M_signed D cy A o q g_row res) args s 0 0 A) (F0 m 37 ls [.int y0, .ref o])
def I_M_signed_32 (p : Program) (l : Launch) (e : Env) (s : State) (m : MethodId) (args : Array Value) (below : List Frame) (meth : Method) (c : Code) (D : va_G) (cy : Nat → ClassId) (A : Nat → Prop) (ad : Nat → Nat) (o : Nat) (q : Nat → Nat) (g_row : Nat → Int32) (k : Int32 → Int32 → (Nat → Int32) → (Nat → Int32) → Option (Int32 × (Nat → Int32) × (Nat → Int32))) : Prop :=
  ∀ (x1 : Int32) (x2 : Int32) (u0 : Nat → Int32) (u1 : Nat → Int32) (res : Int32 × (Nat → Int32) × (Nat → Int32)), k x1 x2 u0 u1 = some res → ∀ (H : Heap) (locs : List Loc) (ls : Array Slot), va_P D classes [(o, .inr (12, mo q u0)), ((q 0), .inl (cy 0, 3000, .inl g_row)), ((q 36), .inl (cy 0, 32, .inl u1))] H → va_D A [(o, .inr (12, mo q u0)), ((q 0), .inl (cy 0, 3000, .inl g_row)), ((q 36), .inl (cy 0, 32, .inl u1))] → va_S A s.heap H locs → lv_has ls 3 [(0, .ref o), (1, .int x1), (2, .int x2)] → W p l e rm_M_signed s m args below meth c H locs 0 0 (MQ below (q_M_signed D cy A o q g_row res) args s 0 0 A) (F0 m 32 ls [.ref o])
def I_M_signed_e (p : Program) (l : Launch) (e : Env) (s : State) (m : MethodId) (args : Array Value) (below : List Frame) (meth : Method) (c : Code) (D : va_G) (cy : Nat → ClassId) (A : Nat → Prop) (ad : Nat → Nat) (o : Nat) (q : Nat → Nat) (g_row : Nat → Int32) (k : Int32 → (Nat → Int32) → (Nat → Int32) → Option (Int32 × (Nat → Int32) × (Nat → Int32))) : Prop :=
  ∀ (a1 : Int32) (u0 : Nat → Int32) (u1 : Nat → Int32) (res : Int32 × (Nat → Int32) × (Nat → Int32)), k a1 u0 u1 = some res → ∀ (H : Heap) (locs : List Loc) (ls : Array Slot), va_P D classes [(o, .inr (12, mo q u0)), ((q 0), .inl (cy 0, 3000, .inl g_row)), ((q 36), .inl (cy 0, 32, .inl u1))] H → va_D A [(o, .inr (12, mo q u0)), ((q 0), .inl (cy 0, 3000, .inl g_row)), ((q 36), .inl (cy 0, 32, .inl u1))] → va_S A s.heap H locs → lv_has ls 3 [(0, .ref o), (1, .int a1)] → W p l e rm_M_signed s m args below meth c H locs 0 0 (MQ below (q_M_signed D cy A o q g_row res) args s 0 0 A) (F0 m 0 ls [])
def xb_M_signed_37 (fu : Nat) (g_row : Nat → Int32) (x1 : Int32) (x2 : Int32) (y0 : Int32) (u0 : Nat → Int32) (u1 : Nat → Int32) : Option (Int32 × (Nat → Int32) × (Nat → Int32)) :=
  bnd (upd u0 2 y0) fun z1 => if (z1 2) ≤ 0 then (gd (cpk (0 : Int32) (0 : Int32) (32 : Int32) 3000 32) <| gd (bfit g_row (0 : Int32) (32 : Int32)) <| bnd (va_cpy g_row u1 (0 : Int32).toNatClampNeg (0 : Int32).toNatClampNeg (32 : Int32).toNatClampNeg) fun f2 => bnd ((32 : Int32) + x1) fun v3 => none) else (some ((0 : Int32), z1, u1))
set_option maxHeartbeats 8000000 in
set_option maxRecDepth 100000 in
theorem wb_M_signed_37 {p : Program} {l : Launch} {e : Env} {s : State} {m : MethodId} {args : Array Value} {below : List Frame} {meth : Method} {c : Code} {D : va_G} {cy : Nat → ClassId} {A : Nat → Prop} {ad : Nat → Nat} {o : Nat} {q : Nat → Nat} {g_row : Nat → Int32} {fu : Nat} (F : Fx p s m args meth c b_M_signed 3 "CoinKeeperModel" "signed" (some .boolean) D cy ad A) : I_M_signed_37 p l e s m args below meth c D cy A ad o q g_row (xb_M_signed_37 fu g_row) := by
  obtain ⟨hx, hb, hr, hml, hown, hts, hlocks, hK, hA, hSt, hnm, hex⟩ := id F
  intro x1 x2 y0 u0 u1 res hf H locs ls hP hD hS hl
  unfold xb_M_signed_37 at hf
  refine va_put (D := D) (ci := 12) (v := .int y0) (ty := .int) (C := "CoinKeeperModel") (T := F_12) (N := 98) hx hb hts i_12 t_12 t_12_ok n_12 hown hK hP hD hS 0 rfl rfl 4 (by decide) (hts _ gw_1423) (fun _ h9 => h9) rfl (by decide +kernel) rfl rfl (Nat.le_of_ble_eq_true rfl) d_M_signed_37 (fun H locs hP hD hS => ?_)
  obtain ⟨z1, ev, hf⟩ := bne hf
  have hP : va_P D classes [(o, .inr (12, mo q z1)), ((q 0), .inl (cy 0, 3000, .inl g_row)), ((q 36), .inl (cy 0, 32, .inl u1))] H := by rw [ev]; exact hP
  have hD : va_D A [(o, .inr (12, mo q z1)), ((q 0), .inl (cy 0, 3000, .inl g_row)), ((q 36), .inl (cy 0, 32, .inl u1))] := by rw [ev]; exact hD
  clear ev
  refine lv_aload_n hx hb d_M_signed_40 rfl (lv_at hl 0 rfl) ?_
  refine va_get (D := D) (ci := 12) (v := .int (z1 2)) (C := "CoinKeeperModel") (T := F_12) (N := 98) hx hb hts i_12 hown hK hP 0 rfl rfl 4 (by decide) (hts _ gw_1423) (fun _ h9 => h9) rfl d_M_signed_41 ?_
  refine lv_if_le (tgt := 49) hx hb d_M_signed_44 (by decide) (fun cx => ?_) (fun cx => ?_)
  · have hf := ifp cx hf
    refine lv_aload_n hx hb d_M_signed_49 rfl (lv_at hl 0 rfl) ?_
    refine va_get (D := D) (ci := 12) (v := .ref (q 0)) (C := "CoinKeeperModel") (T := F_12) (N := 98) hx hb hts i_12 hown hK hP 0 rfl rfl 0 (by decide) (hts _ gw_1419) (fun _ h9 => h9) rfl d_M_signed_50 ?_
    refine lv_iconst (v := 0) hx hb d_M_signed_53 (by decide) ?_
    refine lv_aload_n hx hb d_M_signed_54 rfl (lv_at hl 0 rfl) ?_
    refine va_get (D := D) (ci := 12) (v := .ref (q 36)) (C := "CoinKeeperModel") (T := F_12) (N := 98) hx hb hts i_12 hown hK hP 0 rfl rfl 44 (by decide) (hts _ gw_1463) (fun _ h9 => h9) rfl d_M_signed_55 ?_
    refine lv_iconst (v := 0) hx hb d_M_signed_58 (by decide) ?_
    refine lv_bipush (v := 32) hx hb d_M_signed_59 (by decide) ?_
    obtain ⟨hg, hf⟩ := gdp hf
    obtain ⟨hg2, hf⟩ := gdp hf
    refine va_copyi (rest := []) hx hb (hml.trans hl.1.symm) hown (hts _ gw_1398) (hts _ gw_497) (hts _ gw_496) (hts _ gw_17) hK hP hD hS 1 2 0 0 rfl rfl rfl rfl rfl (cpk_p hg).1 (cpk_p hg).2.1 (cpk_p hg).2.2.1 (cpk_p hg).2.2.2.1 (cpk_p hg).2.2.2.2 (bfit_p hg2) (by decide) (by decide) d_M_signed_61 (fun H locs hP hD hS => ?_)
    obtain ⟨f2, ev, hf⟩ := bne hf
    have hP : va_P D classes [(o, .inr (12, mo q z1)), ((q 0), .inl (cy 0, 3000, .inl g_row)), ((q 36), .inl (cy 0, 32, .inl f2))] H := by rw [ev]; exact hP
    have hD : va_D A [(o, .inr (12, mo q z1)), ((q 0), .inl (cy 0, 3000, .inl g_row)), ((q 36), .inl (cy 0, 32, .inl f2))] := by rw [ev]; exact hD
    clear ev
    refine lv_aload_n hx hb d_M_signed_64 rfl (lv_at hl 0 rfl) ?_
    refine lv_aload_n hx hb d_M_signed_65 rfl (lv_at hl 0 rfl) ?_
    refine va_get (D := D) (ci := 12) (v := .ref (q 0)) (C := "CoinKeeperModel") (T := F_12) (N := 98) hx hb hts i_12 hown hK hP 0 rfl rfl 0 (by decide) (hts _ gw_1419) (fun _ h9 => h9) rfl d_M_signed_66 ?_
    refine lv_bipush (v := 32) hx hb d_M_signed_69 (by decide) ?_
    refine lv_iload_n hx hb d_M_signed_71 rfl (lv_at hl 1 rfl) ?_
    refine lv_aload_n hx hb d_M_signed_72 rfl (lv_at hl 0 rfl) ?_
    refine va_get (D := D) (ci := 12) (v := .ref (q 0)) (C := "CoinKeeperModel") (T := F_12) (N := 98) hx hb hts i_12 hown hK hP 0 rfl rfl 0 (by decide) (hts _ gw_1419) (fun _ h9 => h9) rfl d_M_signed_73 ?_
    refine lv_bipush (v := 32) hx hb d_M_signed_76 (by decide) ?_
    refine lv_iload_n hx hb d_M_signed_78 rfl (lv_at hl 1 rfl) ?_
    refine lv_iadd hx hb d_M_signed_79 ?_
    refine lv_topi (fun v3 ev => ?_)
    have hf := bn ev hf
    clear ev
    refine lv_iload_n hx hb d_M_signed_80 rfl (lv_at hl 2 rfl) ?_
    exact nomatch hf
  · have hf := ifn cx hf
    refine lv_iconst (v := 0) hx hb d_M_signed_47 (by decide) ?_
    obtain rfl := Option.some.inj hf
    exact q_rz hx hb hr hlocks hK hP hD hS (isb_n (v := 0) (by decide)) d_M_signed_48
def xb_M_signed_32 (fu : Nat) (g_row : Nat → Int32) (x1 : Int32) (x2 : Int32) (u0 : Nat → Int32) (u1 : Nat → Int32) : Option (Int32 × (Nat → Int32) × (Nat → Int32)) :=
  xb_M_signed_37 fu g_row x1 x2 (1 : Int32) u0 u1
set_option maxHeartbeats 8000000 in
set_option maxRecDepth 100000 in
theorem wb_M_signed_32 {p : Program} {l : Launch} {e : Env} {s : State} {m : MethodId} {args : Array Value} {below : List Frame} {meth : Method} {c : Code} {D : va_G} {cy : Nat → ClassId} {A : Nat → Prop} {ad : Nat → Nat} {o : Nat} {q : Nat → Nat} {g_row : Nat → Int32} {fu : Nat} (F : Fx p s m args meth c b_M_signed 3 "CoinKeeperModel" "signed" (some .boolean) D cy ad A) : I_M_signed_32 p l e s m args below meth c D cy A ad o q g_row (xb_M_signed_32 fu g_row) := by
  obtain ⟨hx, hb, hr, hml, hown, hts, hlocks, hK, hA, hSt, hnm, hex⟩ := id F
  intro x1 x2 u0 u1 res hf H locs ls hP hD hS hl
  unfold xb_M_signed_32 at hf
  refine lv_iconst (v := 1) hx hb d_M_signed_32 (by decide) ?_
  refine lv_goto (tgt := 37) hx hb d_M_signed_33 (by decide) ?_
  exact wb_M_signed_37 (fu := fu) F _ _ _ _ _ _ hf _ _ _ hP hD hS (lv_sub hl [0, 1, 2] rfl)
def x_M_signed (fu : Nat) (g_row : Nat → Int32) (a1 : Int32) (u0 : Nat → Int32) (u1 : Nat → Int32) : Option (Int32 × (Nat → Int32) × (Nat → Int32)) :=
  bnd ((u0 0) - (32 : Int32)) fun v1 => bnd (v1 - a1) fun v2 => if a1 < 0 then (xb_M_signed_32 fu g_row a1 v2 u0 u1) else (if (100 : Int32) < a1 then (xb_M_signed_32 fu g_row a1 v2 u0 u1) else (if v2 < (1 : Int32) then (xb_M_signed_32 fu g_row a1 v2 u0 u1) else (if v2 ≤ (80 : Int32) then (xb_M_signed_37 fu g_row a1 v2 (0 : Int32) u0 u1) else (xb_M_signed_32 fu g_row a1 v2 u0 u1))))
set_option maxHeartbeats 8000000 in
set_option maxRecDepth 100000 in
theorem we_M_signed {p : Program} {l : Launch} {e : Env} {s : State} {m : MethodId} {args : Array Value} {below : List Frame} {meth : Method} {c : Code} {D : va_G} {cy : Nat → ClassId} {A : Nat → Prop} {ad : Nat → Nat} {o : Nat} {q : Nat → Nat} {g_row : Nat → Int32} {fu : Nat} (F : Fx p s m args meth c b_M_signed 3 "CoinKeeperModel" "signed" (some .boolean) D cy ad A) : I_M_signed_e p l e s m args below meth c D cy A ad o q g_row (x_M_signed fu g_row) := by
  obtain ⟨hx, hb, hr, hml, hown, hts, hlocks, hK, hA, hSt, hnm, hex⟩ := id F
  intro a1 u0 u1 res hf H locs ls hP hD hS hl
  unfold x_M_signed at hf
  refine lv_aload_n hx hb d_M_signed_0 rfl (lv_at hl 0 rfl) ?_
  refine va_get (D := D) (ci := 12) (v := .int (u0 0)) (C := "CoinKeeperModel") (T := F_12) (N := 98) hx hb hts i_12 hown hK hP 0 rfl rfl 2 (by decide) (hts _ gw_1421) (fun _ h9 => h9) rfl d_M_signed_1 ?_
  refine lv_bipush (v := 32) hx hb d_M_signed_4 (by decide) ?_
  refine lv_isub hx hb d_M_signed_6 ?_
  refine lv_topi (fun v1 ev => ?_)
  have hf := bn ev hf
  clear ev
  refine lv_iload_n hx hb d_M_signed_7 rfl (lv_at hl 1 rfl) ?_
  refine lv_isub hx hb d_M_signed_8 ?_
  refine lv_topi (fun v2 ev => ?_)
  have hf := bn ev hf
  clear ev
  refine lv_istore_n (lv' := [(2, .int v2), (0, .ref o), (1, .int a1)]) hx hb d_M_signed_9 rfl hl (by decide) rfl (fun ls hl => ?_)
  refine lv_aload_n hx hb d_M_signed_10 rfl (lv_at hl 1 rfl) ?_
  refine lv_iload_n hx hb d_M_signed_11 rfl (lv_at hl 2 rfl) ?_
  refine lv_if_lt (tgt := 32) hx hb d_M_signed_12 (by decide) (fun cx => ?_) (fun cx => ?_)
  · have hf := ifp cx hf
    exact wb_M_signed_32 (fu := fu) F _ _ _ _ _ hf _ _ _ hP hD hS (lv_sub hl [1, 2, 0] rfl)
  · have hf := ifn cx hf
    refine lv_iload_n hx hb d_M_signed_15 rfl (lv_at hl 2 rfl) ?_
    refine lv_bipush (v := 100) hx hb d_M_signed_16 (by decide) ?_
    refine lv_icmp_gt (tgt := 32) hx hb d_M_signed_18 (by decide) (fun cx => ?_) (fun cx => ?_)
    · have hf := ifp cx hf
      exact wb_M_signed_32 (fu := fu) F _ _ _ _ _ hf _ _ _ hP hD hS (lv_sub hl [1, 2, 0] rfl)
    · have hf := ifn cx hf
      refine lv_iload_n hx hb d_M_signed_21 rfl (lv_at hl 0 rfl) ?_
      refine lv_iconst (v := 1) hx hb d_M_signed_22 (by decide) ?_
      refine lv_icmp_lt (tgt := 32) hx hb d_M_signed_23 (by decide) (fun cx => ?_) (fun cx => ?_)
      · have hf := ifp cx hf
        exact wb_M_signed_32 (fu := fu) F _ _ _ _ _ hf _ _ _ hP hD hS (lv_sub hl [1, 2, 0] rfl)
      · have hf := ifn cx hf
        refine lv_iload_n hx hb d_M_signed_26 rfl (lv_at hl 0 rfl) ?_
        refine lv_bipush (v := 80) hx hb d_M_signed_27 (by decide) ?_
        refine lv_icmp_le (tgt := 36) hx hb d_M_signed_29 (by decide) (fun cx => ?_) (fun cx => ?_)
        · have hf := ifp cx hf
          refine lv_iconst (v := 0) hx hb d_M_signed_36 (by decide) ?_
          exact wb_M_signed_37 (fu := fu) F _ _ _ _ _ _ hf _ _ _ hP hD hS (lv_sub hl [1, 2, 0] rfl)
        · have hf := ifn cx hf
          exact wb_M_signed_32 (fu := fu) F _ _ _ _ _ hf _ _ _ hP hD hS (lv_sub hl [1, 2, 0] rfl)
theorem c_M_signed (l : Launch) (D : va_G) (cy : Nat → ClassId) (ad : Nat → Nat) (fu : Nat) (o : Nat) (q : Nat → Nat) (g_row : Nat → Int32) (a1 : Int32) (u0 : Nat → Int32) (u1 : Nat → Int32) (res : Int32 × (Nat → Int32) × (Nat → Int32)) (hf : x_M_signed fu g_row a1 u0 u1 = some res) (sz : Nat) : Met l ({ cls := "CoinKeeperModel", name := "signed", desc := "(I)Z" } : Jvm.MethodName) (.code ({ cls := "CoinKeeperModel", name := "signed", desc := "(I)Z" } : Jvm.MethodName) b_M_signed 3 (some .boolean) :: gw) rm_M_signed (va_Pc [.ref o, .int a1] (Pr D cy ad [(o, .inr (12, mo q u0)), ((q 0), .inl (cy 0, 3000, .inl g_row)), ((q 36), .inl (cy 0, 32, .inl u1))] sz)) (q_M_signed D cy (va_A [(o, .inr (12, mo q u0)), ((q 0), .inl (cy 0, 3000, .inl g_row)), ((q 36), .inl (cy 0, 32, .inl u1))] sz) o q g_row res) 0 0 (va_A [(o, .inr (12, mo q u0)), ((q 0), .inl (cy 0, 3000, .inl g_row)), ((q 36), .inl (cy 0, 32, .inl u1))] sz) :=
  q_met (Qc := fun A => q_M_signed D cy A o q g_row res) (by decide) rfl rfl (Nat.le_of_ble_eq_true rfl) (fun p e s m below meth c ls F hP hD hS hl => we_M_signed (fu := fu) F a1 u0 u1 res hf _ _ _ hP hD hS hl) sz
abbrev b_M_run : ByteArray := prog_14_method_48_code
theorem d_M_run_0 : decode b_M_run 0 = .ok (.iconst 0, 1) := by decide +kernel
theorem d_M_run_1 : decode b_M_run 1 = .ok (.istore 4, 2) := by decide +kernel
theorem d_M_run_3 : decode b_M_run 3 = .ok (.iconst 0, 1) := by decide +kernel
theorem d_M_run_4 : decode b_M_run 4 = .ok (.istore 5, 2) := by decide +kernel
theorem d_M_run_6 : decode b_M_run 6 = .ok (.aload_n 0, 1) := by decide +kernel
theorem d_M_run_7 : decode b_M_run 7 = .ok (.iconst 0, 1) := by decide +kernel
theorem d_M_run_8 : decode b_M_run 8 = .ok (.putfield 450, 3) := by decide +kernel
theorem d_M_run_11 : decode b_M_run 11 = .ok (.aload_n 0, 1) := by decide +kernel
theorem d_M_run_12 : decode b_M_run 12 = .ok (.iconst 0, 1) := by decide +kernel
theorem d_M_run_13 : decode b_M_run 13 = .ok (.putfield 453, 3) := by decide +kernel
theorem d_M_run_16 : decode b_M_run 16 = .ok (.iload_n 2, 1) := by decide +kernel
theorem d_M_run_17 : decode b_M_run 17 = .ok (.istore 6, 2) := by decide +kernel
theorem d_M_run_19 : decode b_M_run 19 = .ok (.iload 6, 2) := by decide +kernel
theorem d_M_run_21 : decode b_M_run 21 = .ok (.iload_n 2, 1) := by decide +kernel
theorem d_M_run_22 : decode b_M_run 22 = .ok (.iload_n 3, 1) := by decide +kernel
theorem d_M_run_23 : decode b_M_run 23 = .ok (.iadd, 1) := by decide +kernel
theorem d_M_run_24 : decode b_M_run 24 = .ok (.if_icmp .ge 347, 3) := by decide +kernel
theorem d_M_run_27 : decode b_M_run 27 = .ok (.aload_n 1, 1) := by decide +kernel
theorem d_M_run_28 : decode b_M_run 28 = .ok (.iload 6, 2) := by decide +kernel
theorem d_M_run_30 : decode b_M_run 30 = .ok (.baload, 1) := by decide +kernel
theorem d_M_run_31 : decode b_M_run 31 = .ok (.sipush 255, 3) := by decide +kernel
theorem d_M_run_34 : decode b_M_run 34 = .ok (.iand, 1) := by decide +kernel
theorem d_M_run_35 : decode b_M_run 35 = .ok (.istore 7, 2) := by decide +kernel
theorem d_M_run_37 : decode b_M_run 37 = .ok (.iinc 6 1, 3) := by decide +kernel
theorem d_M_run_40 : decode b_M_run 40 = .ok (.iload 7, 2) := by decide +kernel
theorem d_M_run_42 : decode b_M_run 42 = .ok (.bipush 76, 2) := by decide +kernel
theorem d_M_run_44 : decode b_M_run 44 = .ok (.if_icmp .gt 74, 3) := by decide +kernel
theorem d_M_run_47 : decode b_M_run 47 = .ok (.iload 7, 2) := by decide +kernel
theorem d_M_run_49 : decode b_M_run 49 = .ok (.istore 8, 2) := by decide +kernel
theorem d_M_run_51 : decode b_M_run 51 = .ok (.iload 7, 2) := by decide +kernel
theorem d_M_run_53 : decode b_M_run 53 = .ok (.bipush 76, 2) := by decide +kernel
theorem d_M_run_55 : decode b_M_run 55 = .ok (.if_icmp .ne 26, 3) := by decide +kernel
theorem d_M_run_58 : decode b_M_run 58 = .ok (.iload 6, 2) := by decide +kernel
theorem d_M_run_60 : decode b_M_run 60 = .ok (.iload_n 2, 1) := by decide +kernel
theorem d_M_run_61 : decode b_M_run 61 = .ok (.iload_n 3, 1) := by decide +kernel
theorem d_M_run_62 : decode b_M_run 62 = .ok (.iadd, 1) := by decide +kernel
theorem d_M_run_63 : decode b_M_run 63 = .ok (.if_icmp .ne 5, 3) := by decide +kernel
theorem d_M_run_66 : decode b_M_run 66 = .ok (.iconst 0, 1) := by decide +kernel
theorem d_M_run_67 : decode b_M_run 67 = .ok (.ireturn, 1) := by decide +kernel
theorem d_M_run_68 : decode b_M_run 68 = .ok (.aload_n 1, 1) := by decide +kernel
theorem d_M_run_69 : decode b_M_run 69 = .ok (.iload 6, 2) := by decide +kernel
theorem d_M_run_71 : decode b_M_run 71 = .ok (.baload, 1) := by decide +kernel
theorem d_M_run_72 : decode b_M_run 72 = .ok (.sipush 255, 3) := by decide +kernel
theorem d_M_run_75 : decode b_M_run 75 = .ok (.iand, 1) := by decide +kernel
theorem d_M_run_76 : decode b_M_run 76 = .ok (.istore 8, 2) := by decide +kernel
theorem d_M_run_78 : decode b_M_run 78 = .ok (.iinc 6 1, 3) := by decide +kernel
theorem d_M_run_81 : decode b_M_run 81 = .ok (.iload 8, 2) := by decide +kernel
theorem d_M_run_83 : decode b_M_run 83 = .ok (.iload_n 2, 1) := by decide +kernel
theorem d_M_run_84 : decode b_M_run 84 = .ok (.iload_n 3, 1) := by decide +kernel
theorem d_M_run_85 : decode b_M_run 85 = .ok (.iadd, 1) := by decide +kernel
theorem d_M_run_86 : decode b_M_run 86 = .ok (.iload 6, 2) := by decide +kernel
theorem d_M_run_88 : decode b_M_run 88 = .ok (.isub, 1) := by decide +kernel
theorem d_M_run_89 : decode b_M_run 89 = .ok (.if_icmp .le 5, 3) := by decide +kernel
theorem d_M_run_92 : decode b_M_run 92 = .ok (.iconst 0, 1) := by decide +kernel
theorem d_M_run_93 : decode b_M_run 93 = .ok (.ireturn, 1) := by decide +kernel
theorem d_M_run_94 : decode b_M_run 94 = .ok (.iload 5, 2) := by decide +kernel
theorem d_M_run_96 : decode b_M_run 96 = .ok (.ifCond .ne 12, 3) := by decide +kernel
theorem d_M_run_99 : decode b_M_run 99 = .ok (.aload_n 0, 1) := by decide +kernel
theorem d_M_run_100 : decode b_M_run 100 = .ok (.aload_n 1, 1) := by decide +kernel
theorem d_M_run_101 : decode b_M_run 101 = .ok (.iload 6, 2) := by decide +kernel
theorem d_M_run_103 : decode b_M_run 103 = .ok (.iload 8, 2) := by decide +kernel
theorem d_M_run_105 : decode b_M_run 105 = .ok (.invokevirtual 456, 3) := by decide +kernel
theorem d_M_run_108 : decode b_M_run 108 = .ok (.iload 6, 2) := by decide +kernel
theorem d_M_run_110 : decode b_M_run 110 = .ok (.iload 8, 2) := by decide +kernel
theorem d_M_run_112 : decode b_M_run 112 = .ok (.iadd, 1) := by decide +kernel
theorem d_M_run_113 : decode b_M_run 113 = .ok (.istore 6, 2) := by decide +kernel
theorem d_M_run_115 : decode b_M_run 115 = .ok (.goto 236, 3) := by decide +kernel
theorem d_M_run_118 : decode b_M_run 118 = .ok (.iload 7, 2) := by decide +kernel
theorem d_M_run_120 : decode b_M_run 120 = .ok (.bipush 96, 2) := by decide +kernel
theorem d_M_run_122 : decode b_M_run 122 = .ok (.if_icmp .le 22, 3) := by decide +kernel
theorem d_M_run_125 : decode b_M_run 125 = .ok (.aload_n 0, 1) := by decide +kernel
theorem d_M_run_126 : decode b_M_run 126 = .ok (.dup, 1) := by decide +kernel
theorem d_M_run_127 : decode b_M_run 127 = .ok (.getfield 453, 3) := by decide +kernel
theorem d_M_run_130 : decode b_M_run 130 = .ok (.iconst 1, 1) := by decide +kernel
theorem d_M_run_131 : decode b_M_run 131 = .ok (.iadd, 1) := by decide +kernel
theorem d_M_run_132 : decode b_M_run 132 = .ok (.dup_x1, 1) := by decide +kernel
theorem d_M_run_133 : decode b_M_run 133 = .ok (.putfield 453, 3) := by decide +kernel
theorem d_M_run_136 : decode b_M_run 136 = .ok (.sipush 201, 3) := by decide +kernel
theorem d_M_run_139 : decode b_M_run 139 = .ok (.if_icmp .le 5, 3) := by decide +kernel
theorem d_M_run_142 : decode b_M_run 142 = .ok (.iconst 0, 1) := by decide +kernel
theorem d_M_run_143 : decode b_M_run 143 = .ok (.ireturn, 1) := by decide +kernel
theorem d_M_run_144 : decode b_M_run 144 = .ok (.iload 7, 2) := by decide +kernel
theorem d_M_run_146 : decode b_M_run 146 = .ok (.bipush 99, 2) := by decide +kernel
theorem d_M_run_148 : decode b_M_run 148 = .ok (.if_icmp .lt 187, 3) := by decide +kernel
theorem d_M_run_151 : decode b_M_run 151 = .ok (.iload 7, 2) := by decide +kernel
theorem d_M_run_153 : decode b_M_run 153 = .ok (.bipush 104, 2) := by decide +kernel
theorem d_M_run_155 : decode b_M_run 155 = .ok (.if_icmp .gt 180, 3) := by decide +kernel
theorem d_M_run_158 : decode b_M_run 158 = .ok (.iload 7, 2) := by decide +kernel
theorem d_M_run_160 : decode b_M_run 160 = .ok (.bipush 101, 2) := by decide +kernel
theorem d_M_run_162 : decode b_M_run 162 = .ok (.if_icmp .eq 173, 3) := by decide +kernel
theorem d_M_run_165 : decode b_M_run 165 = .ok (.iload 7, 2) := by decide +kernel
theorem d_M_run_167 : decode b_M_run 167 = .ok (.bipush 102, 2) := by decide +kernel
theorem d_M_run_169 : decode b_M_run 169 = .ok (.if_icmp .eq 166, 3) := by decide +kernel
theorem d_M_run_172 : decode b_M_run 172 = .ok (.iload 7, 2) := by decide +kernel
theorem d_M_run_174 : decode b_M_run 174 = .ok (.bipush 103, 2) := by decide +kernel
theorem d_M_run_176 : decode b_M_run 176 = .ok (.if_icmp .ge 83, 3) := by decide +kernel
theorem d_M_run_179 : decode b_M_run 179 = .ok (.iconst 0, 1) := by decide +kernel
theorem d_M_run_180 : decode b_M_run 180 = .ok (.istore 8, 2) := by decide +kernel
theorem d_M_run_182 : decode b_M_run 182 = .ok (.iload 5, 2) := by decide +kernel
theorem d_M_run_184 : decode b_M_run 184 = .ok (.ifCond .ne 52, 3) := by decide +kernel
theorem d_M_run_187 : decode b_M_run 187 = .ok (.aload_n 0, 1) := by decide +kernel
theorem d_M_run_188 : decode b_M_run 188 = .ok (.getfield 439, 3) := by decide +kernel
theorem d_M_run_191 : decode b_M_run 191 = .ok (.ifCond .ne 5, 3) := by decide +kernel
theorem d_M_run_194 : decode b_M_run 194 = .ok (.iconst 0, 1) := by decide +kernel
theorem d_M_run_195 : decode b_M_run 195 = .ok (.ireturn, 1) := by decide +kernel
theorem d_M_run_196 : decode b_M_run 196 = .ok (.aload_n 0, 1) := by decide +kernel
theorem d_M_run_197 : decode b_M_run 197 = .ok (.dup, 1) := by decide +kernel
theorem d_M_run_198 : decode b_M_run 198 = .ok (.getfield 439, 3) := by decide +kernel
theorem d_M_run_201 : decode b_M_run 201 = .ok (.iconst 1, 1) := by decide +kernel
theorem d_M_run_202 : decode b_M_run 202 = .ok (.isub, 1) := by decide +kernel
theorem d_M_run_203 : decode b_M_run 203 = .ok (.putfield 439, 3) := by decide +kernel
theorem d_M_run_206 : decode b_M_run 206 = .ok (.aload_n 0, 1) := by decide +kernel
theorem d_M_run_207 : decode b_M_run 207 = .ok (.aload_n 0, 1) := by decide +kernel
theorem d_M_run_208 : decode b_M_run 208 = .ok (.getfield 439, 3) := by decide +kernel
theorem d_M_run_211 : decode b_M_run 211 = .ok (.invokevirtual 459, 3) := by decide +kernel
theorem d_M_run_214 : decode b_M_run 214 = .ok (.iload 7, 2) := by decide +kernel
theorem d_M_run_216 : decode b_M_run 216 = .ok (.bipush 99, 2) := by decide +kernel
theorem d_M_run_218 : decode b_M_run 218 = .ok (.if_icmp .ne 7, 3) := by decide +kernel
theorem d_M_run_221 : decode b_M_run 221 = .ok (.iconst 1, 1) := by decide +kernel
theorem d_M_run_222 : decode b_M_run 222 = .ok (.goto 4, 3) := by decide +kernel
theorem d_M_run_225 : decode b_M_run 225 = .ok (.iconst 0, 1) := by decide +kernel
theorem d_M_run_226 : decode b_M_run 226 = .ok (.if_icmp .ne 7, 3) := by decide +kernel
theorem d_M_run_229 : decode b_M_run 229 = .ok (.iconst 1, 1) := by decide +kernel
theorem d_M_run_230 : decode b_M_run 230 = .ok (.goto 4, 3) := by decide +kernel
theorem d_M_run_233 : decode b_M_run 233 = .ok (.iconst 0, 1) := by decide +kernel
theorem d_M_run_234 : decode b_M_run 234 = .ok (.istore 8, 2) := by decide +kernel
theorem d_M_run_236 : decode b_M_run 236 = .ok (.aload_n 0, 1) := by decide +kernel
theorem d_M_run_237 : decode b_M_run 237 = .ok (.getfield 227, 3) := by decide +kernel
theorem d_M_run_240 : decode b_M_run 240 = .ok (.iload 4, 2) := by decide +kernel
theorem d_M_run_242 : decode b_M_run 242 = .ok (.iload 8, 2) := by decide +kernel
theorem d_M_run_244 : decode b_M_run 244 = .ok (.bastore, 1) := by decide +kernel
theorem d_M_run_245 : decode b_M_run 245 = .ok (.iinc 4 1, 3) := by decide +kernel
theorem d_M_run_248 : decode b_M_run 248 = .ok (.iload 8, 2) := by decide +kernel
theorem d_M_run_250 : decode b_M_run 250 = .ok (.ifCond .ne 6, 3) := by decide +kernel
theorem d_M_run_253 : decode b_M_run 253 = .ok (.iinc 5 1, 3) := by decide +kernel
theorem d_M_run_256 : decode b_M_run 256 = .ok (.goto 95, 3) := by decide +kernel
theorem d_M_run_259 : decode b_M_run 259 = .ok (.iload 4, 2) := by decide +kernel
theorem d_M_run_261 : decode b_M_run 261 = .ok (.ifCond .ne 5, 3) := by decide +kernel
theorem d_M_run_264 : decode b_M_run 264 = .ok (.iconst 0, 1) := by decide +kernel
theorem d_M_run_265 : decode b_M_run 265 = .ok (.ireturn, 1) := by decide +kernel
theorem d_M_run_266 : decode b_M_run 266 = .ok (.aload_n 0, 1) := by decide +kernel
theorem d_M_run_267 : decode b_M_run 267 = .ok (.getfield 227, 3) := by decide +kernel
theorem d_M_run_270 : decode b_M_run 270 = .ok (.iload 4, 2) := by decide +kernel
theorem d_M_run_272 : decode b_M_run 272 = .ok (.iconst 1, 1) := by decide +kernel
theorem d_M_run_273 : decode b_M_run 273 = .ok (.isub, 1) := by decide +kernel
theorem d_M_run_274 : decode b_M_run 274 = .ok (.baload, 1) := by decide +kernel
theorem d_M_run_275 : decode b_M_run 275 = .ok (.istore 8, 2) := by decide +kernel
theorem d_M_run_277 : decode b_M_run 277 = .ok (.iload 7, 2) := by decide +kernel
theorem d_M_run_279 : decode b_M_run 279 = .ok (.bipush 104, 2) := by decide +kernel
theorem d_M_run_281 : decode b_M_run 281 = .ok (.if_icmp .ne 17, 3) := by decide +kernel
theorem d_M_run_284 : decode b_M_run 284 = .ok (.iinc 4 (-1), 3) := by decide +kernel
theorem d_M_run_287 : decode b_M_run 287 = .ok (.iload 8, 2) := by decide +kernel
theorem d_M_run_289 : decode b_M_run 289 = .ok (.ifCond .ne 43, 3) := by decide +kernel
theorem d_M_run_292 : decode b_M_run 292 = .ok (.iinc 5 (-1), 3) := by decide +kernel
theorem d_M_run_295 : decode b_M_run 295 = .ok (.goto 37, 3) := by decide +kernel
theorem d_M_run_298 : decode b_M_run 298 = .ok (.aload_n 0, 1) := by decide +kernel
theorem d_M_run_299 : decode b_M_run 299 = .ok (.getfield 227, 3) := by decide +kernel
theorem d_M_run_302 : decode b_M_run 302 = .ok (.iload 4, 2) := by decide +kernel
theorem d_M_run_304 : decode b_M_run 304 = .ok (.iconst 1, 1) := by decide +kernel
theorem d_M_run_305 : decode b_M_run 305 = .ok (.isub, 1) := by decide +kernel
theorem d_M_run_306 : decode b_M_run 306 = .ok (.iload 8, 2) := by decide +kernel
theorem d_M_run_308 : decode b_M_run 308 = .ok (.ifCond .ne 7, 3) := by decide +kernel
theorem d_M_run_311 : decode b_M_run 311 = .ok (.iconst 1, 1) := by decide +kernel
theorem d_M_run_312 : decode b_M_run 312 = .ok (.goto 4, 3) := by decide +kernel
theorem d_M_run_315 : decode b_M_run 315 = .ok (.iconst 0, 1) := by decide +kernel
theorem d_M_run_316 : decode b_M_run 316 = .ok (.bastore, 1) := by decide +kernel
theorem d_M_run_317 : decode b_M_run 317 = .ok (.iload 5, 2) := by decide +kernel
theorem d_M_run_319 : decode b_M_run 319 = .ok (.iload 8, 2) := by decide +kernel
theorem d_M_run_321 : decode b_M_run 321 = .ok (.ifCond .eq 7, 3) := by decide +kernel
theorem d_M_run_324 : decode b_M_run 324 = .ok (.iconst 1, 1) := by decide +kernel
theorem d_M_run_325 : decode b_M_run 325 = .ok (.goto 4, 3) := by decide +kernel
theorem d_M_run_328 : decode b_M_run 328 = .ok (.iconst (-1), 1) := by decide +kernel
theorem d_M_run_329 : decode b_M_run 329 = .ok (.iadd, 1) := by decide +kernel
theorem d_M_run_330 : decode b_M_run 330 = .ok (.istore 5, 2) := by decide +kernel
theorem d_M_run_332 : decode b_M_run 332 = .ok (.goto 19, 3) := by decide +kernel
theorem d_M_run_335 : decode b_M_run 335 = .ok (.iload 5, 2) := by decide +kernel
theorem d_M_run_337 : decode b_M_run 337 = .ok (.ifCond .ne 14, 3) := by decide +kernel
theorem d_M_run_340 : decode b_M_run 340 = .ok (.aload_n 0, 1) := by decide +kernel
theorem d_M_run_341 : decode b_M_run 341 = .ok (.iload 7, 2) := by decide +kernel
theorem d_M_run_343 : decode b_M_run 343 = .ok (.invokevirtual 462, 3) := by decide +kernel
theorem d_M_run_346 : decode b_M_run 346 = .ok (.ifCond .ne 5, 3) := by decide +kernel
theorem d_M_run_349 : decode b_M_run 349 = .ok (.iconst 0, 1) := by decide +kernel
theorem d_M_run_350 : decode b_M_run 350 = .ok (.ireturn, 1) := by decide +kernel
theorem d_M_run_351 : decode b_M_run 351 = .ok (.aload_n 0, 1) := by decide +kernel
theorem d_M_run_352 : decode b_M_run 352 = .ok (.getfield 439, 3) := by decide +kernel
theorem d_M_run_355 : decode b_M_run 355 = .ok (.aload_n 0, 1) := by decide +kernel
theorem d_M_run_356 : decode b_M_run 356 = .ok (.getfield 450, 3) := by decide +kernel
theorem d_M_run_359 : decode b_M_run 359 = .ok (.iadd, 1) := by decide +kernel
theorem d_M_run_360 : decode b_M_run 360 = .ok (.sipush 200, 3) := by decide +kernel
theorem d_M_run_363 : decode b_M_run 363 = .ok (.if_icmp .le 5, 3) := by decide +kernel
theorem d_M_run_366 : decode b_M_run 366 = .ok (.iconst 0, 1) := by decide +kernel
theorem d_M_run_367 : decode b_M_run 367 = .ok (.ireturn, 1) := by decide +kernel
theorem d_M_run_368 : decode b_M_run 368 = .ok (.goto (-349), 3) := by decide +kernel
theorem d_M_run_371 : decode b_M_run 371 = .ok (.iload 4, 2) := by decide +kernel
theorem d_M_run_373 : decode b_M_run 373 = .ok (.ifCond .ne 7, 3) := by decide +kernel
theorem d_M_run_376 : decode b_M_run 376 = .ok (.iconst 1, 1) := by decide +kernel
theorem d_M_run_377 : decode b_M_run 377 = .ok (.goto 4, 3) := by decide +kernel
theorem d_M_run_380 : decode b_M_run 380 = .ok (.iconst 0, 1) := by decide +kernel
theorem d_M_run_381 : decode b_M_run 381 = .ok (.ireturn, 1) := by decide +kernel
abbrev rm_M_run : Room := { frames := 0, cells := 0, slots := 0, locals := 0 }
abbrev q_M_run (D : va_G) (cy : Nat → ClassId) (A : Nat → Prop) (o : Nat) (q : Nat → Nat) (b1 : Nat) (n1 : Nat) (h1 : Nat → Int32) (res : Int32 × (Nat → Int32)) : Array Value → State → Outcome → State → Prop := va_Qi (fun r' (_ : Unit) => r' = res.1) (fun _ t => Po D cy A [(o, .inr (12, mo q res.2)), (b1, .inl (cy 0, n1, .inl h1))] t) A
def I_M_run_19 (p : Program) (l : Launch) (e : Env) (s : State) (m : MethodId) (args : Array Value) (below : List Frame) (meth : Method) (c : Code) (D : va_G) (cy : Nat → ClassId) (A : Nat → Prop) (ad : Nat → Nat) (o : Nat) (q : Nat → Nat) (b1 : Nat) (n1 : Nat) (h1 : Nat → Int32) (k : Int32 → Int32 → Int32 → Int32 → Int32 → (Nat → Int32) → Option (Int32 × (Nat → Int32))) : Prop :=
  ∀ (x2 : Int32) (x3 : Int32) (x4 : Int32) (x5 : Int32) (x6 : Int32) (u0 : Nat → Int32) (res : Int32 × (Nat → Int32)), k x2 x3 x4 x5 x6 u0 = some res → ∀ (H : Heap) (locs : List Loc) (ls : Array Slot), va_P D classes [(o, .inr (12, mo q u0)), (b1, .inl (cy 0, n1, .inl h1))] H → va_D A [(o, .inr (12, mo q u0)), (b1, .inl (cy 0, n1, .inl h1))] → va_S A s.heap H locs → lv_has ls 9 [(0, .ref o), (1, .ref b1), (2, .int x2), (3, .int x3), (4, .int x4), (5, .int x5), (6, .int x6)] → W p l e rm_M_run s m args below meth c H locs 0 0 (MQ below (q_M_run D cy A o q b1 n1 h1 res) args s 0 0 A) (F0 m 19 ls [])
def I_M_run_e (p : Program) (l : Launch) (e : Env) (s : State) (m : MethodId) (args : Array Value) (below : List Frame) (meth : Method) (c : Code) (D : va_G) (cy : Nat → ClassId) (A : Nat → Prop) (ad : Nat → Nat) (o : Nat) (q : Nat → Nat) (b1 : Nat) (n1 : Nat) (h1 : Nat → Int32) (k : Int32 → Int32 → (Nat → Int32) → Option (Int32 × (Nat → Int32))) : Prop :=
  ∀ (a2 : Int32) (a3 : Int32) (u0 : Nat → Int32) (res : Int32 × (Nat → Int32)), k a2 a3 u0 = some res → ∀ (H : Heap) (locs : List Loc) (ls : Array Slot), va_P D classes [(o, .inr (12, mo q u0)), (b1, .inl (cy 0, n1, .inl h1))] H → va_D A [(o, .inr (12, mo q u0)), (b1, .inl (cy 0, n1, .inl h1))] → va_S A s.heap H locs → lv_has ls 9 [(0, .ref o), (1, .ref b1), (2, .int a2), (3, .int a3)] → W p l e rm_M_run s m args below meth c H locs 0 0 (MQ below (q_M_run D cy A o q b1 n1 h1 res) args s 0 0 A) (F0 m 0 ls [])
def xb_M_run_19 (fu : Nat) (n1 : Nat) (h1 : Nat → Int32) (k_19 : Int32 → Int32 → Int32 → Int32 → Int32 → (Nat → Int32) → Option (Int32 × (Nat → Int32))) (x2 : Int32) (x3 : Int32) (x4 : Int32) (x5 : Int32) (x6 : Int32) (u0 : Nat → Int32) : Option (Int32 × (Nat → Int32)) :=
  if (x2 + x3) ≤ x6 then (if x4 = 0 then (some ((1 : Int32), u0)) else (some ((0 : Int32), u0))) else (none)
set_option maxHeartbeats 8000000 in
set_option maxRecDepth 100000 in
theorem wb_M_run_19 {p : Program} {l : Launch} {e : Env} {s : State} {m : MethodId} {args : Array Value} {below : List Frame} {meth : Method} {c : Code} {D : va_G} {cy : Nat → ClassId} {A : Nat → Prop} {ad : Nat → Nat} {o : Nat} {q : Nat → Nat} {b1 : Nat} {n1 : Nat} {h1 : Nat → Int32} {fu : Nat} {k_19 : Int32 → Int32 → Int32 → Int32 → Int32 → (Nat → Int32) → Option (Int32 × (Nat → Int32))} (F : Fx p s m args meth c b_M_run 9 "CoinKeeperModel" "run" (some .boolean) D cy ad A) (hk_19 : I_M_run_19 p l e s m args below meth c D cy A ad o q b1 n1 h1 k_19) : I_M_run_19 p l e s m args below meth c D cy A ad o q b1 n1 h1 (xb_M_run_19 fu n1 h1 k_19) := by
  obtain ⟨hx, hb, hr, hml, hown, hts, hlocks, hK, hA, hSt, hnm, hex⟩ := id F
  intro x2 x3 x4 x5 x6 u0 res hf H locs ls hP hD hS hl
  unfold xb_M_run_19 at hf
  refine lv_iload hx hb d_M_run_19 (lv_at hl 6 rfl) ?_
  refine lv_iload_n hx hb d_M_run_21 rfl (lv_at hl 2 rfl) ?_
  refine lv_iload_n hx hb d_M_run_22 rfl (lv_at hl 3 rfl) ?_
  refine lv_iadd hx hb d_M_run_23 ?_
  refine lv_icmp_ge (tgt := 371) hx hb d_M_run_24 (by decide) (fun cx => ?_) (fun cx => ?_)
  · have hf := ifp cx hf
    refine lv_iload hx hb d_M_run_371 (lv_at hl 4 rfl) ?_
    refine lv_if_ne (tgt := 380) hx hb d_M_run_373 (by decide) (fun cx => ?_) (fun cx => ?_)
    · have hf := ifn cx hf
      refine lv_iconst (v := 0) hx hb d_M_run_380 (by decide) ?_
      obtain rfl := Option.some.inj hf
      exact q_rz hx hb hr hlocks hK hP hD hS (isb_n (v := 0) (by decide)) d_M_run_381
    · have hf := ifp cx hf
      refine lv_iconst (v := 1) hx hb d_M_run_376 (by decide) ?_
      refine lv_goto (tgt := 381) hx hb d_M_run_377 (by decide) ?_
      obtain rfl := Option.some.inj hf
      exact q_rz hx hb hr hlocks hK hP hD hS (isb_n (v := 1) (by decide)) d_M_run_381
  · have hf := ifn cx hf
    exact nomatch hf
def x_M_run_19 (fu : Nat) (n1 : Nat) (h1 : Nat → Int32) : Nat → Int32 → Int32 → Int32 → Int32 → Int32 → (Nat → Int32) → Option (Int32 × (Nat → Int32))
  | 0 => fun _ _ _ _ _ _ => none
  | n + 1 => xb_M_run_19 fu n1 h1 (x_M_run_19 fu n1 h1 n)
theorem w_M_run_19 {p : Program} {l : Launch} {e : Env} {s : State} {m : MethodId} {args : Array Value} {below : List Frame} {meth : Method} {c : Code} {D : va_G} {cy : Nat → ClassId} {A : Nat → Prop} {ad : Nat → Nat} {o : Nat} {q : Nat → Nat} {b1 : Nat} {n1 : Nat} {h1 : Nat → Int32} {fu : Nat} (F : Fx p s m args meth c b_M_run 9 "CoinKeeperModel" "run" (some .boolean) D cy ad A) : ∀ n : Nat, I_M_run_19 p l e s m args below meth c D cy A ad o q b1 n1 h1 (x_M_run_19 fu n1 h1 n)
  | 0 => fun _ _ _ _ _ _ _ hf => nomatch (show (none : Option (Int32 × (Nat → Int32))) = some _ from hf)
  | n + 1 => wb_M_run_19 F (w_M_run_19 F n)
def x_M_run (fu : Nat) (n1 : Nat) (h1 : Nat → Int32) (a2 : Int32) (a3 : Int32) (u0 : Nat → Int32) : Option (Int32 × (Nat → Int32)) :=
  bnd (upd u0 10 (0 : Int32)) fun z1 => bnd (upd z1 11 (0 : Int32)) fun z2 => x_M_run_19 fu n1 h1 fu a2 a3 (0 : Int32) (0 : Int32) a2 z2
set_option maxHeartbeats 8000000 in
set_option maxRecDepth 100000 in
theorem we_M_run {p : Program} {l : Launch} {e : Env} {s : State} {m : MethodId} {args : Array Value} {below : List Frame} {meth : Method} {c : Code} {D : va_G} {cy : Nat → ClassId} {A : Nat → Prop} {ad : Nat → Nat} {o : Nat} {q : Nat → Nat} {b1 : Nat} {n1 : Nat} {h1 : Nat → Int32} {fu : Nat} (F : Fx p s m args meth c b_M_run 9 "CoinKeeperModel" "run" (some .boolean) D cy ad A) : I_M_run_e p l e s m args below meth c D cy A ad o q b1 n1 h1 (x_M_run fu n1 h1) := by
  obtain ⟨hx, hb, hr, hml, hown, hts, hlocks, hK, hA, hSt, hnm, hex⟩ := id F
  intro a2 a3 u0 res hf H locs ls hP hD hS hl
  unfold x_M_run at hf
  refine lv_iconst (v := 0) hx hb d_M_run_0 (by decide) ?_
  refine lv_istore (lv' := [(4, .int (0 : Int32)), (0, .ref o), (1, .ref b1), (2, .int a2), (3, .int a3)]) hx hb d_M_run_1 hl (by decide) rfl (fun ls hl => ?_)
  refine lv_iconst (v := 0) hx hb d_M_run_3 (by decide) ?_
  refine lv_istore (lv' := [(5, .int (0 : Int32)), (4, .int (0 : Int32)), (0, .ref o), (1, .ref b1), (2, .int a2), (3, .int a3)]) hx hb d_M_run_4 hl (by decide) rfl (fun ls hl => ?_)
  refine lv_aload_n hx hb d_M_run_6 rfl (lv_at hl 2 rfl) ?_
  refine lv_iconst (v := 0) hx hb d_M_run_7 (by decide) ?_
  refine va_put (D := D) (ci := 12) (v := .int (0 : Int32)) (ty := .int) (C := "CoinKeeperModel") (T := F_12) (N := 98) hx hb hts i_12 t_12 t_12_ok n_12 hown hK hP hD hS 0 rfl rfl 80 (by decide) (hts _ gw_1499) (fun _ h9 => h9) rfl (by decide +kernel) rfl rfl (Nat.le_of_ble_eq_true rfl) d_M_run_8 (fun H locs hP hD hS => ?_)
  obtain ⟨z1, ev, hf⟩ := bne hf
  have hP : va_P D classes [(o, .inr (12, mo q z1)), (b1, .inl (cy 0, n1, .inl h1))] H := by rw [ev]; exact hP
  have hD : va_D A [(o, .inr (12, mo q z1)), (b1, .inl (cy 0, n1, .inl h1))] := by rw [ev]; exact hD
  clear ev
  refine lv_aload_n hx hb d_M_run_11 rfl (lv_at hl 2 rfl) ?_
  refine lv_iconst (v := 0) hx hb d_M_run_12 (by decide) ?_
  refine va_put (D := D) (ci := 12) (v := .int (0 : Int32)) (ty := .int) (C := "CoinKeeperModel") (T := F_12) (N := 98) hx hb hts i_12 t_12 t_12_ok n_12 hown hK hP hD hS 0 rfl rfl 81 (by decide) (hts _ gw_1500) (fun _ h9 => h9) rfl (by decide +kernel) rfl rfl (Nat.le_of_ble_eq_true rfl) d_M_run_13 (fun H locs hP hD hS => ?_)
  obtain ⟨z2, ev, hf⟩ := bne hf
  have hP : va_P D classes [(o, .inr (12, mo q z2)), (b1, .inl (cy 0, n1, .inl h1))] H := by rw [ev]; exact hP
  have hD : va_D A [(o, .inr (12, mo q z2)), (b1, .inl (cy 0, n1, .inl h1))] := by rw [ev]; exact hD
  clear ev
  refine lv_iload_n hx hb d_M_run_16 rfl (lv_at hl 4 rfl) ?_
  refine lv_istore (lv' := [(6, .int a2), (5, .int (0 : Int32)), (4, .int (0 : Int32)), (0, .ref o), (1, .ref b1), (2, .int a2), (3, .int a3)]) hx hb d_M_run_17 hl (by decide) rfl (fun ls hl => ?_)
  exact w_M_run_19 F fu _ _ _ _ _ _ _ hf _ _ _ hP hD hS (lv_sub hl [3, 4, 5, 6, 2, 1, 0] rfl)
theorem c_M_run (l : Launch) (D : va_G) (cy : Nat → ClassId) (ad : Nat → Nat) (fu : Nat) (o : Nat) (q : Nat → Nat) (b1 : Nat) (n1 : Nat) (h1 : Nat → Int32) (a2 : Int32) (a3 : Int32) (u0 : Nat → Int32) (res : Int32 × (Nat → Int32)) (hf : x_M_run fu n1 h1 a2 a3 u0 = some res) (sz : Nat) : Met l ({ cls := "CoinKeeperModel", name := "run", desc := "([BII)Z" } : Jvm.MethodName) (.code ({ cls := "CoinKeeperModel", name := "run", desc := "([BII)Z" } : Jvm.MethodName) b_M_run 9 (some .boolean) :: gw) rm_M_run (va_Pc [.ref o, .ref b1, .int a2, .int a3] (Pr D cy ad [(o, .inr (12, mo q u0)), (b1, .inl (cy 0, n1, .inl h1))] sz)) (q_M_run D cy (va_A [(o, .inr (12, mo q u0)), (b1, .inl (cy 0, n1, .inl h1))] sz) o q b1 n1 h1 res) 0 0 (va_A [(o, .inr (12, mo q u0)), (b1, .inl (cy 0, n1, .inl h1))] sz) :=
  q_met (Qc := fun A => q_M_run D cy A o q b1 n1 h1 res) (by decide) rfl rfl (Nat.le_of_ble_eq_true rfl) (fun p e s m below meth c ls F hP hD hS hl => we_M_run (fu := fu) F a2 a3 u0 res hf _ _ _ hP hD hS hl) sz
abbrev b_M_isTrue0 : ByteArray := prog_14_method_79_code
theorem d_M_isTrue0_0 : decode b_M_isTrue0 0 = .ok (.aload_n 0, 1) := by decide +kernel
theorem d_M_isTrue0_1 : decode b_M_isTrue0 1 = .ok (.iconst 0, 1) := by decide +kernel
theorem d_M_isTrue0_2 : decode b_M_isTrue0 2 = .ok (.putfield 439, 3) := by decide +kernel
theorem d_M_isTrue0_5 : decode b_M_isTrue0 5 = .ok (.aload_n 0, 1) := by decide +kernel
theorem d_M_isTrue0_6 : decode b_M_isTrue0 6 = .ok (.aload_n 1, 1) := by decide +kernel
theorem d_M_isTrue0_7 : decode b_M_isTrue0 7 = .ok (.iload_n 2, 1) := by decide +kernel
theorem d_M_isTrue0_8 : decode b_M_isTrue0 8 = .ok (.iload_n 3, 1) := by decide +kernel
theorem d_M_isTrue0_9 : decode b_M_isTrue0 9 = .ok (.invokevirtual 650, 3) := by decide +kernel
theorem d_M_isTrue0_12 : decode b_M_isTrue0 12 = .ok (.ifCond .eq 39, 3) := by decide +kernel
theorem d_M_isTrue0_15 : decode b_M_isTrue0 15 = .ok (.aload_n 0, 1) := by decide +kernel
theorem d_M_isTrue0_16 : decode b_M_isTrue0 16 = .ok (.aload_n 1, 1) := by decide +kernel
theorem d_M_isTrue0_17 : decode b_M_isTrue0 17 = .ok (.iload 4, 2) := by decide +kernel
theorem d_M_isTrue0_19 : decode b_M_isTrue0 19 = .ok (.iload 5, 2) := by decide +kernel
theorem d_M_isTrue0_21 : decode b_M_isTrue0 21 = .ok (.invokevirtual 650, 3) := by decide +kernel
theorem d_M_isTrue0_24 : decode b_M_isTrue0 24 = .ok (.ifCond .eq 27, 3) := by decide +kernel
theorem d_M_isTrue0_27 : decode b_M_isTrue0 27 = .ok (.aload_n 0, 1) := by decide +kernel
theorem d_M_isTrue0_28 : decode b_M_isTrue0 28 = .ok (.getfield 439, 3) := by decide +kernel
theorem d_M_isTrue0_31 : decode b_M_isTrue0 31 = .ok (.ifCond .le 20, 3) := by decide +kernel
theorem d_M_isTrue0_34 : decode b_M_isTrue0 34 = .ok (.aload_n 0, 1) := by decide +kernel
theorem d_M_isTrue0_35 : decode b_M_isTrue0 35 = .ok (.aload_n 0, 1) := by decide +kernel
theorem d_M_isTrue0_36 : decode b_M_isTrue0 36 = .ok (.getfield 439, 3) := by decide +kernel
theorem d_M_isTrue0_39 : decode b_M_isTrue0 39 = .ok (.iconst 1, 1) := by decide +kernel
theorem d_M_isTrue0_40 : decode b_M_isTrue0 40 = .ok (.isub, 1) := by decide +kernel
theorem d_M_isTrue0_41 : decode b_M_isTrue0 41 = .ok (.invokevirtual 459, 3) := by decide +kernel
theorem d_M_isTrue0_44 : decode b_M_isTrue0 44 = .ok (.ifCond .eq 7, 3) := by decide +kernel
theorem d_M_isTrue0_47 : decode b_M_isTrue0 47 = .ok (.iconst 1, 1) := by decide +kernel
theorem d_M_isTrue0_48 : decode b_M_isTrue0 48 = .ok (.goto 4, 3) := by decide +kernel
theorem d_M_isTrue0_51 : decode b_M_isTrue0 51 = .ok (.iconst 0, 1) := by decide +kernel
theorem d_M_isTrue0_52 : decode b_M_isTrue0 52 = .ok (.ireturn, 1) := by decide +kernel
abbrev rm_M_isTrue0 : Room := { frames := 1, cells := 0, slots := 0, locals := 28 }
abbrev q_M_isTrue0 (D : va_G) (cy : Nat → ClassId) (A : Nat → Prop) (o : Nat) (q : Nat → Nat) (b1 : Nat) (n1 : Nat) (h1 : Nat → Int32) (res : Int32 × (Nat → Int32)) : Array Value → State → Outcome → State → Prop := va_Qi (fun r' (_ : Unit) => r' = res.1) (fun _ t => Po D cy A [(o, .inr (12, mo q res.2)), (b1, .inl (cy 0, n1, .inl h1))] t) A
def I_M_isTrue0_e (p : Program) (l : Launch) (e : Env) (s : State) (m : MethodId) (args : Array Value) (below : List Frame) (meth : Method) (c : Code) (D : va_G) (cy : Nat → ClassId) (A : Nat → Prop) (ad : Nat → Nat) (o : Nat) (q : Nat → Nat) (b1 : Nat) (n1 : Nat) (h1 : Nat → Int32) (k : Int32 → Int32 → Int32 → Int32 → (Nat → Int32) → Option (Int32 × (Nat → Int32))) : Prop :=
  ∀ (a2 : Int32) (a3 : Int32) (a4 : Int32) (a5 : Int32) (u0 : Nat → Int32) (res : Int32 × (Nat → Int32)), k a2 a3 a4 a5 u0 = some res → ∀ (H : Heap) (locs : List Loc) (ls : Array Slot), va_P D classes [(o, .inr (12, mo q u0)), (b1, .inl (cy 0, n1, .inl h1))] H → va_D A [(o, .inr (12, mo q u0)), (b1, .inl (cy 0, n1, .inl h1))] → va_S A s.heap H locs → lv_has ls 6 [(0, .ref o), (1, .ref b1), (2, .int a2), (3, .int a3), (4, .int a4), (5, .int a5)] → W p l e rm_M_isTrue0 s m args below meth c H locs 0 0 (MQ below (q_M_isTrue0 D cy A o q b1 n1 h1 res) args s 0 0 A) (F0 m 0 ls [])
theorem hdb_14 : ({ cls := "CoinKeeperModel", name := "run", desc := "([BII)Z" } : Jvm.MethodName).cls ≠ "java/lang/invoke/MethodHandle" ∧ ({ cls := "CoinKeeperModel", name := "run", desc := "([BII)Z" } : Jvm.MethodName).cls ≠ "java/lang/invoke/VarHandle" ∧ (parseMethodDescriptor ({ cls := "CoinKeeperModel", name := "run", desc := "([BII)Z" } : Jvm.MethodName).desc).map (fun d => d.parameters.length) = some 3 := by decide +kernel
def x_M_isTrue0 (fu : Nat) (n1 : Nat) (h1 : Nat → Int32) (a2 : Int32) (a3 : Int32) (a4 : Int32) (a5 : Int32) (u0 : Nat → Int32) : Option (Int32 × (Nat → Int32)) :=
  bnd (upd u0 9 (0 : Int32)) fun z1 => bd2 (x_M_run fu n1 h1 a2 a3 z1) fun v2 f3 => if v2 = 0 then (some ((0 : Int32), f3)) else (bd2 (x_M_run fu n1 h1 a4 a5 f3) fun v4 f5 => if v4 = 0 then (some ((0 : Int32), f5)) else (if (f5 9) ≤ 0 then (some ((0 : Int32), f5)) else (none)))
set_option maxHeartbeats 8000000 in
set_option maxRecDepth 100000 in
theorem we_M_isTrue0 {p : Program} {l : Launch} {e : Env} {s : State} {m : MethodId} {args : Array Value} {below : List Frame} {meth : Method} {c : Code} {D : va_G} {cy : Nat → ClassId} {A : Nat → Prop} {ad : Nat → Nat} {o : Nat} {q : Nat → Nat} {b1 : Nat} {n1 : Nat} {h1 : Nat → Int32} {fu : Nat} (F : Fx p s m args meth c b_M_isTrue0 6 "CoinKeeperModel" "isTrue" (some .boolean) D cy ad A) : I_M_isTrue0_e p l e s m args below meth c D cy A ad o q b1 n1 h1 (x_M_isTrue0 fu n1 h1) := by
  obtain ⟨hx, hb, hr, hml, hown, hts, hlocks, hK, hA, hSt, hnm, hex⟩ := id F
  intro a2 a3 a4 a5 u0 res hf H locs ls hP hD hS hl
  unfold x_M_isTrue0 at hf
  refine lv_aload_n hx hb d_M_isTrue0_0 rfl (lv_at hl 0 rfl) ?_
  refine lv_iconst (v := 0) hx hb d_M_isTrue0_1 (by decide) ?_
  refine va_put (D := D) (ci := 12) (v := .int (0 : Int32)) (ty := .int) (C := "CoinKeeperModel") (T := F_12) (N := 98) hx hb hts i_12 t_12 t_12_ok n_12 hown hK hP hD hS 0 rfl rfl 79 (by decide) (hts _ gw_1498) (fun _ h9 => h9) rfl (by decide +kernel) rfl rfl (Nat.le_of_ble_eq_true rfl) d_M_isTrue0_2 (fun H locs hP hD hS => ?_)
  obtain ⟨z1, ev, hf⟩ := bne hf
  have hP : va_P D classes [(o, .inr (12, mo q z1)), (b1, .inl (cy 0, n1, .inl h1))] H := by rw [ev]; exact hP
  have hD : va_D A [(o, .inr (12, mo q z1)), (b1, .inl (cy 0, n1, .inl h1))] := by rw [ev]; exact hD
  clear ev
  refine lv_aload_n hx hb d_M_isTrue0_5 rfl (lv_at hl 0 rfl) ?_
  refine lv_aload_n hx hb d_M_isTrue0_6 rfl (lv_at hl 1 rfl) ?_
  refine lv_iload_n hx hb d_M_isTrue0_7 rfl (lv_at hl 2 rfl) ?_
  refine lv_iload_n hx hb d_M_isTrue0_8 rfl (lv_at hl 3 rfl) ?_
  obtain ⟨v2, f3, hc, hf⟩ := bdp2 hf
  refine q_ai (wr := []) (va_runV (C := "CoinKeeperModel") (As := [.ref b1, .int a2, .int a3]) (rest := []) ⟨hx, hb, hml, hown, hts⟩ (c_M_run l D cy ad fu o q b1 n1 h1 a2 a3 z1 _ hc H.size) ⟨q_cB hts gw_1869 gw_18 gw_1866 hdb_14 ⟨by decide, by decide⟩, hts _ gw_1868, hts _ gs_92⟩ (q_preV (q_pre (hP.sub [0, 1] rfl) (hD.sub [0, 1] (by decide) rfl) hK hSt hS (va_free hD hS hA [0, 1] rfl) _) (va_recv hK (hP.sub [0, 1] rfl) (ci := 12) (q0 := 0) rfl rfl)) rfl rfl hl.1 rfl (lv_room (Nat.le_of_ble_eq_true rfl)) d_M_isTrue0_9 ⟨Nat.le_of_ble_eq_true rfl, Nat.le_of_ble_eq_true rfl⟩) hP hD hS hA [0, 1] [] rfl rfl (by decide) (by decide) (fun H locs hP hD hS => ?_)
  clear hc
  have hP : va_P D classes [(o, .inr (12, mo q f3)), (b1, .inl (cy 0, n1, .inl h1))] H := hP
  have hD : va_D A [(o, .inr (12, mo q f3)), (b1, .inl (cy 0, n1, .inl h1))] := hD
  refine lv_if_eq (tgt := 51) hx hb d_M_isTrue0_12 (by decide) (fun cx => ?_) (fun cx => ?_)
  · have hf := ifp cx hf
    refine lv_iconst (v := 0) hx hb d_M_isTrue0_51 (by decide) ?_
    obtain rfl := Option.some.inj hf
    exact q_rz hx hb hr hlocks hK hP hD hS (isb_n (v := 0) (by decide)) d_M_isTrue0_52
  · have hf := ifn cx hf
    refine lv_aload_n hx hb d_M_isTrue0_15 rfl (lv_at hl 0 rfl) ?_
    refine lv_aload_n hx hb d_M_isTrue0_16 rfl (lv_at hl 1 rfl) ?_
    refine lv_iload hx hb d_M_isTrue0_17 (lv_at hl 4 rfl) ?_
    refine lv_iload hx hb d_M_isTrue0_19 (lv_at hl 5 rfl) ?_
    obtain ⟨v4, f5, hc, hf⟩ := bdp2 hf
    refine q_ai (wr := []) (va_runV (C := "CoinKeeperModel") (As := [.ref b1, .int a4, .int a5]) (rest := []) ⟨hx, hb, hml, hown, hts⟩ (c_M_run l D cy ad fu o q b1 n1 h1 a4 a5 f3 _ hc H.size) ⟨q_cB hts gw_1869 gw_18 gw_1866 hdb_14 ⟨by decide, by decide⟩, hts _ gw_1868, hts _ gs_92⟩ (q_preV (q_pre (hP.sub [0, 1] rfl) (hD.sub [0, 1] (by decide) rfl) hK hSt hS (va_free hD hS hA [0, 1] rfl) _) (va_recv hK (hP.sub [0, 1] rfl) (ci := 12) (q0 := 0) rfl rfl)) rfl rfl hl.1 rfl (lv_room (Nat.le_of_ble_eq_true rfl)) d_M_isTrue0_21 ⟨Nat.le_of_ble_eq_true rfl, Nat.le_of_ble_eq_true rfl⟩) hP hD hS hA [0, 1] [] rfl rfl (by decide) (by decide) (fun H locs hP hD hS => ?_)
    clear hc
    have hP : va_P D classes [(o, .inr (12, mo q f5)), (b1, .inl (cy 0, n1, .inl h1))] H := hP
    have hD : va_D A [(o, .inr (12, mo q f5)), (b1, .inl (cy 0, n1, .inl h1))] := hD
    refine lv_if_eq (tgt := 51) hx hb d_M_isTrue0_24 (by decide) (fun cx => ?_) (fun cx => ?_)
    · have hf := ifp cx hf
      refine lv_iconst (v := 0) hx hb d_M_isTrue0_51 (by decide) ?_
      obtain rfl := Option.some.inj hf
      exact q_rz hx hb hr hlocks hK hP hD hS (isb_n (v := 0) (by decide)) d_M_isTrue0_52
    · have hf := ifn cx hf
      refine lv_aload_n hx hb d_M_isTrue0_27 rfl (lv_at hl 0 rfl) ?_
      refine va_get (D := D) (ci := 12) (v := .int (f5 9)) (C := "CoinKeeperModel") (T := F_12) (N := 98) hx hb hts i_12 hown hK hP 0 rfl rfl 79 (by decide) (hts _ gw_1498) (fun _ h9 => h9) rfl d_M_isTrue0_28 ?_
      refine lv_if_le (tgt := 51) hx hb d_M_isTrue0_31 (by decide) (fun cx => ?_) (fun cx => ?_)
      · have hf := ifp cx hf
        refine lv_iconst (v := 0) hx hb d_M_isTrue0_51 (by decide) ?_
        obtain rfl := Option.some.inj hf
        exact q_rz hx hb hr hlocks hK hP hD hS (isb_n (v := 0) (by decide)) d_M_isTrue0_52
      · have hf := ifn cx hf
        refine lv_aload_n hx hb d_M_isTrue0_34 rfl (lv_at hl 0 rfl) ?_
        refine lv_aload_n hx hb d_M_isTrue0_35 rfl (lv_at hl 0 rfl) ?_
        refine va_get (D := D) (ci := 12) (v := .int (f5 9)) (C := "CoinKeeperModel") (T := F_12) (N := 98) hx hb hts i_12 hown hK hP 0 rfl rfl 79 (by decide) (hts _ gw_1498) (fun _ h9 => h9) rfl d_M_isTrue0_36 ?_
        refine lv_iconst (v := 1) hx hb d_M_isTrue0_39 (by decide) ?_
        refine lv_isub hx hb d_M_isTrue0_40 ?_
        exact nomatch hf
theorem c_M_isTrue0 (l : Launch) (D : va_G) (cy : Nat → ClassId) (ad : Nat → Nat) (fu : Nat) (o : Nat) (q : Nat → Nat) (b1 : Nat) (n1 : Nat) (h1 : Nat → Int32) (a2 : Int32) (a3 : Int32) (a4 : Int32) (a5 : Int32) (u0 : Nat → Int32) (res : Int32 × (Nat → Int32)) (hf : x_M_isTrue0 fu n1 h1 a2 a3 a4 a5 u0 = some res) (sz : Nat) : Met l ({ cls := "CoinKeeperModel", name := "isTrue", desc := "([BIIII)Z" } : Jvm.MethodName) (.code ({ cls := "CoinKeeperModel", name := "isTrue", desc := "([BIIII)Z" } : Jvm.MethodName) b_M_isTrue0 6 (some .boolean) :: gw) rm_M_isTrue0 (va_Pc [.ref o, .ref b1, .int a2, .int a3, .int a4, .int a5] (Pr D cy ad [(o, .inr (12, mo q u0)), (b1, .inl (cy 0, n1, .inl h1))] sz)) (q_M_isTrue0 D cy (va_A [(o, .inr (12, mo q u0)), (b1, .inl (cy 0, n1, .inl h1))] sz) o q b1 n1 h1 res) 0 0 (va_A [(o, .inr (12, mo q u0)), (b1, .inl (cy 0, n1, .inl h1))] sz) :=
  q_met (Qc := fun A => q_M_isTrue0 D cy A o q b1 n1 h1 res) (by decide) rfl rfl (Nat.le_of_ble_eq_true rfl) (fun p e s m below meth c ls F hP hD hS hl => we_M_isTrue0 (fu := fu) F a2 a3 a4 a5 u0 res hf _ _ _ hP hD hS hl) sz
