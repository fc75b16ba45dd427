abbrev b_Ma_run : ByteArray := prog_7_method_6_code
theorem d_Ma_run_0 : decode b_Ma_run 0 = .ok (.aload_n 0, 1) := by decide +kernel
theorem d_Ma_run_1 : decode b_Ma_run 1 = .ok (.iconst 0, 1) := by decide +kernel
theorem d_Ma_run_2 : decode b_Ma_run 2 = .ok (.putfield 83, 3) := by decide +kernel
theorem d_Ma_run_5 : decode b_Ma_run 5 = .ok (.aload_n 0, 1) := by decide +kernel
theorem d_Ma_run_6 : decode b_Ma_run 6 = .ok (.iconst 0, 1) := by decide +kernel
theorem d_Ma_run_7 : decode b_Ma_run 7 = .ok (.putfield 86, 3) := by decide +kernel
theorem d_Ma_run_10 : decode b_Ma_run 10 = .ok (.aload_n 0, 1) := by decide +kernel
theorem d_Ma_run_11 : decode b_Ma_run 11 = .ok (.iconst 0, 1) := by decide +kernel
theorem d_Ma_run_12 : decode b_Ma_run 12 = .ok (.putfield 89, 3) := by decide +kernel
theorem d_Ma_run_15 : decode b_Ma_run 15 = .ok (.aload_n 0, 1) := by decide +kernel
theorem d_Ma_run_16 : decode b_Ma_run 16 = .ok (.iconst 0, 1) := by decide +kernel
theorem d_Ma_run_17 : decode b_Ma_run 17 = .ok (.putfield 92, 3) := by decide +kernel
theorem d_Ma_run_20 : decode b_Ma_run 20 = .ok (.bipush 64, 2) := by decide +kernel
theorem d_Ma_run_22 : decode b_Ma_run 22 = .ok (.iload_n 1, 1) := by decide +kernel
theorem d_Ma_run_23 : decode b_Ma_run 23 = .ok (.sipush 1000, 3) := by decide +kernel
theorem d_Ma_run_26 : decode b_Ma_run 26 = .ok (.imul, 1) := by decide +kernel
theorem d_Ma_run_27 : decode b_Ma_run 27 = .ok (.iadd, 1) := by decide +kernel
theorem d_Ma_run_28 : decode b_Ma_run 28 = .ok (.istore_n 2, 1) := by decide +kernel
theorem d_Ma_run_29 : decode b_Ma_run 29 = .ok (.aload_n 0, 1) := by decide +kernel
theorem d_Ma_run_30 : decode b_Ma_run 30 = .ok (.getfield 22, 3) := by decide +kernel
theorem d_Ma_run_33 : decode b_Ma_run 33 = .ok (.iload_n 1, 1) := by decide +kernel
theorem d_Ma_run_34 : decode b_Ma_run 34 = .ok (.iaload, 1) := by decide +kernel
theorem d_Ma_run_35 : decode b_Ma_run 35 = .ok (.istore_n 3, 1) := by decide +kernel
theorem d_Ma_run_36 : decode b_Ma_run 36 = .ok (.iload_n 2, 1) := by decide +kernel
theorem d_Ma_run_37 : decode b_Ma_run 37 = .ok (.iload_n 3, 1) := by decide +kernel
theorem d_Ma_run_38 : decode b_Ma_run 38 = .ok (.if_icmp .ge 268, 3) := by decide +kernel
theorem d_Ma_run_41 : decode b_Ma_run 41 = .ok (.aload_n 0, 1) := by decide +kernel
theorem d_Ma_run_42 : decode b_Ma_run 42 = .ok (.getfield 18, 3) := by decide +kernel
theorem d_Ma_run_45 : decode b_Ma_run 45 = .ok (.iload_n 2, 1) := by decide +kernel
theorem d_Ma_run_46 : decode b_Ma_run 46 = .ok (.baload, 1) := by decide +kernel
theorem d_Ma_run_47 : decode b_Ma_run 47 = .ok (.sipush 255, 3) := by decide +kernel
theorem d_Ma_run_50 : decode b_Ma_run 50 = .ok (.iand, 1) := by decide +kernel
theorem d_Ma_run_51 : decode b_Ma_run 51 = .ok (.istore 4, 2) := by decide +kernel
theorem d_Ma_run_53 : decode b_Ma_run 53 = .ok (.iinc 2 1, 3) := by decide +kernel
theorem d_Ma_run_56 : decode b_Ma_run 56 = .ok (.iconst 1, 1) := by decide +kernel
theorem d_Ma_run_57 : decode b_Ma_run 57 = .ok (.istore 5, 2) := by decide +kernel
theorem d_Ma_run_59 : decode b_Ma_run 59 = .ok (.iload 4, 2) := by decide +kernel
theorem d_Ma_run_61 : decode b_Ma_run 61 = .ok (.bipush 76, 2) := by decide +kernel
theorem d_Ma_run_63 : decode b_Ma_run 63 = .ok (.if_icmp .gt 84, 3) := by decide +kernel
theorem d_Ma_run_66 : decode b_Ma_run 66 = .ok (.iload 4, 2) := by decide +kernel
theorem d_Ma_run_68 : decode b_Ma_run 68 = .ok (.istore 6, 2) := by decide +kernel
theorem d_Ma_run_70 : decode b_Ma_run 70 = .ok (.iload 4, 2) := by decide +kernel
theorem d_Ma_run_72 : decode b_Ma_run 72 = .ok (.bipush 76, 2) := by decide +kernel
theorem d_Ma_run_74 : decode b_Ma_run 74 = .ok (.if_icmp .ne 27, 3) := by decide +kernel
theorem d_Ma_run_77 : decode b_Ma_run 77 = .ok (.iload_n 2, 1) := by decide +kernel
theorem d_Ma_run_78 : decode b_Ma_run 78 = .ok (.iload_n 3, 1) := by decide +kernel
theorem d_Ma_run_79 : decode b_Ma_run 79 = .ok (.if_icmp .ge 16, 3) := by decide +kernel
theorem d_Ma_run_82 : decode b_Ma_run 82 = .ok (.aload_n 0, 1) := by decide +kernel
theorem d_Ma_run_83 : decode b_Ma_run 83 = .ok (.getfield 18, 3) := by decide +kernel
theorem d_Ma_run_86 : decode b_Ma_run 86 = .ok (.iload_n 2, 1) := by decide +kernel
theorem d_Ma_run_87 : decode b_Ma_run 87 = .ok (.baload, 1) := by decide +kernel
theorem d_Ma_run_88 : decode b_Ma_run 88 = .ok (.sipush 255, 3) := by decide +kernel
theorem d_Ma_run_91 : decode b_Ma_run 91 = .ok (.iand, 1) := by decide +kernel
theorem d_Ma_run_92 : decode b_Ma_run 92 = .ok (.goto 4, 3) := by decide +kernel
theorem d_Ma_run_95 : decode b_Ma_run 95 = .ok (.iload_n 3, 1) := by decide +kernel
theorem d_Ma_run_96 : decode b_Ma_run 96 = .ok (.istore 6, 2) := by decide +kernel
theorem d_Ma_run_98 : decode b_Ma_run 98 = .ok (.iinc 2 1, 3) := by decide +kernel
theorem d_Ma_run_101 : decode b_Ma_run 101 = .ok (.iload 6, 2) := by decide +kernel
theorem d_Ma_run_103 : decode b_Ma_run 103 = .ok (.iload_n 3, 1) := by decide +kernel
theorem d_Ma_run_104 : decode b_Ma_run 104 = .ok (.iload_n 2, 1) := by decide +kernel
theorem d_Ma_run_105 : decode b_Ma_run 105 = .ok (.isub, 1) := by decide +kernel
theorem d_Ma_run_106 : decode b_Ma_run 106 = .ok (.if_icmp .gt 7, 3) := by decide +kernel
theorem d_Ma_run_109 : decode b_Ma_run 109 = .ok (.iconst 1, 1) := by decide +kernel
theorem d_Ma_run_110 : decode b_Ma_run 110 = .ok (.goto 4, 3) := by decide +kernel
theorem d_Ma_run_113 : decode b_Ma_run 113 = .ok (.iconst 0, 1) := by decide +kernel
theorem d_Ma_run_114 : decode b_Ma_run 114 = .ok (.istore 5, 2) := by decide +kernel
theorem d_Ma_run_116 : decode b_Ma_run 116 = .ok (.iload 5, 2) := by decide +kernel
theorem d_Ma_run_118 : decode b_Ma_run 118 = .ok (.ifCond .eq 21, 3) := by decide +kernel
theorem d_Ma_run_121 : decode b_Ma_run 121 = .ok (.aload_n 0, 1) := by decide +kernel
theorem d_Ma_run_122 : decode b_Ma_run 122 = .ok (.getfield 92, 3) := by decide +kernel
theorem d_Ma_run_125 : decode b_Ma_run 125 = .ok (.ifCond .ne 14, 3) := by decide +kernel
theorem d_Ma_run_128 : decode b_Ma_run 128 = .ok (.aload_n 0, 1) := by decide +kernel
theorem d_Ma_run_129 : decode b_Ma_run 129 = .ok (.iload_n 2, 1) := by decide +kernel
theorem d_Ma_run_130 : decode b_Ma_run 130 = .ok (.bipush 8, 2) := by decide +kernel
theorem d_Ma_run_132 : decode b_Ma_run 132 = .ok (.ishl, 1) := by decide +kernel
theorem d_Ma_run_133 : decode b_Ma_run 133 = .ok (.iload 6, 2) := by decide +kernel
theorem d_Ma_run_135 : decode b_Ma_run 135 = .ok (.ior, 1) := by decide +kernel
theorem d_Ma_run_136 : decode b_Ma_run 136 = .ok (.invokevirtual 95, 3) := by decide +kernel
theorem d_Ma_run_139 : decode b_Ma_run 139 = .ok (.iload_n 2, 1) := by decide +kernel
theorem d_Ma_run_140 : decode b_Ma_run 140 = .ok (.iload 6, 2) := by decide +kernel
theorem d_Ma_run_142 : decode b_Ma_run 142 = .ok (.iadd, 1) := by decide +kernel
theorem d_Ma_run_143 : decode b_Ma_run 143 = .ok (.istore_n 2, 1) := by decide +kernel
theorem d_Ma_run_144 : decode b_Ma_run 144 = .ok (.goto 137, 3) := by decide +kernel
theorem d_Ma_run_147 : decode b_Ma_run 147 = .ok (.iload 4, 2) := by decide +kernel
theorem d_Ma_run_149 : decode b_Ma_run 149 = .ok (.bipush 96, 2) := by decide +kernel
theorem d_Ma_run_151 : decode b_Ma_run 151 = .ok (.if_icmp .le 26, 3) := by decide +kernel
theorem d_Ma_run_154 : decode b_Ma_run 154 = .ok (.aload_n 0, 1) := by decide +kernel
theorem d_Ma_run_155 : decode b_Ma_run 155 = .ok (.dup, 1) := by decide +kernel
theorem d_Ma_run_156 : decode b_Ma_run 156 = .ok (.getfield 86, 3) := by decide +kernel
theorem d_Ma_run_159 : decode b_Ma_run 159 = .ok (.iconst 1, 1) := by decide +kernel
theorem d_Ma_run_160 : decode b_Ma_run 160 = .ok (.iadd, 1) := by decide +kernel
theorem d_Ma_run_161 : decode b_Ma_run 161 = .ok (.dup_x1, 1) := by decide +kernel
theorem d_Ma_run_162 : decode b_Ma_run 162 = .ok (.putfield 86, 3) := by decide +kernel
theorem d_Ma_run_165 : decode b_Ma_run 165 = .ok (.sipush 201, 3) := by decide +kernel
theorem d_Ma_run_168 : decode b_Ma_run 168 = .ok (.if_icmp .le 9, 3) := by decide +kernel
theorem d_Ma_run_171 : decode b_Ma_run 171 = .ok (.iconst 0, 1) := by decide +kernel
theorem d_Ma_run_172 : decode b_Ma_run 172 = .ok (.istore 5, 2) := by decide +kernel
theorem d_Ma_run_174 : decode b_Ma_run 174 = .ok (.goto 107, 3) := by decide +kernel
theorem d_Ma_run_177 : decode b_Ma_run 177 = .ok (.iload 4, 2) := by decide +kernel
theorem d_Ma_run_179 : decode b_Ma_run 179 = .ok (.bipush 99, 2) := by decide +kernel
theorem d_Ma_run_181 : decode b_Ma_run 181 = .ok (.if_icmp .lt 35, 3) := by decide +kernel
theorem d_Ma_run_184 : decode b_Ma_run 184 = .ok (.iload 4, 2) := by decide +kernel
theorem d_Ma_run_186 : decode b_Ma_run 186 = .ok (.bipush 104, 2) := by decide +kernel
theorem d_Ma_run_188 : decode b_Ma_run 188 = .ok (.if_icmp .gt 28, 3) := by decide +kernel
theorem d_Ma_run_191 : decode b_Ma_run 191 = .ok (.iload 4, 2) := by decide +kernel
theorem d_Ma_run_193 : decode b_Ma_run 193 = .ok (.bipush 101, 2) := by decide +kernel
theorem d_Ma_run_195 : decode b_Ma_run 195 = .ok (.if_icmp .eq 21, 3) := by decide +kernel
theorem d_Ma_run_198 : decode b_Ma_run 198 = .ok (.iload 4, 2) := by decide +kernel
theorem d_Ma_run_200 : decode b_Ma_run 200 = .ok (.bipush 102, 2) := by decide +kernel
theorem d_Ma_run_202 : decode b_Ma_run 202 = .ok (.if_icmp .eq 14, 3) := by decide +kernel
theorem d_Ma_run_205 : decode b_Ma_run 205 = .ok (.aload_n 0, 1) := by decide +kernel
theorem d_Ma_run_206 : decode b_Ma_run 206 = .ok (.iload 4, 2) := by decide +kernel
theorem d_Ma_run_208 : decode b_Ma_run 208 = .ok (.invokevirtual 99, 3) := by decide +kernel
theorem d_Ma_run_211 : decode b_Ma_run 211 = .ok (.istore 5, 2) := by decide +kernel
theorem d_Ma_run_213 : decode b_Ma_run 213 = .ok (.goto 68, 3) := by decide +kernel
theorem d_Ma_run_216 : decode b_Ma_run 216 = .ok (.aload_n 0, 1) := by decide +kernel
theorem d_Ma_run_217 : decode b_Ma_run 217 = .ok (.getfield 92, 3) := by decide +kernel
theorem d_Ma_run_220 : decode b_Ma_run 220 = .ok (.ifCond .ne 61, 3) := by decide +kernel
theorem d_Ma_run_223 : decode b_Ma_run 223 = .ok (.iload 4, 2) := by decide +kernel
theorem d_Ma_run_225 : decode b_Ma_run 225 = .ok (.sipush 174, 3) := by decide +kernel
theorem d_Ma_run_228 : decode b_Ma_run 228 = .ok (.if_icmp .eq 11, 3) := by decide +kernel
theorem d_Ma_run_231 : decode b_Ma_run 231 = .ok (.iload 4, 2) := by decide +kernel
theorem d_Ma_run_233 : decode b_Ma_run 233 = .ok (.sipush 175, 3) := by decide +kernel
theorem d_Ma_run_236 : decode b_Ma_run 236 = .ok (.if_icmp .ne 12, 3) := by decide +kernel
theorem d_Ma_run_239 : decode b_Ma_run 239 = .ok (.aload_n 0, 1) := by decide +kernel
theorem d_Ma_run_240 : decode b_Ma_run 240 = .ok (.iload 4, 2) := by decide +kernel
theorem d_Ma_run_242 : decode b_Ma_run 242 = .ok (.invokevirtual 102, 3) := by decide +kernel
theorem d_Ma_run_245 : decode b_Ma_run 245 = .ok (.goto 34, 3) := by decide +kernel
theorem d_Ma_run_248 : decode b_Ma_run 248 = .ok (.iload 4, 2) := by decide +kernel
theorem d_Ma_run_250 : decode b_Ma_run 250 = .ok (.sipush 172, 3) := by decide +kernel
theorem d_Ma_run_253 : decode b_Ma_run 253 = .ok (.if_icmp .eq 11, 3) := by decide +kernel
theorem d_Ma_run_256 : decode b_Ma_run 256 = .ok (.iload 4, 2) := by decide +kernel
theorem d_Ma_run_258 : decode b_Ma_run 258 = .ok (.sipush 173, 3) := by decide +kernel
theorem d_Ma_run_261 : decode b_Ma_run 261 = .ok (.if_icmp .ne 12, 3) := by decide +kernel
theorem d_Ma_run_264 : decode b_Ma_run 264 = .ok (.aload_n 0, 1) := by decide +kernel
theorem d_Ma_run_265 : decode b_Ma_run 265 = .ok (.iload 4, 2) := by decide +kernel
theorem d_Ma_run_267 : decode b_Ma_run 267 = .ok (.invokevirtual 105, 3) := by decide +kernel
theorem d_Ma_run_270 : decode b_Ma_run 270 = .ok (.goto 9, 3) := by decide +kernel
theorem d_Ma_run_273 : decode b_Ma_run 273 = .ok (.aload_n 0, 1) := by decide +kernel
theorem d_Ma_run_274 : decode b_Ma_run 274 = .ok (.iload 4, 2) := by decide +kernel
theorem d_Ma_run_276 : decode b_Ma_run 276 = .ok (.invokevirtual 108, 3) := by decide +kernel
theorem d_Ma_run_279 : decode b_Ma_run 279 = .ok (.istore 5, 2) := by decide +kernel
theorem d_Ma_run_281 : decode b_Ma_run 281 = .ok (.iload 5, 2) := by decide +kernel
theorem d_Ma_run_283 : decode b_Ma_run 283 = .ok (.ifCond .eq 18, 3) := by decide +kernel
theorem d_Ma_run_286 : decode b_Ma_run 286 = .ok (.aload_n 0, 1) := by decide +kernel
theorem d_Ma_run_287 : decode b_Ma_run 287 = .ok (.getfield 73, 3) := by decide +kernel
theorem d_Ma_run_290 : decode b_Ma_run 290 = .ok (.aload_n 0, 1) := by decide +kernel
theorem d_Ma_run_291 : decode b_Ma_run 291 = .ok (.getfield 83, 3) := by decide +kernel
theorem d_Ma_run_294 : decode b_Ma_run 294 = .ok (.iadd, 1) := by decide +kernel
theorem d_Ma_run_295 : decode b_Ma_run 295 = .ok (.sipush 200, 3) := by decide +kernel
theorem d_Ma_run_298 : decode b_Ma_run 298 = .ok (.if_icmp .le 5, 3) := by decide +kernel
theorem d_Ma_run_301 : decode b_Ma_run 301 = .ok (.iconst 0, 1) := by decide +kernel
theorem d_Ma_run_302 : decode b_Ma_run 302 = .ok (.ireturn, 1) := by decide +kernel
theorem d_Ma_run_303 : decode b_Ma_run 303 = .ok (.goto (-267), 3) := by decide +kernel
theorem d_Ma_run_306 : decode b_Ma_run 306 = .ok (.aload_n 0, 1) := by decide +kernel
theorem d_Ma_run_307 : decode b_Ma_run 307 = .ok (.getfield 89, 3) := by decide +kernel
theorem d_Ma_run_310 : decode b_Ma_run 310 = .ok (.ifCond .ne 7, 3) := by decide +kernel
theorem d_Ma_run_313 : decode b_Ma_run 313 = .ok (.iconst 1, 1) := by decide +kernel
theorem d_Ma_run_314 : decode b_Ma_run 314 = .ok (.goto 4, 3) := by decide +kernel
theorem d_Ma_run_317 : decode b_Ma_run 317 = .ok (.iconst 0, 1) := by decide +kernel
theorem d_Ma_run_318 : decode b_Ma_run 318 = .ok (.ireturn, 1) := by decide +kernel
abbrev rm_Ma_run : Room := { frames := 0, cells := 0, slots := 0, locals := 0 }
abbrev q_Ma_run (D : va_G) (cy : Nat → ClassId) (A : Nat → Prop) (o : Nat) (v_o_sha : Value) (r_signatures : Value) (v_o_ripemd : Value) (v_a_data : Value) (v_a_main : Value) (v_a_other : Value) (v_a_taken : Value) (r_layout : Value) (r_coin : Value) (a_scriptEnd : Nat) (i_height : Int32) (i_free : Int32) (i_tx : Int32) (i_in : Int32) (i_messageIsThere : Int32) (g_scriptEnd : Nat → Int32) (res : Int32 × Int32 × Int32 × Int32 × Int32) : Array Value → State → Outcome → State → Prop := va_Qi (fun r' (_ : Unit) => r' = res.1) (fun _ t => Po D cy A [(o, .inr (6, [v_o_sha, r_signatures, v_o_ripemd, v_a_data, .ref a_scriptEnd, v_a_main, v_a_other, v_a_taken, .int i_height, .int res.2.1, .int res.2.2.1, .int res.2.2.2.1, .int res.2.2.2.2, .int i_free, r_layout, .int i_tx, .int i_in, r_coin, .int i_messageIsThere])), (a_scriptEnd, .inl (cy 1, 2, .inl g_scriptEnd))] t) A
def I_Ma_run_36 (p : Program) (l : Launch) (e : Env) (s : State) (m : MethodId) (args : Array Value) (below : List Frame) (meth : Method) (c : Code) (D : va_G) (cy : Nat → ClassId) (A : Nat → Prop) (ad : Nat → Nat) (o : Nat) (v_o_sha : Value) (r_signatures : Value) (v_o_ripemd : Value) (v_a_data : Value) (v_a_main : Value) (v_a_other : Value) (v_a_taken : Value) (r_layout : Value) (r_coin : Value) (a_scriptEnd : Nat) (i_height : Int32) (i_free : Int32) (i_tx : Int32) (i_in : Int32) (i_messageIsThere : Int32) (g_scriptEnd : Nat → Int32) (k : Int32 → Int32 → Int32 → Int32 → Int32 → Int32 → Option (Int32 × Int32 × Int32 × Int32 × Int32)) : Prop :=
  ∀ (x2 : Int32) (x3 : Int32) (u0 : Int32) (u1 : Int32) (u2 : Int32) (u3 : Int32) (res : Int32 × Int32 × Int32 × Int32 × Int32), k x2 x3 u0 u1 u2 u3 = some res → ∀ (H : Heap) (locs : List Loc) (ls : Array Slot), va_P D classes [(o, .inr (6, [v_o_sha, r_signatures, v_o_ripemd, v_a_data, .ref a_scriptEnd, v_a_main, v_a_other, v_a_taken, .int i_height, .int u0, .int u1, .int u2, .int u3, .int i_free, r_layout, .int i_tx, .int i_in, r_coin, .int i_messageIsThere])), (a_scriptEnd, .inl (cy 1, 2, .inl g_scriptEnd))] H → va_D A [(o, .inr (6, [v_o_sha, r_signatures, v_o_ripemd, v_a_data, .ref a_scriptEnd, v_a_main, v_a_other, v_a_taken, .int i_height, .int u0, .int u1, .int u2, .int u3, .int i_free, r_layout, .int i_tx, .int i_in, r_coin, .int i_messageIsThere])), (a_scriptEnd, .inl (cy 1, 2, .inl g_scriptEnd))] → va_S A s.heap H locs → lv_has ls 7 [(0, .ref o), (2, .int x2), (3, .int x3)] → W p l e rm_Ma_run s m args below meth c H locs 0 0 (MQ below (q_Ma_run D cy A o v_o_sha r_signatures v_o_ripemd v_a_data v_a_main v_a_other v_a_taken r_layout r_coin a_scriptEnd i_height i_free i_tx i_in i_messageIsThere g_scriptEnd res) args s 0 0 A) (F0 m 36 ls [])
def I_Ma_run_e (p : Program) (l : Launch) (e : Env) (s : State) (m : MethodId) (args : Array Value) (below : List Frame) (meth : Method) (c : Code) (D : va_G) (cy : Nat → ClassId) (A : Nat → Prop) (ad : Nat → Nat) (o : Nat) (v_o_sha : Value) (r_signatures : Value) (v_o_ripemd : Value) (v_a_data : Value) (v_a_main : Value) (v_a_other : Value) (v_a_taken : Value) (r_layout : Value) (r_coin : Value) (a_scriptEnd : Nat) (i_height : Int32) (i_free : Int32) (i_tx : Int32) (i_in : Int32) (i_messageIsThere : Int32) (g_scriptEnd : Nat → Int32) (k : Int32 → Int32 → Int32 → Int32 → Int32 → Option (Int32 × Int32 × Int32 × Int32 × Int32)) : Prop :=
  ∀ (a1 : Int32) (u0 : Int32) (u1 : Int32) (u2 : Int32) (u3 : Int32) (res : Int32 × Int32 × Int32 × Int32 × Int32), k a1 u0 u1 u2 u3 = some res → ∀ (H : Heap) (locs : List Loc) (ls : Array Slot), va_P D classes [(o, .inr (6, [v_o_sha, r_signatures, v_o_ripemd, v_a_data, .ref a_scriptEnd, v_a_main, v_a_other, v_a_taken, .int i_height, .int u0, .int u1, .int u2, .int u3, .int i_free, r_layout, .int i_tx, .int i_in, r_coin, .int i_messageIsThere])), (a_scriptEnd, .inl (cy 1, 2, .inl g_scriptEnd))] H → va_D A [(o, .inr (6, [v_o_sha, r_signatures, v_o_ripemd, v_a_data, .ref a_scriptEnd, v_a_main, v_a_other, v_a_taken, .int i_height, .int u0, .int u1, .int u2, .int u3, .int i_free, r_layout, .int i_tx, .int i_in, r_coin, .int i_messageIsThere])), (a_scriptEnd, .inl (cy 1, 2, .inl g_scriptEnd))] → va_S A s.heap H locs → lv_has ls 7 [(0, .ref o), (1, .int a1)] → W p l e rm_Ma_run s m args below meth c H locs 0 0 (MQ below (q_Ma_run D cy A o v_o_sha r_signatures v_o_ripemd v_a_data v_a_main v_a_other v_a_taken r_layout r_coin a_scriptEnd i_height i_free i_tx i_in i_messageIsThere g_scriptEnd res) args s 0 0 A) (F0 m 0 ls [])
def xb_Ma_run_36 (fu : Nat) (i_height : Int32) (i_free : Int32) (i_tx : Int32) (i_in : Int32) (i_messageIsThere : Int32) (g_scriptEnd : Nat → Int32) (k_36 : Int32 → Int32 → Int32 → Int32 → Int32 → Int32 → Option (Int32 × Int32 × Int32 × Int32 × Int32)) (x2 : Int32) (x3 : Int32) (u0 : Int32) (u1 : Int32) (u2 : Int32) (u3 : Int32) : Option (Int32 × Int32 × Int32 × Int32 × Int32) :=
  if x3 ≤ x2 then (if u2 = 0 then (some ((1 : Int32), u0, u1, u2, u3)) else (some ((0 : Int32), u0, u1, u2, u3))) else (none)
set_option maxHeartbeats 8000000 in
set_option maxRecDepth 100000 in
theorem wb_Ma_run_36 {p : Program} {l : Launch} {e : Env} {s : State} {m : MethodId} {args : Array Value} {below : List Frame} {meth : Method} {c : Code} {D : va_G} {cy : Nat → ClassId} {A : Nat → Prop} {ad : Nat → Nat} {o : Nat} {v_o_sha : Value} {r_signatures : Value} {v_o_ripemd : Value} {v_a_data : Value} {v_a_main : Value} {v_a_other : Value} {v_a_taken : Value} {r_layout : Value} {r_coin : Value} {a_scriptEnd : Nat} {i_height : Int32} {i_free : Int32} {i_tx : Int32} {i_in : Int32} {i_messageIsThere : Int32} {g_scriptEnd : Nat → Int32} {fu : Nat} {k_36 : Int32 → Int32 → Int32 → Int32 → Int32 → Int32 → Option (Int32 × Int32 × Int32 × Int32 × Int32)} (F : Fx p s m args meth c b_Ma_run 7 "CoinKeeper$Machine" "run" (some .boolean) D cy ad A) (hk_36 : I_Ma_run_36 p l e s m args below meth c D cy A ad o v_o_sha r_signatures v_o_ripemd v_a_data v_a_main v_a_other v_a_taken r_layout r_coin a_scriptEnd i_height i_free i_tx i_in i_messageIsThere g_scriptEnd k_36) : I_Ma_run_36 p l e s m args below meth c D cy A ad o v_o_sha r_signatures v_o_ripemd v_a_data v_a_main v_a_other v_a_taken r_layout r_coin a_scriptEnd i_height i_free i_tx i_in i_messageIsThere g_scriptEnd (xb_Ma_run_36 fu i_height i_free i_tx i_in i_messageIsThere g_scriptEnd k_36) := by
  obtain ⟨hx, hb, hr, hml, hown, hts, hlocks, hK, hA, hSt, hnm, hex⟩ := id F
  intro x2 x3 u0 u1 u2 u3 res hf H locs ls hP hD hS hl
  unfold xb_Ma_run_36 at hf
  refine lv_iload_n hx hb d_Ma_run_36 rfl (lv_at hl 1 rfl) ?_
  refine lv_iload_n hx hb d_Ma_run_37 rfl (lv_at hl 2 rfl) ?_
  refine lv_icmp_ge (tgt := 306) hx hb d_Ma_run_38 (by decide) (fun cx => ?_) (fun cx => ?_)
  · have hf := ifp cx hf
    refine lv_aload_n hx hb d_Ma_run_306 rfl (lv_at hl 0 rfl) ?_
    refine va_get (D := D) (ci := 6) (v := .int u2) (C := "CoinKeeper$Machine") (T := F_6) (N := 19) hx hb hts i_6 hown hK hP 0 rfl rfl 11 (by decide) (hts _ gw_215) (fun _ h9 => h9) rfl d_Ma_run_307 ?_
    refine lv_if_ne (tgt := 317) hx hb d_Ma_run_310 (by decide) (fun cx => ?_) (fun cx => ?_)
    · have hf := ifn cx hf
      refine lv_iconst (v := 0) hx hb d_Ma_run_317 (by decide) ?_
      obtain rfl := Option.some.inj hf
      exact q_rz hx hb hr hlocks hK hP hD hS (isb_n (v := 0) (by decide)) d_Ma_run_318
    · have hf := ifp cx hf
      refine lv_iconst (v := 1) hx hb d_Ma_run_313 (by decide) ?_
      refine lv_goto (tgt := 318) hx hb d_Ma_run_314 (by decide) ?_
      obtain rfl := Option.some.inj hf
      exact q_rz hx hb hr hlocks hK hP hD hS (isb_n (v := 1) (by decide)) d_Ma_run_318
  · have hf := ifn cx hf
    exact nomatch hf
def x_Ma_run_36 (fu : Nat) (i_height : Int32) (i_free : Int32) (i_tx : Int32) (i_in : Int32) (i_messageIsThere : Int32) (g_scriptEnd : Nat → Int32) : Nat → Int32 → Int32 → Int32 → Int32 → Int32 → Int32 → Option (Int32 × Int32 × Int32 × Int32 × Int32)
  | 0 => fun _ _ _ _ _ _ => none
  | n + 1 => xb_Ma_run_36 fu i_height i_free i_tx i_in i_messageIsThere g_scriptEnd (x_Ma_run_36 fu i_height i_free i_tx i_in i_messageIsThere g_scriptEnd n)
theorem w_Ma_run_36 {p : Program} {l : Launch} {e : Env} {s : State} {m : MethodId} {args : Array Value} {below : List Frame} {meth : Method} {c : Code} {D : va_G} {cy : Nat → ClassId} {A : Nat → Prop} {ad : Nat → Nat} {o : Nat} {v_o_sha : Value} {r_signatures : Value} {v_o_ripemd : Value} {v_a_data : Value} {v_a_main : Value} {v_a_other : Value} {v_a_taken : Value} {r_layout : Value} {r_coin : Value} {a_scriptEnd : Nat} {i_height : Int32} {i_free : Int32} {i_tx : Int32} {i_in : Int32} {i_messageIsThere : Int32} {g_scriptEnd : Nat → Int32} {fu : Nat} (F : Fx p s m args meth c b_Ma_run 7 "CoinKeeper$Machine" "run" (some .boolean) D cy ad A) : ∀ n : Nat, I_Ma_run_36 p l e s m args below meth c D cy A ad o v_o_sha r_signatures v_o_ripemd v_a_data v_a_main v_a_other v_a_taken r_layout r_coin a_scriptEnd i_height i_free i_tx i_in i_messageIsThere g_scriptEnd (x_Ma_run_36 fu i_height i_free i_tx i_in i_messageIsThere g_scriptEnd n)
  | 0 => fun _ _ _ _ _ _ _ hf => nomatch (show (none : Option (Int32 × Int32 × Int32 × Int32 × Int32)) = some _ from hf)
  | n + 1 => wb_Ma_run_36 F (w_Ma_run_36 F n)
def x_Ma_run (fu : Nat) (i_height : Int32) (i_free : Int32) (i_tx : Int32) (i_in : Int32) (i_messageIsThere : Int32) (g_scriptEnd : Nat → Int32) (a1 : Int32) (u0 : Int32) (u1 : Int32) (u2 : Int32) (u3 : Int32) : Option (Int32 × Int32 × Int32 × Int32 × Int32) :=
  bnd ((64 : Int32) + (a1 * (1000 : Int32))) fun v1 => gd (inb a1 2) <| bnd (g_scriptEnd a1.toNatClampNeg) fun v2 => x_Ma_run_36 fu i_height i_free i_tx i_in i_messageIsThere g_scriptEnd fu v1 v2 (0 : Int32) (0 : Int32) (0 : Int32) (0 : Int32)
set_option maxHeartbeats 8000000 in
set_option maxRecDepth 100000 in
theorem we_Ma_run {p : Program} {l : Launch} {e : Env} {s : State} {m : MethodId} {args : Array Value} {below : List Frame} {meth : Method} {c : Code} {D : va_G} {cy : Nat → ClassId} {A : Nat → Prop} {ad : Nat → Nat} {o : Nat} {v_o_sha : Value} {r_signatures : Value} {v_o_ripemd : Value} {v_a_data : Value} {v_a_main : Value} {v_a_other : Value} {v_a_taken : Value} {r_layout : Value} {r_coin : Value} {a_scriptEnd : Nat} {i_height : Int32} {i_free : Int32} {i_tx : Int32} {i_in : Int32} {i_messageIsThere : Int32} {g_scriptEnd : Nat → Int32} {fu : Nat} (F : Fx p s m args meth c b_Ma_run 7 "CoinKeeper$Machine" "run" (some .boolean) D cy ad A) : I_Ma_run_e p l e s m args below meth c D cy A ad o v_o_sha r_signatures v_o_ripemd v_a_data v_a_main v_a_other v_a_taken r_layout r_coin a_scriptEnd i_height i_free i_tx i_in i_messageIsThere g_scriptEnd (x_Ma_run fu i_height i_free i_tx i_in i_messageIsThere g_scriptEnd) := by
  obtain ⟨hx, hb, hr, hml, hown, hts, hlocks, hK, hA, hSt, hnm, hex⟩ := id F
  intro a1 u0 u1 u2 u3 res hf H locs ls hP hD hS hl
  unfold x_Ma_run at hf
  refine lv_aload_n hx hb d_Ma_run_0 rfl (lv_at hl 0 rfl) ?_
  refine lv_iconst (v := 0) hx hb d_Ma_run_1 (by decide) ?_
  refine va_put (D := D) (ci := 6) (v := .int (0 : Int32)) (ty := .int) (C := "CoinKeeper$Machine") (T := F_6) (N := 19) hx hb hts i_6 t_6 t_6_ok n_6 hown hK hP hD hS 0 rfl rfl 9 (by decide) (hts _ gw_213) (fun _ h9 => h9) rfl (by decide +kernel) rfl rfl (Nat.le_of_ble_eq_true rfl) d_Ma_run_2 (fun H locs hP hD hS => ?_)
  have hP : va_P D classes [(o, .inr (6, [v_o_sha, r_signatures, v_o_ripemd, v_a_data, .ref a_scriptEnd, v_a_main, v_a_other, v_a_taken, .int i_height, .int (0 : Int32), .int u1, .int u2, .int u3, .int i_free, r_layout, .int i_tx, .int i_in, r_coin, .int i_messageIsThere])), (a_scriptEnd, .inl (cy 1, 2, .inl g_scriptEnd))] H := hP
  have hD : va_D A [(o, .inr (6, [v_o_sha, r_signatures, v_o_ripemd, v_a_data, .ref a_scriptEnd, v_a_main, v_a_other, v_a_taken, .int i_height, .int (0 : Int32), .int u1, .int u2, .int u3, .int i_free, r_layout, .int i_tx, .int i_in, r_coin, .int i_messageIsThere])), (a_scriptEnd, .inl (cy 1, 2, .inl g_scriptEnd))] := hD
  refine lv_aload_n hx hb d_Ma_run_5 rfl (lv_at hl 0 rfl) ?_
  refine lv_iconst (v := 0) hx hb d_Ma_run_6 (by decide) ?_
  refine va_put (D := D) (ci := 6) (v := .int (0 : Int32)) (ty := .int) (C := "CoinKeeper$Machine") (T := F_6) (N := 19) hx hb hts i_6 t_6 t_6_ok n_6 hown hK hP hD hS 0 rfl rfl 10 (by decide) (hts _ gw_214) (fun _ h9 => h9) rfl (by decide +kernel) rfl rfl (Nat.le_of_ble_eq_true rfl) d_Ma_run_7 (fun H locs hP hD hS => ?_)
  have hP : va_P D classes [(o, .inr (6, [v_o_sha, r_signatures, v_o_ripemd, v_a_data, .ref a_scriptEnd, v_a_main, v_a_other, v_a_taken, .int i_height, .int (0 : Int32), .int (0 : Int32), .int u2, .int u3, .int i_free, r_layout, .int i_tx, .int i_in, r_coin, .int i_messageIsThere])), (a_scriptEnd, .inl (cy 1, 2, .inl g_scriptEnd))] H := hP
  have hD : va_D A [(o, .inr (6, [v_o_sha, r_signatures, v_o_ripemd, v_a_data, .ref a_scriptEnd, v_a_main, v_a_other, v_a_taken, .int i_height, .int (0 : Int32), .int (0 : Int32), .int u2, .int u3, .int i_free, r_layout, .int i_tx, .int i_in, r_coin, .int i_messageIsThere])), (a_scriptEnd, .inl (cy 1, 2, .inl g_scriptEnd))] := hD
  refine lv_aload_n hx hb d_Ma_run_10 rfl (lv_at hl 0 rfl) ?_
  refine lv_iconst (v := 0) hx hb d_Ma_run_11 (by decide) ?_
  refine va_put (D := D) (ci := 6) (v := .int (0 : Int32)) (ty := .int) (C := "CoinKeeper$Machine") (T := F_6) (N := 19) hx hb hts i_6 t_6 t_6_ok n_6 hown hK hP hD hS 0 rfl rfl 11 (by decide) (hts _ gw_215) (fun _ h9 => h9) rfl (by decide +kernel) rfl rfl (Nat.le_of_ble_eq_true rfl) d_Ma_run_12 (fun H locs hP hD hS => ?_)
  have hP : va_P D classes [(o, .inr (6, [v_o_sha, r_signatures, v_o_ripemd, v_a_data, .ref a_scriptEnd, v_a_main, v_a_other, v_a_taken, .int i_height, .int (0 : Int32), .int (0 : Int32), .int (0 : Int32), .int u3, .int i_free, r_layout, .int i_tx, .int i_in, r_coin, .int i_messageIsThere])), (a_scriptEnd, .inl (cy 1, 2, .inl g_scriptEnd))] H := hP
  have hD : va_D A [(o, .inr (6, [v_o_sha, r_signatures, v_o_ripemd, v_a_data, .ref a_scriptEnd, v_a_main, v_a_other, v_a_taken, .int i_height, .int (0 : Int32), .int (0 : Int32), .int (0 : Int32), .int u3, .int i_free, r_layout, .int i_tx, .int i_in, r_coin, .int i_messageIsThere])), (a_scriptEnd, .inl (cy 1, 2, .inl g_scriptEnd))] := hD
  refine lv_aload_n hx hb d_Ma_run_15 rfl (lv_at hl 0 rfl) ?_
  refine lv_iconst (v := 0) hx hb d_Ma_run_16 (by decide) ?_
  refine va_put (D := D) (ci := 6) (v := .int (0 : Int32)) (ty := .int) (C := "CoinKeeper$Machine") (T := F_6) (N := 19) hx hb hts i_6 t_6 t_6_ok n_6 hown hK hP hD hS 0 rfl rfl 12 (by decide) (hts _ gw_216) (fun _ h9 => h9) rfl (by decide +kernel) rfl rfl (Nat.le_of_ble_eq_true rfl) d_Ma_run_17 (fun H locs hP hD hS => ?_)
  have hP : va_P D classes [(o, .inr (6, [v_o_sha, r_signatures, v_o_ripemd, v_a_data, .ref a_scriptEnd, v_a_main, v_a_other, v_a_taken, .int i_height, .int (0 : Int32), .int (0 : Int32), .int (0 : Int32), .int (0 : Int32), .int i_free, r_layout, .int i_tx, .int i_in, r_coin, .int i_messageIsThere])), (a_scriptEnd, .inl (cy 1, 2, .inl g_scriptEnd))] H := hP
  have hD : va_D A [(o, .inr (6, [v_o_sha, r_signatures, v_o_ripemd, v_a_data, .ref a_scriptEnd, v_a_main, v_a_other, v_a_taken, .int i_height, .int (0 : Int32), .int (0 : Int32), .int (0 : Int32), .int (0 : Int32), .int i_free, r_layout, .int i_tx, .int i_in, r_coin, .int i_messageIsThere])), (a_scriptEnd, .inl (cy 1, 2, .inl g_scriptEnd))] := hD
  refine lv_bipush (v := 64) hx hb d_Ma_run_20 (by decide) ?_
  refine lv_iload_n hx hb d_Ma_run_22 rfl (lv_at hl 1 rfl) ?_
  refine lv_sipush (v := 1000) hx hb d_Ma_run_23 (by decide) ?_
  refine lv_imul hx hb d_Ma_run_26 ?_
  refine lv_iadd hx hb d_Ma_run_27 ?_
  refine lv_topi (fun v1 ev => ?_)
  have hf := bn ev hf
  clear ev
  refine lv_istore_n (lv' := [(2, .int v1), (0, .ref o), (1, .int a1)]) hx hb d_Ma_run_28 rfl hl (by decide) rfl (fun ls hl => ?_)
  refine lv_aload_n hx hb d_Ma_run_29 rfl (lv_at hl 1 rfl) ?_
  refine va_get (D := D) (ci := 6) (v := .ref a_scriptEnd) (C := "CoinKeeper$Machine") (T := F_6) (N := 19) hx hb hts i_6 hown hK hP 0 rfl rfl 4 (by decide) (hts _ gw_208) (fun _ h9 => h9) rfl d_Ma_run_30 ?_
  refine lv_iload_n hx hb d_Ma_run_33 rfl (lv_at hl 2 rfl) ?_
  obtain ⟨hg, hf⟩ := gdp hf
  refine va_iald hx hb hK hP 1 1 rfl rfl (inb_in hg) d_Ma_run_34 ?_
  refine lv_topi (fun v2 ev => ?_)
  have hf := bn ev hf
  clear ev
  refine lv_istore_n (lv' := [(3, .int v2), (2, .int v1), (0, .ref o), (1, .int a1)]) hx hb d_Ma_run_35 rfl hl (by decide) rfl (fun ls hl => ?_)
  exact w_Ma_run_36 F fu _ _ _ _ _ _ _ hf _ _ _ hP hD hS (lv_sub hl [2, 1, 0] rfl)
theorem c_Ma_run (l : Launch) (D : va_G) (cy : Nat → ClassId) (ad : Nat → Nat) (fu : Nat) (o : Nat) (v_o_sha : Value) (r_signatures : Value) (v_o_ripemd : Value) (v_a_data : Value) (v_a_main : Value) (v_a_other : Value) (v_a_taken : Value) (r_layout : Value) (r_coin : Value) (a_scriptEnd : Nat) (i_height : Int32) (i_free : Int32) (i_tx : Int32) (i_in : Int32) (i_messageIsThere : Int32) (g_scriptEnd : Nat → Int32) (a1 : Int32) (u0 : Int32) (u1 : Int32) (u2 : Int32) (u3 : Int32) (res : Int32 × Int32 × Int32 × Int32 × Int32) (hf : x_Ma_run fu i_height i_free i_tx i_in i_messageIsThere g_scriptEnd a1 u0 u1 u2 u3 = some res) (sz : Nat) : Met l ({ cls := "CoinKeeper$Machine", name := "run", desc := "(I)Z" } : Jvm.MethodName) (.code ({ cls := "CoinKeeper$Machine", name := "run", desc := "(I)Z" } : Jvm.MethodName) b_Ma_run 7 (some .boolean) :: gw) rm_Ma_run (va_Pc [.ref o, .int a1] (Pr D cy ad [(o, .inr (6, [v_o_sha, r_signatures, v_o_ripemd, v_a_data, .ref a_scriptEnd, v_a_main, v_a_other, v_a_taken, .int i_height, .int u0, .int u1, .int u2, .int u3, .int i_free, r_layout, .int i_tx, .int i_in, r_coin, .int i_messageIsThere])), (a_scriptEnd, .inl (cy 1, 2, .inl g_scriptEnd))] sz)) (q_Ma_run D cy (va_A [(o, .inr (6, [v_o_sha, r_signatures, v_o_ripemd, v_a_data, .ref a_scriptEnd, v_a_main, v_a_other, v_a_taken, .int i_height, .int u0, .int u1, .int u2, .int u3, .int i_free, r_layout, .int i_tx, .int i_in, r_coin, .int i_messageIsThere])), (a_scriptEnd, .inl (cy 1, 2, .inl g_scriptEnd))] sz) o v_o_sha r_signatures v_o_ripemd v_a_data v_a_main v_a_other v_a_taken r_layout r_coin a_scriptEnd i_height i_free i_tx i_in i_messageIsThere g_scriptEnd res) 0 0 (va_A [(o, .inr (6, [v_o_sha, r_signatures, v_o_ripemd, v_a_data, .ref a_scriptEnd, v_a_main, v_a_other, v_a_taken, .int i_height, .int u0, .int u1, .int u2, .int u3, .int i_free, r_layout, .int i_tx, .int i_in, r_coin, .int i_messageIsThere])), (a_scriptEnd, .inl (cy 1, 2, .inl g_scriptEnd))] sz) :=
  q_met (Qc := fun A => q_Ma_run D cy A o v_o_sha r_signatures v_o_ripemd v_a_data v_a_main v_a_other v_a_taken r_layout r_coin a_scriptEnd i_height i_free i_tx i_in i_messageIsThere g_scriptEnd res) (by decide) rfl rfl (Nat.le_of_ble_eq_true rfl) (fun p e s m below meth c ls F hP hD hS hl => we_Ma_run (fu := fu) F a1 u0 u1 u2 u3 res hf _ _ _ hP hD hS hl) sz
abbrev b_Ma_endsTrue : ByteArray := prog_7_method_5_code
theorem d_Ma_endsTrue_0 : decode b_Ma_endsTrue 0 = .ok (.aload_n 0, 1) := by decide +kernel
theorem d_Ma_endsTrue_1 : decode b_Ma_endsTrue 1 = .ok (.getfield 73, 3) := by decide +kernel
theorem d_Ma_endsTrue_4 : decode b_Ma_endsTrue 4 = .ok (.ifCond .le 25, 3) := by decide +kernel
theorem d_Ma_endsTrue_7 : decode b_Ma_endsTrue 7 = .ok (.aload_n 0, 1) := by decide +kernel
theorem d_Ma_endsTrue_8 : decode b_Ma_endsTrue 8 = .ok (.aload_n 0, 1) := by decide +kernel
theorem d_Ma_endsTrue_9 : decode b_Ma_endsTrue 9 = .ok (.getfield 26, 3) := by decide +kernel
theorem d_Ma_endsTrue_12 : decode b_Ma_endsTrue 12 = .ok (.aload_n 0, 1) := by decide +kernel
theorem d_Ma_endsTrue_13 : decode b_Ma_endsTrue 13 = .ok (.getfield 73, 3) := by decide +kernel
theorem d_Ma_endsTrue_16 : decode b_Ma_endsTrue 16 = .ok (.iconst 1, 1) := by decide +kernel
theorem d_Ma_endsTrue_17 : decode b_Ma_endsTrue 17 = .ok (.isub, 1) := by decide +kernel
theorem d_Ma_endsTrue_18 : decode b_Ma_endsTrue 18 = .ok (.iaload, 1) := by decide +kernel
theorem d_Ma_endsTrue_19 : decode b_Ma_endsTrue 19 = .ok (.invokevirtual 79, 3) := by decide +kernel
theorem d_Ma_endsTrue_22 : decode b_Ma_endsTrue 22 = .ok (.ifCond .eq 7, 3) := by decide +kernel
theorem d_Ma_endsTrue_25 : decode b_Ma_endsTrue 25 = .ok (.iconst 1, 1) := by decide +kernel
theorem d_Ma_endsTrue_26 : decode b_Ma_endsTrue 26 = .ok (.goto 4, 3) := by decide +kernel
theorem d_Ma_endsTrue_29 : decode b_Ma_endsTrue 29 = .ok (.iconst 0, 1) := by decide +kernel
theorem d_Ma_endsTrue_30 : decode b_Ma_endsTrue 30 = .ok (.ireturn, 1) := by decide +kernel
abbrev rm_Ma_endsTrue : Room := { frames := 0, cells := 0, slots := 0, locals := 0 }
abbrev q_Ma_endsTrue (D : va_G) (cy : Nat → ClassId) (A : Nat → Prop) (o : Nat) (v_o_sha : Value) (r_signatures : Value) (v_o_ripemd : Value) (v_a_data : Value) (v_a_scriptEnd : Value) (v_a_other : Value) (v_a_taken : Value) (r_layout : Value) (r_coin : Value) (a_main : Nat) (i_height : Int32) (i_otherHeight : Int32) (i_ops : Int32) (i_ifs : Int32) (i_ifsNotTaken : Int32) (i_free : Int32) (i_tx : Int32) (i_in : Int32) (i_messageIsThere : Int32) (g_main : Nat → Int32) (res : Int32) : Array Value → State → Outcome → State → Prop := va_Qi (fun r' (_ : Unit) => r' = res) (fun _ t => Po D cy A [(o, .inr (6, [v_o_sha, r_signatures, v_o_ripemd, v_a_data, v_a_scriptEnd, .ref a_main, v_a_other, v_a_taken, .int i_height, .int i_otherHeight, .int i_ops, .int i_ifs, .int i_ifsNotTaken, .int i_free, r_layout, .int i_tx, .int i_in, r_coin, .int i_messageIsThere])), (a_main, .inl (cy 1, 204, .inl g_main))] t) A
def I_Ma_endsTrue_e (p : Program) (l : Launch) (e : Env) (s : State) (m : MethodId) (args : Array Value) (below : List Frame) (meth : Method) (c : Code) (D : va_G) (cy : Nat → ClassId) (A : Nat → Prop) (ad : Nat → Nat) (o : Nat) (v_o_sha : Value) (r_signatures : Value) (v_o_ripemd : Value) (v_a_data : Value) (v_a_scriptEnd : Value) (v_a_other : Value) (v_a_taken : Value) (r_layout : Value) (r_coin : Value) (a_main : Nat) (i_height : Int32) (i_otherHeight : Int32) (i_ops : Int32) (i_ifs : Int32) (i_ifsNotTaken : Int32) (i_free : Int32) (i_tx : Int32) (i_in : Int32) (i_messageIsThere : Int32) (g_main : Nat → Int32) (k : Option (Int32)) : Prop :=
  ∀ (res : Int32), k  = some res → ∀ (H : Heap) (locs : List Loc) (ls : Array Slot), va_P D classes [(o, .inr (6, [v_o_sha, r_signatures, v_o_ripemd, v_a_data, v_a_scriptEnd, .ref a_main, v_a_other, v_a_taken, .int i_height, .int i_otherHeight, .int i_ops, .int i_ifs, .int i_ifsNotTaken, .int i_free, r_layout, .int i_tx, .int i_in, r_coin, .int i_messageIsThere])), (a_main, .inl (cy 1, 204, .inl g_main))] H → va_D A [(o, .inr (6, [v_o_sha, r_signatures, v_o_ripemd, v_a_data, v_a_scriptEnd, .ref a_main, v_a_other, v_a_taken, .int i_height, .int i_otherHeight, .int i_ops, .int i_ifs, .int i_ifsNotTaken, .int i_free, r_layout, .int i_tx, .int i_in, r_coin, .int i_messageIsThere])), (a_main, .inl (cy 1, 204, .inl g_main))] → va_S A s.heap H locs → lv_has ls 1 [(0, .ref o)] → W p l e rm_Ma_endsTrue s m args below meth c H locs 0 0 (MQ below (q_Ma_endsTrue D cy A o v_o_sha r_signatures v_o_ripemd v_a_data v_a_scriptEnd v_a_other v_a_taken r_layout r_coin a_main i_height i_otherHeight i_ops i_ifs i_ifsNotTaken i_free i_tx i_in i_messageIsThere g_main res) args s 0 0 A) (F0 m 0 ls [])
def x_Ma_endsTrue (fu : Nat) (i_height : Int32) (i_otherHeight : Int32) (i_ops : Int32) (i_ifs : Int32) (i_ifsNotTaken : Int32) (i_free : Int32) (i_tx : Int32) (i_in : Int32) (i_messageIsThere : Int32) (g_main : Nat → Int32) : Option (Int32) :=
  if i_height ≤ 0 then (some ((0 : Int32))) else (bnd (i_height - (1 : Int32)) fun v1 => gd (inb v1 204) <| bnd (g_main v1.toNatClampNeg) fun v2 => none)
set_option maxHeartbeats 8000000 in
set_option maxRecDepth 100000 in
theorem we_Ma_endsTrue {p : Program} {l : Launch} {e : Env} {s : State} {m : MethodId} {args : Array Value} {below : List Frame} {meth : Method} {c : Code} {D : va_G} {cy : Nat → ClassId} {A : Nat → Prop} {ad : Nat → Nat} {o : Nat} {v_o_sha : Value} {r_signatures : Value} {v_o_ripemd : Value} {v_a_data : Value} {v_a_scriptEnd : Value} {v_a_other : Value} {v_a_taken : Value} {r_layout : Value} {r_coin : Value} {a_main : Nat} {i_height : Int32} {i_otherHeight : Int32} {i_ops : Int32} {i_ifs : Int32} {i_ifsNotTaken : Int32} {i_free : Int32} {i_tx : Int32} {i_in : Int32} {i_messageIsThere : Int32} {g_main : Nat → Int32} {fu : Nat} (F : Fx p s m args meth c b_Ma_endsTrue 1 "CoinKeeper$Machine" "endsTrue" (some .boolean) D cy ad A) : I_Ma_endsTrue_e p l e s m args below meth c D cy A ad o v_o_sha r_signatures v_o_ripemd v_a_data v_a_scriptEnd v_a_other v_a_taken r_layout r_coin a_main i_height i_otherHeight i_ops i_ifs i_ifsNotTaken i_free i_tx i_in i_messageIsThere g_main (x_Ma_endsTrue fu i_height i_otherHeight i_ops i_ifs i_ifsNotTaken i_free i_tx i_in i_messageIsThere g_main) := by
  obtain ⟨hx, hb, hr, hml, hown, hts, hlocks, hK, hA, hSt, hnm, hex⟩ := id F
  intro  res hf H locs ls hP hD hS hl
  unfold x_Ma_endsTrue at hf
  refine lv_aload_n hx hb d_Ma_endsTrue_0 rfl (lv_at hl 0 rfl) ?_
  refine va_get (D := D) (ci := 6) (v := .int i_height) (C := "CoinKeeper$Machine") (T := F_6) (N := 19) hx hb hts i_6 hown hK hP 0 rfl rfl 8 (by decide) (hts _ gw_212) (fun _ h9 => h9) rfl d_Ma_endsTrue_1 ?_
  refine lv_if_le (tgt := 29) hx hb d_Ma_endsTrue_4 (by decide) (fun cx => ?_) (fun cx => ?_)
  · have hf := ifp cx hf
    refine lv_iconst (v := 0) hx hb d_Ma_endsTrue_29 (by decide) ?_
    obtain rfl := Option.some.inj hf
    exact q_rz hx hb hr hlocks hK hP hD hS (isb_n (v := 0) (by decide)) d_Ma_endsTrue_30
  · have hf := ifn cx hf
    refine lv_aload_n hx hb d_Ma_endsTrue_7 rfl (lv_at hl 0 rfl) ?_
    refine lv_aload_n hx hb d_Ma_endsTrue_8 rfl (lv_at hl 0 rfl) ?_
    refine va_get (D := D) (ci := 6) (v := .ref a_main) (C := "CoinKeeper$Machine") (T := F_6) (N := 19) hx hb hts i_6 hown hK hP 0 rfl rfl 5 (by decide) (hts _ gw_209) (fun _ h9 => h9) rfl d_Ma_endsTrue_9 ?_
    refine lv_aload_n hx hb d_Ma_endsTrue_12 rfl (lv_at hl 0 rfl) ?_
    refine va_get (D := D) (ci := 6) (v := .int i_height) (C := "CoinKeeper$Machine") (T := F_6) (N := 19) hx hb hts i_6 hown hK hP 0 rfl rfl 8 (by decide) (hts _ gw_212) (fun _ h9 => h9) rfl d_Ma_endsTrue_13 ?_
    refine lv_iconst (v := 1) hx hb d_Ma_endsTrue_16 (by decide) ?_
    refine lv_isub hx hb d_Ma_endsTrue_17 ?_
    refine lv_topi (fun v1 ev => ?_)
    have hf := bn ev hf
    clear ev
    obtain ⟨hg, hf⟩ := gdp hf
    refine va_iald hx hb hK hP 1 1 rfl rfl (inb_in hg) d_Ma_endsTrue_18 ?_
    refine lv_topi (fun v2 ev => ?_)
    have hf := bn ev hf
    clear ev
    exact nomatch hf
theorem c_Ma_endsTrue (l : Launch) (D : va_G) (cy : Nat → ClassId) (ad : Nat → Nat) (fu : Nat) (o : Nat) (v_o_sha : Value) (r_signatures : Value) (v_o_ripemd : Value) (v_a_data : Value) (v_a_scriptEnd : Value) (v_a_other : Value) (v_a_taken : Value) (r_layout : Value) (r_coin : Value) (a_main : Nat) (i_height : Int32) (i_otherHeight : Int32) (i_ops : Int32) (i_ifs : Int32) (i_ifsNotTaken : Int32) (i_free : Int32) (i_tx : Int32) (i_in : Int32) (i_messageIsThere : Int32) (g_main : Nat → Int32) (res : Int32) (hf : x_Ma_endsTrue fu i_height i_otherHeight i_ops i_ifs i_ifsNotTaken i_free i_tx i_in i_messageIsThere g_main = some res) (sz : Nat) : Met l ({ cls := "CoinKeeper$Machine", name := "endsTrue", desc := "()Z" } : Jvm.MethodName) (.code ({ cls := "CoinKeeper$Machine", name := "endsTrue", desc := "()Z" } : Jvm.MethodName) b_Ma_endsTrue 1 (some .boolean) :: gw) rm_Ma_endsTrue (va_Pc [.ref o] (Pr D cy ad [(o, .inr (6, [v_o_sha, r_signatures, v_o_ripemd, v_a_data, v_a_scriptEnd, .ref a_main, v_a_other, v_a_taken, .int i_height, .int i_otherHeight, .int i_ops, .int i_ifs, .int i_ifsNotTaken, .int i_free, r_layout, .int i_tx, .int i_in, r_coin, .int i_messageIsThere])), (a_main, .inl (cy 1, 204, .inl g_main))] sz)) (q_Ma_endsTrue D cy (va_A [(o, .inr (6, [v_o_sha, r_signatures, v_o_ripemd, v_a_data, v_a_scriptEnd, .ref a_main, v_a_other, v_a_taken, .int i_height, .int i_otherHeight, .int i_ops, .int i_ifs, .int i_ifsNotTaken, .int i_free, r_layout, .int i_tx, .int i_in, r_coin, .int i_messageIsThere])), (a_main, .inl (cy 1, 204, .inl g_main))] sz) o v_o_sha r_signatures v_o_ripemd v_a_data v_a_scriptEnd v_a_other v_a_taken r_layout r_coin a_main i_height i_otherHeight i_ops i_ifs i_ifsNotTaken i_free i_tx i_in i_messageIsThere g_main res) 0 0 (va_A [(o, .inr (6, [v_o_sha, r_signatures, v_o_ripemd, v_a_data, v_a_scriptEnd, .ref a_main, v_a_other, v_a_taken, .int i_height, .int i_otherHeight, .int i_ops, .int i_ifs, .int i_ifsNotTaken, .int i_free, r_layout, .int i_tx, .int i_in, r_coin, .int i_messageIsThere])), (a_main, .inl (cy 1, 204, .inl g_main))] sz) :=
  q_met (Qc := fun A => q_Ma_endsTrue D cy A o v_o_sha r_signatures v_o_ripemd v_a_data v_a_scriptEnd v_a_other v_a_taken r_layout r_coin a_main i_height i_otherHeight i_ops i_ifs i_ifsNotTaken i_free i_tx i_in i_messageIsThere g_main res) (by decide) rfl rfl (Nat.le_of_ble_eq_true rfl) (fun p e s m below meth c ls F hP hD hS hl => we_Ma_endsTrue (fu := fu) F  res hf _ _ _ hP hD hS hl) sz
abbrev b_K_script : ByteArray := prog_1_method_5_code
theorem d_K_script_0 : decode b_K_script 0 = .ok (.iload_n 1, 1) := by decide +kernel
theorem d_K_script_1 : decode b_K_script 1 = .ok (.ifCond .lt 30, 3) := by decide +kernel
theorem d_K_script_4 : decode b_K_script 4 = .ok (.iload_n 1, 1) := by decide +kernel
theorem d_K_script_5 : decode b_K_script 5 = .ok (.aload_n 0, 1) := by decide +kernel
theorem d_K_script_6 : decode b_K_script 6 = .ok (.getfield 79, 3) := by decide +kernel
theorem d_K_script_9 : decode b_K_script 9 = .ok (.if_icmp .gt 22, 3) := by decide +kernel
theorem d_K_script_12 : decode b_K_script 12 = .ok (.iload_n 1, 1) := by decide +kernel
theorem d_K_script_13 : decode b_K_script 13 = .ok (.sipush 1000, 3) := by decide +kernel
theorem d_K_script_16 : decode b_K_script 16 = .ok (.if_icmp .gt 15, 3) := by decide +kernel
theorem d_K_script_19 : decode b_K_script 19 = .ok (.aload_n 0, 1) := by decide +kernel
theorem d_K_script_20 : decode b_K_script 20 = .ok (.getfield 79, 3) := by decide +kernel
theorem d_K_script_23 : decode b_K_script 23 = .ok (.iload_n 1, 1) := by decide +kernel
theorem d_K_script_24 : decode b_K_script 24 = .ok (.isub, 1) := by decide +kernel
theorem d_K_script_25 : decode b_K_script 25 = .ok (.sipush 1000, 3) := by decide +kernel
theorem d_K_script_28 : decode b_K_script 28 = .ok (.if_icmp .le 11, 3) := by decide +kernel
theorem d_K_script_31 : decode b_K_script 31 = .ok (.new 90, 3) := by decide +kernel
theorem d_K_script_34 : decode b_K_script 34 = .ok (.dup, 1) := by decide +kernel
theorem d_K_script_35 : decode b_K_script 35 = .ok (.invokespecial 92, 3) := by decide +kernel
theorem d_K_script_38 : decode b_K_script 38 = .ok (.athrow, 1) := by decide +kernel
theorem d_K_script_39 : decode b_K_script 39 = .ok (.aload_n 0, 1) := by decide +kernel
theorem d_K_script_40 : decode b_K_script 40 = .ok (.getfield 35, 3) := by decide +kernel
theorem d_K_script_43 : decode b_K_script 43 = .ok (.iconst 0, 1) := by decide +kernel
theorem d_K_script_44 : decode b_K_script 44 = .ok (.aload_n 0, 1) := by decide +kernel
theorem d_K_script_45 : decode b_K_script 45 = .ok (.getfield 9, 3) := by decide +kernel
theorem d_K_script_48 : decode b_K_script 48 = .ok (.iconst 0, 1) := by decide +kernel
theorem d_K_script_49 : decode b_K_script 49 = .ok (.iload_n 1, 1) := by decide +kernel
theorem d_K_script_50 : decode b_K_script 50 = .ok (.invokevirtual 148, 3) := by decide +kernel
theorem d_K_script_53 : decode b_K_script 53 = .ok (.aload_n 0, 1) := by decide +kernel
theorem d_K_script_54 : decode b_K_script 54 = .ok (.getfield 35, 3) := by decide +kernel
theorem d_K_script_57 : decode b_K_script 57 = .ok (.iconst 1, 1) := by decide +kernel
theorem d_K_script_58 : decode b_K_script 58 = .ok (.aload_n 0, 1) := by decide +kernel
theorem d_K_script_59 : decode b_K_script 59 = .ok (.getfield 9, 3) := by decide +kernel
theorem d_K_script_62 : decode b_K_script 62 = .ok (.iload_n 1, 1) := by decide +kernel
theorem d_K_script_63 : decode b_K_script 63 = .ok (.aload_n 0, 1) := by decide +kernel
theorem d_K_script_64 : decode b_K_script 64 = .ok (.getfield 79, 3) := by decide +kernel
theorem d_K_script_67 : decode b_K_script 67 = .ok (.invokevirtual 148, 3) := by decide +kernel
theorem d_K_script_70 : decode b_K_script 70 = .ok (.aload_n 0, 1) := by decide +kernel
theorem d_K_script_71 : decode b_K_script 71 = .ok (.getfield 35, 3) := by decide +kernel
theorem d_K_script_74 : decode b_K_script 74 = .ok (.invokevirtual 152, 3) := by decide +kernel
theorem d_K_script_77 : decode b_K_script 77 = .ok (.aload_n 0, 1) := by decide +kernel
theorem d_K_script_78 : decode b_K_script 78 = .ok (.iconst 0, 1) := by decide +kernel
theorem d_K_script_79 : decode b_K_script 79 = .ok (.putfield 79, 3) := by decide +kernel
theorem d_K_script_82 : decode b_K_script 82 = .ok (.aload_n 0, 1) := by decide +kernel
theorem d_K_script_83 : decode b_K_script 83 = .ok (.getfield 35, 3) := by decide +kernel
theorem d_K_script_86 : decode b_K_script 86 = .ok (.iconst 0, 1) := by decide +kernel
theorem d_K_script_87 : decode b_K_script 87 = .ok (.invokevirtual 155, 3) := by decide +kernel
theorem d_K_script_90 : decode b_K_script 90 = .ok (.ifCond .eq 28, 3) := by decide +kernel
theorem d_K_script_93 : decode b_K_script 93 = .ok (.aload_n 0, 1) := by decide +kernel
theorem d_K_script_94 : decode b_K_script 94 = .ok (.getfield 35, 3) := by decide +kernel
theorem d_K_script_97 : decode b_K_script 97 = .ok (.iconst 1, 1) := by decide +kernel
theorem d_K_script_98 : decode b_K_script 98 = .ok (.invokevirtual 155, 3) := by decide +kernel
theorem d_K_script_101 : decode b_K_script 101 = .ok (.ifCond .eq 17, 3) := by decide +kernel
theorem d_K_script_104 : decode b_K_script 104 = .ok (.aload_n 0, 1) := by decide +kernel
theorem d_K_script_105 : decode b_K_script 105 = .ok (.getfield 35, 3) := by decide +kernel
theorem d_K_script_108 : decode b_K_script 108 = .ok (.invokevirtual 159, 3) := by decide +kernel
theorem d_K_script_111 : decode b_K_script 111 = .ok (.ifCond .eq 7, 3) := by decide +kernel
theorem d_K_script_114 : decode b_K_script 114 = .ok (.iconst 1, 1) := by decide +kernel
theorem d_K_script_115 : decode b_K_script 115 = .ok (.goto 4, 3) := by decide +kernel
theorem d_K_script_118 : decode b_K_script 118 = .ok (.iconst 0, 1) := by decide +kernel
theorem d_K_script_119 : decode b_K_script 119 = .ok (.ireturn, 1) := by decide +kernel
abbrev rm_K_script : Room := { frames := 2, cells := 0, slots := 0, locals := 51 }
abbrev q_K_script (D : va_G) (cy : Nat → ClassId) (A : Nat → Prop) (o : Nat) (v_a_id : Value) (v_o_sha : Value) (r_signatures : Value) (v_o_layout : Value) (v_o_ledger : Value) (v_o_blocks : Value) (r_spent : Value) (v_o_tip : Value) (a_row : Nat) (o_machine : Nat) (r_machine_signatures : Value) (v_o_machine_ripemd : Value) (v_a_machine_other : Value) (v_a_machine_taken : Value) (a_machine_data : Nat) (a_machine_scriptEnd : Nat) (a_machine_main : Nat) (i_takenBytes : Int32) (i_checkedTxs : Int32) (g_row : Nat → Int32) (g_machine_main : Nat → Int32) (res : Int32 × Int32 × Int32 × Int32 × Int32 × Int32 × Int32 × Int32 × Int32 × Int32 × Int32 × (Nat → Int32) × (Nat → Int32)) : Array Value → State → Outcome → State → Prop := va_Qi (fun r' (_ : Unit) => r' = res.1) (fun _ t => Po D cy A [(o, .inr (0, [.ref a_row, .int res.2.1, v_a_id, v_o_sha, r_signatures, .ref o_machine, v_o_layout, v_o_ledger, v_o_blocks, r_spent, v_o_tip, .int i_takenBytes, .int i_checkedTxs])), (a_row, .inl (cy 0, 3000, .inl g_row)), (o_machine, .inr (6, [v_o_sha, r_machine_signatures, v_o_machine_ripemd, .ref a_machine_data, .ref a_machine_scriptEnd, .ref a_machine_main, v_a_machine_other, v_a_machine_taken, .int res.2.2.1, .int res.2.2.2.1, .int res.2.2.2.2.1, .int res.2.2.2.2.2.1, .int res.2.2.2.2.2.2.1, .int res.2.2.2.2.2.2.2.1, .null, .int res.2.2.2.2.2.2.2.2.1, .int res.2.2.2.2.2.2.2.2.2.1, .null, .int res.2.2.2.2.2.2.2.2.2.2.1])), (a_machine_data, .inl (cy 0, 14928, .inl res.2.2.2.2.2.2.2.2.2.2.2.1)), (a_machine_scriptEnd, .inl (cy 1, 2, .inl res.2.2.2.2.2.2.2.2.2.2.2.2)), (a_machine_main, .inl (cy 1, 204, .inl g_machine_main))] t) A
def I_K_script_31 (p : Program) (l : Launch) (e : Env) (s : State) (m : MethodId) (args : Array Value) (below : List Frame) (meth : Method) (c : Code) (D : va_G) (cy : Nat → ClassId) (A : Nat → Prop) (ad : Nat → Nat) (o : Nat) (v_a_id : Value) (v_o_sha : Value) (r_signatures : Value) (v_o_layout : Value) (v_o_ledger : Value) (v_o_blocks : Value) (r_spent : Value) (v_o_tip : Value) (a_row : Nat) (o_machine : Nat) (r_machine_signatures : Value) (v_o_machine_ripemd : Value) (v_a_machine_other : Value) (v_a_machine_taken : Value) (a_machine_data : Nat) (a_machine_scriptEnd : Nat) (a_machine_main : Nat) (i_takenBytes : Int32) (i_checkedTxs : Int32) (g_row : Nat → Int32) (g_machine_main : Nat → Int32) (k : Int32 → Int32 → Int32 → Int32 → Int32 → Int32 → Int32 → Int32 → Int32 → Int32 → (Nat → Int32) → (Nat → Int32) → Option (Int32 × Int32 × Int32 × Int32 × Int32 × Int32 × Int32 × Int32 × Int32 × Int32 × Int32 × (Nat → Int32) × (Nat → Int32))) : Prop :=
  ∀ (u0 : Int32) (u1 : Int32) (u2 : Int32) (u3 : Int32) (u4 : Int32) (u5 : Int32) (u6 : Int32) (u7 : Int32) (u8 : Int32) (u9 : Int32) (u10 : Nat → Int32) (u11 : Nat → Int32) (res : Int32 × Int32 × Int32 × Int32 × Int32 × Int32 × Int32 × Int32 × Int32 × Int32 × Int32 × (Nat → Int32) × (Nat → Int32)), k u0 u1 u2 u3 u4 u5 u6 u7 u8 u9 u10 u11 = some res → ∀ (H : Heap) (locs : List Loc) (ls : Array Slot), va_P D classes [(o, .inr (0, [.ref a_row, .int u0, v_a_id, v_o_sha, r_signatures, .ref o_machine, v_o_layout, v_o_ledger, v_o_blocks, r_spent, v_o_tip, .int i_takenBytes, .int i_checkedTxs])), (a_row, .inl (cy 0, 3000, .inl g_row)), (o_machine, .inr (6, [v_o_sha, r_machine_signatures, v_o_machine_ripemd, .ref a_machine_data, .ref a_machine_scriptEnd, .ref a_machine_main, v_a_machine_other, v_a_machine_taken, .int u1, .int u2, .int u3, .int u4, .int u5, .int u6, .null, .int u7, .int u8, .null, .int u9])), (a_machine_data, .inl (cy 0, 14928, .inl u10)), (a_machine_scriptEnd, .inl (cy 1, 2, .inl u11)), (a_machine_main, .inl (cy 1, 204, .inl g_machine_main))] H → va_D A [(o, .inr (0, [.ref a_row, .int u0, v_a_id, v_o_sha, r_signatures, .ref o_machine, v_o_layout, v_o_ledger, v_o_blocks, r_spent, v_o_tip, .int i_takenBytes, .int i_checkedTxs])), (a_row, .inl (cy 0, 3000, .inl g_row)), (o_machine, .inr (6, [v_o_sha, r_machine_signatures, v_o_machine_ripemd, .ref a_machine_data, .ref a_machine_scriptEnd, .ref a_machine_main, v_a_machine_other, v_a_machine_taken, .int u1, .int u2, .int u3, .int u4, .int u5, .int u6, .null, .int u7, .int u8, .null, .int u9])), (a_machine_data, .inl (cy 0, 14928, .inl u10)), (a_machine_scriptEnd, .inl (cy 1, 2, .inl u11)), (a_machine_main, .inl (cy 1, 204, .inl g_machine_main))] → va_S A s.heap H locs → lv_has ls 2 [] → W p l e rm_K_script s m args below meth c H locs 0 0 (MQ below (q_K_script D cy A o v_a_id v_o_sha r_signatures v_o_layout v_o_ledger v_o_blocks r_spent v_o_tip a_row o_machine r_machine_signatures v_o_machine_ripemd v_a_machine_other v_a_machine_taken a_machine_data a_machine_scriptEnd a_machine_main i_takenBytes i_checkedTxs g_row g_machine_main res) args s 0 0 A) (F0 m 31 ls [])
def I_K_script_e (p : Program) (l : Launch) (e : Env) (s : State) (m : MethodId) (args : Array Value) (below : List Frame) (meth : Method) (c : Code) (D : va_G) (cy : Nat → ClassId) (A : Nat → Prop) (ad : Nat → Nat) (o : Nat) (v_a_id : Value) (v_o_sha : Value) (r_signatures : Value) (v_o_layout : Value) (v_o_ledger : Value) (v_o_blocks : Value) (r_spent : Value) (v_o_tip : Value) (a_row : Nat) (o_machine : Nat) (r_machine_signatures : Value) (v_o_machine_ripemd : Value) (v_a_machine_other : Value) (v_a_machine_taken : Value) (a_machine_data : Nat) (a_machine_scriptEnd : Nat) (a_machine_main : Nat) (i_takenBytes : Int32) (i_checkedTxs : Int32) (g_row : Nat → Int32) (g_machine_main : Nat → Int32) (k : Int32 → Int32 → Int32 → Int32 → Int32 → Int32 → Int32 → Int32 → Int32 → Int32 → Int32 → (Nat → Int32) → (Nat → Int32) → Option (Int32 × Int32 × Int32 × Int32 × Int32 × Int32 × Int32 × Int32 × Int32 × Int32 × Int32 × (Nat → Int32) × (Nat → Int32))) : Prop :=
  ∀ (a1 : Int32) (u0 : Int32) (u1 : Int32) (u2 : Int32) (u3 : Int32) (u4 : Int32) (u5 : Int32) (u6 : Int32) (u7 : Int32) (u8 : Int32) (u9 : Int32) (u10 : Nat → Int32) (u11 : Nat → Int32) (res : Int32 × Int32 × Int32 × Int32 × Int32 × Int32 × Int32 × Int32 × Int32 × Int32 × Int32 × (Nat → Int32) × (Nat → Int32)), k a1 u0 u1 u2 u3 u4 u5 u6 u7 u8 u9 u10 u11 = some res → ∀ (H : Heap) (locs : List Loc) (ls : Array Slot), va_P D classes [(o, .inr (0, [.ref a_row, .int u0, v_a_id, v_o_sha, r_signatures, .ref o_machine, v_o_layout, v_o_ledger, v_o_blocks, r_spent, v_o_tip, .int i_takenBytes, .int i_checkedTxs])), (a_row, .inl (cy 0, 3000, .inl g_row)), (o_machine, .inr (6, [v_o_sha, r_machine_signatures, v_o_machine_ripemd, .ref a_machine_data, .ref a_machine_scriptEnd, .ref a_machine_main, v_a_machine_other, v_a_machine_taken, .int u1, .int u2, .int u3, .int u4, .int u5, .int u6, .null, .int u7, .int u8, .null, .int u9])), (a_machine_data, .inl (cy 0, 14928, .inl u10)), (a_machine_scriptEnd, .inl (cy 1, 2, .inl u11)), (a_machine_main, .inl (cy 1, 204, .inl g_machine_main))] H → va_D A [(o, .inr (0, [.ref a_row, .int u0, v_a_id, v_o_sha, r_signatures, .ref o_machine, v_o_layout, v_o_ledger, v_o_blocks, r_spent, v_o_tip, .int i_takenBytes, .int i_checkedTxs])), (a_row, .inl (cy 0, 3000, .inl g_row)), (o_machine, .inr (6, [v_o_sha, r_machine_signatures, v_o_machine_ripemd, .ref a_machine_data, .ref a_machine_scriptEnd, .ref a_machine_main, v_a_machine_other, v_a_machine_taken, .int u1, .int u2, .int u3, .int u4, .int u5, .int u6, .null, .int u7, .int u8, .null, .int u9])), (a_machine_data, .inl (cy 0, 14928, .inl u10)), (a_machine_scriptEnd, .inl (cy 1, 2, .inl u11)), (a_machine_main, .inl (cy 1, 204, .inl g_machine_main))] → va_S A s.heap H locs → lv_has ls 2 [(0, .ref o), (1, .int a1)] → W p l e rm_K_script s m args below meth c H locs 0 0 (MQ below (q_K_script D cy A o v_a_id v_o_sha r_signatures v_o_layout v_o_ledger v_o_blocks r_spent v_o_tip a_row o_machine r_machine_signatures v_o_machine_ripemd v_a_machine_other v_a_machine_taken a_machine_data a_machine_scriptEnd a_machine_main i_takenBytes i_checkedTxs g_row g_machine_main res) args s 0 0 A) (F0 m 0 ls [])
def xb_K_script_31 (fu : Nat) (i_takenBytes : Int32) (i_checkedTxs : Int32) (g_row : Nat → Int32) (g_machine_main : Nat → Int32) (u0 : Int32) (u1 : Int32) (u2 : Int32) (u3 : Int32) (u4 : Int32) (u5 : Int32) (u6 : Int32) (u7 : Int32) (u8 : Int32) (u9 : Int32) (u10 : Nat → Int32) (u11 : Nat → Int32) : Option (Int32 × Int32 × Int32 × Int32 × Int32 × Int32 × Int32 × Int32 × Int32 × Int32 × Int32 × (Nat → Int32) × (Nat → Int32)) :=
  none
set_option maxHeartbeats 8000000 in
set_option maxRecDepth 100000 in
theorem wb_K_script_31 {p : Program} {l : Launch} {e : Env} {s : State} {m : MethodId} {args : Array Value} {below : List Frame} {meth : Method} {c : Code} {D : va_G} {cy : Nat → ClassId} {A : Nat → Prop} {ad : Nat → Nat} {o : Nat} {v_a_id : Value} {v_o_sha : Value} {r_signatures : Value} {v_o_layout : Value} {v_o_ledger : Value} {v_o_blocks : Value} {r_spent : Value} {v_o_tip : Value} {a_row : Nat} {o_machine : Nat} {r_machine_signatures : Value} {v_o_machine_ripemd : Value} {v_a_machine_other : Value} {v_a_machine_taken : Value} {a_machine_data : Nat} {a_machine_scriptEnd : Nat} {a_machine_main : Nat} {i_takenBytes : Int32} {i_checkedTxs : Int32} {g_row : Nat → Int32} {g_machine_main : Nat → Int32} {fu : Nat} (F : Fx p s m args meth c b_K_script 2 "CoinKeeper" "script" (some .boolean) D cy ad A) : I_K_script_31 p l e s m args below meth c D cy A ad o v_a_id v_o_sha r_signatures v_o_layout v_o_ledger v_o_blocks r_spent v_o_tip a_row o_machine r_machine_signatures v_o_machine_ripemd v_a_machine_other v_a_machine_taken a_machine_data a_machine_scriptEnd a_machine_main i_takenBytes i_checkedTxs g_row g_machine_main (xb_K_script_31 fu i_takenBytes i_checkedTxs g_row g_machine_main) := by
  obtain ⟨hx, hb, hr, hml, hown, hts, hlocks, hK, hA, hSt, hnm, hex⟩ := id F
  intro u0 u1 u2 u3 u4 u5 u6 u7 u8 u9 u10 u11 res hf H locs ls hP hD hS hl
  unfold xb_K_script_31 at hf
  exact nomatch hf
theorem hdf_56 : ({ cls := "CoinKeeper$Machine", name := "load", desc := "(I[BII)V" } : Jvm.MethodName).cls ≠ "java/lang/invoke/MethodHandle" ∧ ({ cls := "CoinKeeper$Machine", name := "load", desc := "(I[BII)V" } : Jvm.MethodName).cls ≠ "java/lang/invoke/VarHandle" ∧ (parseMethodDescriptor ({ cls := "CoinKeeper$Machine", name := "load", desc := "(I[BII)V" } : Jvm.MethodName).desc).map (fun d => d.parameters.length) = some 4 := by decide +kernel
theorem hdf_57 : ({ cls := "CoinKeeper$Machine", name := "spendNothing", desc := "()V" } : Jvm.MethodName).cls ≠ "java/lang/invoke/MethodHandle" ∧ ({ cls := "CoinKeeper$Machine", name := "spendNothing", desc := "()V" } : Jvm.MethodName).cls ≠ "java/lang/invoke/VarHandle" ∧ (parseMethodDescriptor ({ cls := "CoinKeeper$Machine", name := "spendNothing", desc := "()V" } : Jvm.MethodName).desc).map (fun d => d.parameters.length) = some 0 := by decide +kernel
theorem hdf_58 : ({ cls := "CoinKeeper$Machine", name := "run", desc := "(I)Z" } : Jvm.MethodName).cls ≠ "java/lang/invoke/MethodHandle" ∧ ({ cls := "CoinKeeper$Machine", name := "run", desc := "(I)Z" } : Jvm.MethodName).cls ≠ "java/lang/invoke/VarHandle" ∧ (parseMethodDescriptor ({ cls := "CoinKeeper$Machine", name := "run", desc := "(I)Z" } : Jvm.MethodName).desc).map (fun d => d.parameters.length) = some 1 := by decide +kernel
theorem hdf_59 : ({ cls := "CoinKeeper$Machine", name := "endsTrue", desc := "()Z" } : Jvm.MethodName).cls ≠ "java/lang/invoke/MethodHandle" ∧ ({ cls := "CoinKeeper$Machine", name := "endsTrue", desc := "()Z" } : Jvm.MethodName).cls ≠ "java/lang/invoke/VarHandle" ∧ (parseMethodDescriptor ({ cls := "CoinKeeper$Machine", name := "endsTrue", desc := "()Z" } : Jvm.MethodName).desc).map (fun d => d.parameters.length) = some 0 := by decide +kernel
def x_K_script (fu : Nat) (i_takenBytes : Int32) (i_checkedTxs : Int32) (g_row : Nat → Int32) (g_machine_main : Nat → Int32) (a1 : Int32) (u0 : Int32) (u1 : Int32) (u2 : Int32) (u3 : Int32) (u4 : Int32) (u5 : Int32) (u6 : Int32) (u7 : Int32) (u8 : Int32) (u9 : Int32) (u10 : Nat → Int32) (u11 : Nat → Int32) : Option (Int32 × Int32 × Int32 × Int32 × Int32 × Int32 × Int32 × Int32 × Int32 × Int32 × Int32 × (Nat → Int32) × (Nat → Int32)) :=
  if a1 < 0 then (xb_K_script_31 fu i_takenBytes i_checkedTxs g_row g_machine_main u0 u1 u2 u3 u4 u5 u6 u7 u8 u9 u10 u11) else (if u0 < a1 then (xb_K_script_31 fu i_takenBytes i_checkedTxs g_row g_machine_main u0 u1 u2 u3 u4 u5 u6 u7 u8 u9 u10 u11) else (if (1000 : Int32) < a1 then (xb_K_script_31 fu i_takenBytes i_checkedTxs g_row g_machine_main u0 u1 u2 u3 u4 u5 u6 u7 u8 u9 u10 u11) else (bnd (u0 - a1) fun v1 => if v1 ≤ (1000 : Int32) then (bd2 (x_Ma_load fu u1 u2 u3 u4 u5 u6 u7 u8 u9 3000 g_row (0 : Int32) (0 : Int32) a1 u10 u11) fun f2 f3 => bd2 (x_Ma_load fu u1 u2 u3 u4 u5 u6 u7 u8 u9 3000 g_row (1 : Int32) a1 u0 f2 f3) fun f4 f5 => bd5 (x_Ma_spendNothing fu u2 u3 u4 u5 u1 u6 u7 u8 u9) fun e6 e7 e8 e9 e10 => bd5 (x_Ma_run fu e6 e7 e8 e9 e10 f5 (0 : Int32) u2 u3 u4 u5) fun v11 e12 e13 e14 e15 => if v11 = 0 then (some ((0 : Int32), (0 : Int32), e6, e12, e13, e14, e15, e7, e8, e9, e10, f4, f5)) else (bd5 (x_Ma_run fu e6 e7 e8 e9 e10 f5 (1 : Int32) e12 e13 e14 e15) fun v16 e17 e18 e19 e20 => if v16 = 0 then (some ((0 : Int32), (0 : Int32), e6, e17, e18, e19, e20, e7, e8, e9, e10, f4, f5)) else (bd1 (x_Ma_endsTrue fu e6 e17 e18 e19 e20 e7 e8 e9 e10 g_machine_main) fun v21 => if v21 = 0 then (some ((0 : Int32), (0 : Int32), e6, e17, e18, e19, e20, e7, e8, e9, e10, f4, f5)) else (some ((1 : Int32), (0 : Int32), e6, e17, e18, e19, e20, e7, e8, e9, e10, f4, f5))))) else (xb_K_script_31 fu i_takenBytes i_checkedTxs g_row g_machine_main u0 u1 u2 u3 u4 u5 u6 u7 u8 u9 u10 u11))))
set_option maxHeartbeats 8000000 in
set_option maxRecDepth 100000 in
theorem we_K_script {p : Program} {l : Launch} {e : Env} {s : State} {m : MethodId} {args : Array Value} {below : List Frame} {meth : Method} {c : Code} {D : va_G} {cy : Nat → ClassId} {A : Nat → Prop} {ad : Nat → Nat} {o : Nat} {v_a_id : Value} {v_o_sha : Value} {r_signatures : Value} {v_o_layout : Value} {v_o_ledger : Value} {v_o_blocks : Value} {r_spent : Value} {v_o_tip : Value} {a_row : Nat} {o_machine : Nat} {r_machine_signatures : Value} {v_o_machine_ripemd : Value} {v_a_machine_other : Value} {v_a_machine_taken : Value} {a_machine_data : Nat} {a_machine_scriptEnd : Nat} {a_machine_main : Nat} {i_takenBytes : Int32} {i_checkedTxs : Int32} {g_row : Nat → Int32} {g_machine_main : Nat → Int32} {fu : Nat} (F : Fx p s m args meth c b_K_script 2 "CoinKeeper" "script" (some .boolean) D cy ad A) : I_K_script_e p l e s m args below meth c D cy A ad o v_a_id v_o_sha r_signatures v_o_layout v_o_ledger v_o_blocks r_spent v_o_tip a_row o_machine r_machine_signatures v_o_machine_ripemd v_a_machine_other v_a_machine_taken a_machine_data a_machine_scriptEnd a_machine_main i_takenBytes i_checkedTxs g_row g_machine_main (x_K_script fu i_takenBytes i_checkedTxs g_row g_machine_main) := by
  obtain ⟨hx, hb, hr, hml, hown, hts, hlocks, hK, hA, hSt, hnm, hex⟩ := id F
  intro a1 u0 u1 u2 u3 u4 u5 u6 u7 u8 u9 u10 u11 res hf H locs ls hP hD hS hl
  unfold x_K_script at hf
  refine lv_iload_n hx hb d_K_script_0 rfl (lv_at hl 1 rfl) ?_
  refine lv_if_lt (tgt := 31) hx hb d_K_script_1 (by decide) (fun cx => ?_) (fun cx => ?_)
  · have hf := ifp cx hf
    exact wb_K_script_31 (fu := fu) F _ _ _ _ _ _ _ _ _ _ _ _ _ hf _ _ _ hP hD hS (lv_sub hl [] rfl)
  · have hf := ifn cx hf
    refine lv_iload_n hx hb d_K_script_4 rfl (lv_at hl 1 rfl) ?_
    refine lv_aload_n hx hb d_K_script_5 rfl (lv_at hl 0 rfl) ?_
    refine va_get (D := D) (ci := 0) (v := .int u0) (C := "CoinKeeper") (T := F_0) (N := 13) hx hb hts i_0 hown hK hP 0 rfl rfl 1 (by decide) (hts _ gw_501) (fun _ h9 => h9) rfl d_K_script_6 ?_
    refine lv_icmp_gt (tgt := 31) hx hb d_K_script_9 (by decide) (fun cx => ?_) (fun cx => ?_)
    · have hf := ifp cx hf
      exact wb_K_script_31 (fu := fu) F _ _ _ _ _ _ _ _ _ _ _ _ _ hf _ _ _ hP hD hS (lv_sub hl [] rfl)
    · have hf := ifn cx hf
      refine lv_iload_n hx hb d_K_script_12 rfl (lv_at hl 1 rfl) ?_
      refine lv_sipush (v := 1000) hx hb d_K_script_13 (by decide) ?_
      refine lv_icmp_gt (tgt := 31) hx hb d_K_script_16 (by decide) (fun cx => ?_) (fun cx => ?_)
      · have hf := ifp cx hf
        exact wb_K_script_31 (fu := fu) F _ _ _ _ _ _ _ _ _ _ _ _ _ hf _ _ _ hP hD hS (lv_sub hl [] rfl)
      · have hf := ifn cx hf
        refine lv_aload_n hx hb d_K_script_19 rfl (lv_at hl 0 rfl) ?_
        refine va_get (D := D) (ci := 0) (v := .int u0) (C := "CoinKeeper") (T := F_0) (N := 13) hx hb hts i_0 hown hK hP 0 rfl rfl 1 (by decide) (hts _ gw_501) (fun _ h9 => h9) rfl d_K_script_20 ?_
        refine lv_iload_n hx hb d_K_script_23 rfl (lv_at hl 1 rfl) ?_
        refine lv_isub hx hb d_K_script_24 ?_
        refine lv_topi (fun v1 ev => ?_)
        have hf := bn ev hf
        clear ev
        refine lv_sipush (v := 1000) hx hb d_K_script_25 (by decide) ?_
        refine lv_icmp_le (tgt := 39) hx hb d_K_script_28 (by decide) (fun cx => ?_) (fun cx => ?_)
        · have hf := ifp cx hf
          refine lv_aload_n hx hb d_K_script_39 rfl (lv_at hl 0 rfl) ?_
          refine va_get (D := D) (ci := 0) (v := .ref o_machine) (C := "CoinKeeper") (T := F_0) (N := 13) hx hb hts i_0 hown hK hP 0 rfl rfl 5 (by decide) (hts _ gw_505) (fun _ h9 => h9) rfl d_K_script_40 ?_
          refine lv_iconst (v := 0) hx hb d_K_script_43 (by decide) ?_
          refine lv_aload_n hx hb d_K_script_44 rfl (lv_at hl 0 rfl) ?_
          refine va_get (D := D) (ci := 0) (v := .ref a_row) (C := "CoinKeeper") (T := F_0) (N := 13) hx hb hts i_0 hown hK hP 0 rfl rfl 0 (by decide) (hts _ gw_500) (fun _ h9 => h9) rfl d_K_script_45 ?_
          refine lv_iconst (v := 0) hx hb d_K_script_48 (by decide) ?_
          refine lv_iload_n hx hb d_K_script_49 rfl (lv_at hl 1 rfl) ?_
          obtain ⟨f2, f3, hc, hf⟩ := bdp2 hf
          refine q_av (wr := [(o, .inr (0, [.ref a_row, .int u0, v_a_id, v_o_sha, r_signatures, .ref o_machine, v_o_layout, v_o_ledger, v_o_blocks, r_spent, v_o_tip, .int i_takenBytes, .int i_checkedTxs])), (a_machine_main, .inl (cy 1, 204, .inl g_machine_main))]) (va_runV (C := "CoinKeeper$Machine") (As := [.int (0 : Int32), .ref a_row, .int (0 : Int32), .int a1]) (rest := []) ⟨hx, hb, hml, hown, hts⟩ (c_Ma_load l D cy ad fu o_machine v_o_sha r_machine_signatures v_o_machine_ripemd (.ref a_machine_main) v_a_machine_other v_a_machine_taken .null .null a_machine_data a_machine_scriptEnd a_row u1 u2 u3 u4 u5 u6 u7 u8 u9 3000 g_row (0 : Int32) (0 : Int32) a1 u10 u11 _ hc H.size) ⟨q_cB hts gw_975 gw_6 gw_972 hdf_56 ⟨by decide, by decide⟩, hts _ gw_973, hts _ gw_974⟩ (q_preV (q_pre (hP.sub [2, 3, 4, 1] rfl) (hD.sub [2, 3, 4, 1] (by decide) rfl) hK hSt hS (va_free hD hS hA [2, 3, 4, 1] rfl) _) (va_recv hK (hP.sub [2, 3, 4, 1] rfl) (ci := 6) (q0 := 0) rfl rfl)) rfl rfl hl.1 rfl (lv_room (Nat.le_of_ble_eq_true rfl)) d_K_script_50 ⟨Nat.le_of_ble_eq_true rfl, Nat.le_of_ble_eq_true rfl⟩) hP hD hS hA [2, 3, 4, 1] [0, 5] rfl rfl (by decide) (by decide) (fun H locs hP hD hS => ?_)
          clear hc
          have hP : va_P D classes [(o, .inr (0, [.ref a_row, .int u0, v_a_id, v_o_sha, r_signatures, .ref o_machine, v_o_layout, v_o_ledger, v_o_blocks, r_spent, v_o_tip, .int i_takenBytes, .int i_checkedTxs])), (a_machine_main, .inl (cy 1, 204, .inl g_machine_main)), (o_machine, .inr (6, [v_o_sha, r_machine_signatures, v_o_machine_ripemd, .ref a_machine_data, .ref a_machine_scriptEnd, .ref a_machine_main, v_a_machine_other, v_a_machine_taken, .int u1, .int u2, .int u3, .int u4, .int u5, .int u6, .null, .int u7, .int u8, .null, .int u9])), (a_machine_data, .inl (cy 0, 14928, .inl f2)), (a_machine_scriptEnd, .inl (cy 1, 2, .inl f3)), (a_row, .inl (cy 0, 3000, .inl g_row))] H := hP
          have hD : va_D A [(o, .inr (0, [.ref a_row, .int u0, v_a_id, v_o_sha, r_signatures, .ref o_machine, v_o_layout, v_o_ledger, v_o_blocks, r_spent, v_o_tip, .int i_takenBytes, .int i_checkedTxs])), (a_machine_main, .inl (cy 1, 204, .inl g_machine_main)), (o_machine, .inr (6, [v_o_sha, r_machine_signatures, v_o_machine_ripemd, .ref a_machine_data, .ref a_machine_scriptEnd, .ref a_machine_main, v_a_machine_other, v_a_machine_taken, .int u1, .int u2, .int u3, .int u4, .int u5, .int u6, .null, .int u7, .int u8, .null, .int u9])), (a_machine_data, .inl (cy 0, 14928, .inl f2)), (a_machine_scriptEnd, .inl (cy 1, 2, .inl f3)), (a_row, .inl (cy 0, 3000, .inl g_row))] := hD
          refine lv_aload_n hx hb d_K_script_53 rfl (lv_at hl 0 rfl) ?_
          refine va_get (D := D) (ci := 0) (v := .ref o_machine) (C := "CoinKeeper") (T := F_0) (N := 13) hx hb hts i_0 hown hK hP 0 rfl rfl 5 (by decide) (hts _ gw_505) (fun _ h9 => h9) rfl d_K_script_54 ?_
          refine lv_iconst (v := 1) hx hb d_K_script_57 (by decide) ?_
          refine lv_aload_n hx hb d_K_script_58 rfl (lv_at hl 0 rfl) ?_
          refine va_get (D := D) (ci := 0) (v := .ref a_row) (C := "CoinKeeper") (T := F_0) (N := 13) hx hb hts i_0 hown hK hP 0 rfl rfl 0 (by decide) (hts _ gw_500) (fun _ h9 => h9) rfl d_K_script_59 ?_
          refine lv_iload_n hx hb d_K_script_62 rfl (lv_at hl 1 rfl) ?_
          refine lv_aload_n hx hb d_K_script_63 rfl (lv_at hl 0 rfl) ?_
          refine va_get (D := D) (ci := 0) (v := .int u0) (C := "CoinKeeper") (T := F_0) (N := 13) hx hb hts i_0 hown hK hP 0 rfl rfl 1 (by decide) (hts _ gw_501) (fun _ h9 => h9) rfl d_K_script_64 ?_
          obtain ⟨f4, f5, hc, hf⟩ := bdp2 hf
          refine q_av (wr := [(o, .inr (0, [.ref a_row, .int u0, v_a_id, v_o_sha, r_signatures, .ref o_machine, v_o_layout, v_o_ledger, v_o_blocks, r_spent, v_o_tip, .int i_takenBytes, .int i_checkedTxs])), (a_machine_main, .inl (cy 1, 204, .inl g_machine_main))]) (va_runV (C := "CoinKeeper$Machine") (As := [.int (1 : Int32), .ref a_row, .int a1, .int u0]) (rest := []) ⟨hx, hb, hml, hown, hts⟩ (c_Ma_load l D cy ad fu o_machine v_o_sha r_machine_signatures v_o_machine_ripemd (.ref a_machine_main) v_a_machine_other v_a_machine_taken .null .null a_machine_data a_machine_scriptEnd a_row u1 u2 u3 u4 u5 u6 u7 u8 u9 3000 g_row (1 : Int32) a1 u0 f2 f3 _ hc H.size) ⟨q_cB hts gw_975 gw_6 gw_972 hdf_56 ⟨by decide, by decide⟩, hts _ gw_973, hts _ gw_974⟩ (q_preV (q_pre (hP.sub [2, 3, 4, 5] rfl) (hD.sub [2, 3, 4, 5] (by decide) rfl) hK hSt hS (va_free hD hS hA [2, 3, 4, 5] rfl) _) (va_recv hK (hP.sub [2, 3, 4, 5] rfl) (ci := 6) (q0 := 0) rfl rfl)) rfl rfl hl.1 rfl (lv_room (Nat.le_of_ble_eq_true rfl)) d_K_script_67 ⟨Nat.le_of_ble_eq_true rfl, Nat.le_of_ble_eq_true rfl⟩) hP hD hS hA [2, 3, 4, 5] [0, 1] rfl rfl (by decide) (by decide) (fun H locs hP hD hS => ?_)
          clear hc
          have hP : va_P D classes [(o, .inr (0, [.ref a_row, .int u0, v_a_id, v_o_sha, r_signatures, .ref o_machine, v_o_layout, v_o_ledger, v_o_blocks, r_spent, v_o_tip, .int i_takenBytes, .int i_checkedTxs])), (a_machine_main, .inl (cy 1, 204, .inl g_machine_main)), (o_machine, .inr (6, [v_o_sha, r_machine_signatures, v_o_machine_ripemd, .ref a_machine_data, .ref a_machine_scriptEnd, .ref a_machine_main, v_a_machine_other, v_a_machine_taken, .int u1, .int u2, .int u3, .int u4, .int u5, .int u6, .null, .int u7, .int u8, .null, .int u9])), (a_machine_data, .inl (cy 0, 14928, .inl f4)), (a_machine_scriptEnd, .inl (cy 1, 2, .inl f5)), (a_row, .inl (cy 0, 3000, .inl g_row))] H := hP
          have hD : va_D A [(o, .inr (0, [.ref a_row, .int u0, v_a_id, v_o_sha, r_signatures, .ref o_machine, v_o_layout, v_o_ledger, v_o_blocks, r_spent, v_o_tip, .int i_takenBytes, .int i_checkedTxs])), (a_machine_main, .inl (cy 1, 204, .inl g_machine_main)), (o_machine, .inr (6, [v_o_sha, r_machine_signatures, v_o_machine_ripemd, .ref a_machine_data, .ref a_machine_scriptEnd, .ref a_machine_main, v_a_machine_other, v_a_machine_taken, .int u1, .int u2, .int u3, .int u4, .int u5, .int u6, .null, .int u7, .int u8, .null, .int u9])), (a_machine_data, .inl (cy 0, 14928, .inl f4)), (a_machine_scriptEnd, .inl (cy 1, 2, .inl f5)), (a_row, .inl (cy 0, 3000, .inl g_row))] := hD
          refine lv_aload_n hx hb d_K_script_70 rfl (lv_at hl 0 rfl) ?_
          refine va_get (D := D) (ci := 0) (v := .ref o_machine) (C := "CoinKeeper") (T := F_0) (N := 13) hx hb hts i_0 hown hK hP 0 rfl rfl 5 (by decide) (hts _ gw_505) (fun _ h9 => h9) rfl d_K_script_71 ?_
          obtain ⟨e6, e7, e8, e9, e10, hc, hf⟩ := bdp5 hf
          refine q_av (wr := [(o, .inr (0, [.ref a_row, .int u0, v_a_id, v_o_sha, r_signatures, .ref o_machine, v_o_layout, v_o_ledger, v_o_blocks, r_spent, v_o_tip, .int i_takenBytes, .int i_checkedTxs])), (a_machine_main, .inl (cy 1, 204, .inl g_machine_main)), (a_machine_data, .inl (cy 0, 14928, .inl f4)), (a_machine_scriptEnd, .inl (cy 1, 2, .inl f5)), (a_row, .inl (cy 0, 3000, .inl g_row))]) (va_runV (C := "CoinKeeper$Machine") (As := []) (rest := []) ⟨hx, hb, hml, hown, hts⟩ (c_Ma_spendNothing l D cy ad fu o_machine v_o_sha r_machine_signatures v_o_machine_ripemd (.ref a_machine_data) (.ref a_machine_scriptEnd) (.ref a_machine_main) v_a_machine_other v_a_machine_taken .null .null u2 u3 u4 u5 u1 u6 u7 u8 u9 _ hc H.size) ⟨q_cB hts gw_1290 gw_6 gw_1287 hdf_57 ⟨by decide, by decide⟩, hts _ gw_1288, hts _ gw_1289⟩ (q_preV (q_pre (hP.sub [2] rfl) (hD.sub [2] (by decide) rfl) hK hSt hS (va_free hD hS hA [2] rfl) _) (va_recv hK (hP.sub [2] rfl) (ci := 6) (q0 := 0) rfl rfl)) rfl rfl hl.1 rfl (lv_room (Nat.le_of_ble_eq_true rfl)) d_K_script_74 ⟨Nat.le_of_ble_eq_true rfl, Nat.le_of_ble_eq_true rfl⟩) hP hD hS hA [2] [0, 1, 3, 4, 5] rfl rfl (by decide) (by decide) (fun H locs hP hD hS => ?_)
          clear hc
          have hP : va_P D classes [(o, .inr (0, [.ref a_row, .int u0, v_a_id, v_o_sha, r_signatures, .ref o_machine, v_o_layout, v_o_ledger, v_o_blocks, r_spent, v_o_tip, .int i_takenBytes, .int i_checkedTxs])), (a_machine_main, .inl (cy 1, 204, .inl g_machine_main)), (a_machine_data, .inl (cy 0, 14928, .inl f4)), (a_machine_scriptEnd, .inl (cy 1, 2, .inl f5)), (a_row, .inl (cy 0, 3000, .inl g_row)), (o_machine, .inr (6, [v_o_sha, r_machine_signatures, v_o_machine_ripemd, .ref a_machine_data, .ref a_machine_scriptEnd, .ref a_machine_main, v_a_machine_other, v_a_machine_taken, .int e6, .int u2, .int u3, .int u4, .int u5, .int e7, .null, .int e8, .int e9, .null, .int e10]))] H := hP
          have hD : va_D A [(o, .inr (0, [.ref a_row, .int u0, v_a_id, v_o_sha, r_signatures, .ref o_machine, v_o_layout, v_o_ledger, v_o_blocks, r_spent, v_o_tip, .int i_takenBytes, .int i_checkedTxs])), (a_machine_main, .inl (cy 1, 204, .inl g_machine_main)), (a_machine_data, .inl (cy 0, 14928, .inl f4)), (a_machine_scriptEnd, .inl (cy 1, 2, .inl f5)), (a_row, .inl (cy 0, 3000, .inl g_row)), (o_machine, .inr (6, [v_o_sha, r_machine_signatures, v_o_machine_ripemd, .ref a_machine_data, .ref a_machine_scriptEnd, .ref a_machine_main, v_a_machine_other, v_a_machine_taken, .int e6, .int u2, .int u3, .int u4, .int u5, .int e7, .null, .int e8, .int e9, .null, .int e10]))] := hD
          refine lv_aload_n hx hb d_K_script_77 rfl (lv_at hl 0 rfl) ?_
          refine lv_iconst (v := 0) hx hb d_K_script_78 (by decide) ?_
          refine va_put (D := D) (ci := 0) (v := .int (0 : Int32)) (ty := .int) (C := "CoinKeeper") (T := F_0) (N := 13) hx hb hts i_0 t_0 t_0_ok n_0 hown hK hP hD hS 0 rfl rfl 1 (by decide) (hts _ gw_501) (fun _ h9 => h9) rfl (by decide +kernel) rfl rfl (Nat.le_of_ble_eq_true rfl) d_K_script_79 (fun H locs hP hD hS => ?_)
          have hP : va_P D classes [(o, .inr (0, [.ref a_row, .int (0 : Int32), v_a_id, v_o_sha, r_signatures, .ref o_machine, v_o_layout, v_o_ledger, v_o_blocks, r_spent, v_o_tip, .int i_takenBytes, .int i_checkedTxs])), (a_machine_main, .inl (cy 1, 204, .inl g_machine_main)), (a_machine_data, .inl (cy 0, 14928, .inl f4)), (a_machine_scriptEnd, .inl (cy 1, 2, .inl f5)), (a_row, .inl (cy 0, 3000, .inl g_row)), (o_machine, .inr (6, [v_o_sha, r_machine_signatures, v_o_machine_ripemd, .ref a_machine_data, .ref a_machine_scriptEnd, .ref a_machine_main, v_a_machine_other, v_a_machine_taken, .int e6, .int u2, .int u3, .int u4, .int u5, .int e7, .null, .int e8, .int e9, .null, .int e10]))] H := hP
          have hD : va_D A [(o, .inr (0, [.ref a_row, .int (0 : Int32), v_a_id, v_o_sha, r_signatures, .ref o_machine, v_o_layout, v_o_ledger, v_o_blocks, r_spent, v_o_tip, .int i_takenBytes, .int i_checkedTxs])), (a_machine_main, .inl (cy 1, 204, .inl g_machine_main)), (a_machine_data, .inl (cy 0, 14928, .inl f4)), (a_machine_scriptEnd, .inl (cy 1, 2, .inl f5)), (a_row, .inl (cy 0, 3000, .inl g_row)), (o_machine, .inr (6, [v_o_sha, r_machine_signatures, v_o_machine_ripemd, .ref a_machine_data, .ref a_machine_scriptEnd, .ref a_machine_main, v_a_machine_other, v_a_machine_taken, .int e6, .int u2, .int u3, .int u4, .int u5, .int e7, .null, .int e8, .int e9, .null, .int e10]))] := hD
          refine lv_aload_n hx hb d_K_script_82 rfl (lv_at hl 0 rfl) ?_
          refine va_get (D := D) (ci := 0) (v := .ref o_machine) (C := "CoinKeeper") (T := F_0) (N := 13) hx hb hts i_0 hown hK hP 0 rfl rfl 5 (by decide) (hts _ gw_505) (fun _ h9 => h9) rfl d_K_script_83 ?_
          refine lv_iconst (v := 0) hx hb d_K_script_86 (by decide) ?_
          obtain ⟨v11, e12, e13, e14, e15, hc, hf⟩ := bdp5 hf
          refine q_ai (wr := [(o, .inr (0, [.ref a_row, .int (0 : Int32), v_a_id, v_o_sha, r_signatures, .ref o_machine, v_o_layout, v_o_ledger, v_o_blocks, r_spent, v_o_tip, .int i_takenBytes, .int i_checkedTxs])), (a_machine_main, .inl (cy 1, 204, .inl g_machine_main)), (a_machine_data, .inl (cy 0, 14928, .inl f4)), (a_row, .inl (cy 0, 3000, .inl g_row))]) (va_runV (C := "CoinKeeper$Machine") (As := [.int (0 : Int32)]) (rest := []) ⟨hx, hb, hml, hown, hts⟩ (c_Ma_run l D cy ad fu o_machine v_o_sha r_machine_signatures v_o_machine_ripemd (.ref a_machine_data) (.ref a_machine_main) v_a_machine_other v_a_machine_taken .null .null a_machine_scriptEnd e6 e7 e8 e9 e10 f5 (0 : Int32) u2 u3 u4 u5 _ hc H.size) ⟨q_cB hts gw_984 gw_6 gw_981 hdf_58 ⟨by decide, by decide⟩, hts _ gw_982, hts _ gw_983⟩ (q_preV (q_pre (hP.sub [5, 3] rfl) (hD.sub [5, 3] (by decide) rfl) hK hSt hS (va_free hD hS hA [5, 3] rfl) _) (va_recv hK (hP.sub [5, 3] rfl) (ci := 6) (q0 := 0) rfl rfl)) rfl rfl hl.1 rfl (lv_room (Nat.le_of_ble_eq_true rfl)) d_K_script_87 ⟨Nat.le_of_ble_eq_true rfl, Nat.le_of_ble_eq_true rfl⟩) hP hD hS hA [5, 3] [0, 1, 2, 4] rfl rfl (by decide) (by decide) (fun H locs hP hD hS => ?_)
          clear hc
          have hP : va_P D classes [(o, .inr (0, [.ref a_row, .int (0 : Int32), v_a_id, v_o_sha, r_signatures, .ref o_machine, v_o_layout, v_o_ledger, v_o_blocks, r_spent, v_o_tip, .int i_takenBytes, .int i_checkedTxs])), (a_machine_main, .inl (cy 1, 204, .inl g_machine_main)), (a_machine_data, .inl (cy 0, 14928, .inl f4)), (a_row, .inl (cy 0, 3000, .inl g_row)), (o_machine, .inr (6, [v_o_sha, r_machine_signatures, v_o_machine_ripemd, .ref a_machine_data, .ref a_machine_scriptEnd, .ref a_machine_main, v_a_machine_other, v_a_machine_taken, .int e6, .int e12, .int e13, .int e14, .int e15, .int e7, .null, .int e8, .int e9, .null, .int e10])), (a_machine_scriptEnd, .inl (cy 1, 2, .inl f5))] H := hP
          have hD : va_D A [(o, .inr (0, [.ref a_row, .int (0 : Int32), v_a_id, v_o_sha, r_signatures, .ref o_machine, v_o_layout, v_o_ledger, v_o_blocks, r_spent, v_o_tip, .int i_takenBytes, .int i_checkedTxs])), (a_machine_main, .inl (cy 1, 204, .inl g_machine_main)), (a_machine_data, .inl (cy 0, 14928, .inl f4)), (a_row, .inl (cy 0, 3000, .inl g_row)), (o_machine, .inr (6, [v_o_sha, r_machine_signatures, v_o_machine_ripemd, .ref a_machine_data, .ref a_machine_scriptEnd, .ref a_machine_main, v_a_machine_other, v_a_machine_taken, .int e6, .int e12, .int e13, .int e14, .int e15, .int e7, .null, .int e8, .int e9, .null, .int e10])), (a_machine_scriptEnd, .inl (cy 1, 2, .inl f5))] := hD
          refine lv_if_eq (tgt := 118) hx hb d_K_script_90 (by decide) (fun cx => ?_) (fun cx => ?_)
          · have hf := ifp cx hf
            refine lv_iconst (v := 0) hx hb d_K_script_118 (by decide) ?_
            obtain rfl := Option.some.inj hf
            exact q_rz hx hb hr hlocks hK (hP.sub [0, 3, 4, 2, 5, 1] rfl) (hD.sub [0, 3, 4, 2, 5, 1] (by decide) rfl) hS (isb_n (v := 0) (by decide)) d_K_script_119
          · have hf := ifn cx hf
            refine lv_aload_n hx hb d_K_script_93 rfl (lv_at hl 0 rfl) ?_
            refine va_get (D := D) (ci := 0) (v := .ref o_machine) (C := "CoinKeeper") (T := F_0) (N := 13) hx hb hts i_0 hown hK hP 0 rfl rfl 5 (by decide) (hts _ gw_505) (fun _ h9 => h9) rfl d_K_script_94 ?_
            refine lv_iconst (v := 1) hx hb d_K_script_97 (by decide) ?_
            obtain ⟨v16, e17, e18, e19, e20, hc, hf⟩ := bdp5 hf
            refine q_ai (wr := [(o, .inr (0, [.ref a_row, .int (0 : Int32), v_a_id, v_o_sha, r_signatures, .ref o_machine, v_o_layout, v_o_ledger, v_o_blocks, r_spent, v_o_tip, .int i_takenBytes, .int i_checkedTxs])), (a_machine_main, .inl (cy 1, 204, .inl g_machine_main)), (a_machine_data, .inl (cy 0, 14928, .inl f4)), (a_row, .inl (cy 0, 3000, .inl g_row))]) (va_runV (C := "CoinKeeper$Machine") (As := [.int (1 : Int32)]) (rest := []) ⟨hx, hb, hml, hown, hts⟩ (c_Ma_run l D cy ad fu o_machine v_o_sha r_machine_signatures v_o_machine_ripemd (.ref a_machine_data) (.ref a_machine_main) v_a_machine_other v_a_machine_taken .null .null a_machine_scriptEnd e6 e7 e8 e9 e10 f5 (1 : Int32) e12 e13 e14 e15 _ hc H.size) ⟨q_cB hts gw_984 gw_6 gw_981 hdf_58 ⟨by decide, by decide⟩, hts _ gw_982, hts _ gw_983⟩ (q_preV (q_pre (hP.sub [4, 5] rfl) (hD.sub [4, 5] (by decide) rfl) hK hSt hS (va_free hD hS hA [4, 5] rfl) _) (va_recv hK (hP.sub [4, 5] rfl) (ci := 6) (q0 := 0) rfl rfl)) rfl rfl hl.1 rfl (lv_room (Nat.le_of_ble_eq_true rfl)) d_K_script_98 ⟨Nat.le_of_ble_eq_true rfl, Nat.le_of_ble_eq_true rfl⟩) hP hD hS hA [4, 5] [0, 1, 2, 3] rfl rfl (by decide) (by decide) (fun H locs hP hD hS => ?_)
            clear hc
            have hP : va_P D classes [(o, .inr (0, [.ref a_row, .int (0 : Int32), v_a_id, v_o_sha, r_signatures, .ref o_machine, v_o_layout, v_o_ledger, v_o_blocks, r_spent, v_o_tip, .int i_takenBytes, .int i_checkedTxs])), (a_machine_main, .inl (cy 1, 204, .inl g_machine_main)), (a_machine_data, .inl (cy 0, 14928, .inl f4)), (a_row, .inl (cy 0, 3000, .inl g_row)), (o_machine, .inr (6, [v_o_sha, r_machine_signatures, v_o_machine_ripemd, .ref a_machine_data, .ref a_machine_scriptEnd, .ref a_machine_main, v_a_machine_other, v_a_machine_taken, .int e6, .int e17, .int e18, .int e19, .int e20, .int e7, .null, .int e8, .int e9, .null, .int e10])), (a_machine_scriptEnd, .inl (cy 1, 2, .inl f5))] H := hP
            have hD : va_D A [(o, .inr (0, [.ref a_row, .int (0 : Int32), v_a_id, v_o_sha, r_signatures, .ref o_machine, v_o_layout, v_o_ledger, v_o_blocks, r_spent, v_o_tip, .int i_takenBytes, .int i_checkedTxs])), (a_machine_main, .inl (cy 1, 204, .inl g_machine_main)), (a_machine_data, .inl (cy 0, 14928, .inl f4)), (a_row, .inl (cy 0, 3000, .inl g_row)), (o_machine, .inr (6, [v_o_sha, r_machine_signatures, v_o_machine_ripemd, .ref a_machine_data, .ref a_machine_scriptEnd, .ref a_machine_main, v_a_machine_other, v_a_machine_taken, .int e6, .int e17, .int e18, .int e19, .int e20, .int e7, .null, .int e8, .int e9, .null, .int e10])), (a_machine_scriptEnd, .inl (cy 1, 2, .inl f5))] := hD
            refine lv_if_eq (tgt := 118) hx hb d_K_script_101 (by decide) (fun cx => ?_) (fun cx => ?_)
            · have hf := ifp cx hf
              refine lv_iconst (v := 0) hx hb d_K_script_118 (by decide) ?_
              obtain rfl := Option.some.inj hf
              exact q_rz hx hb hr hlocks hK (hP.sub [0, 3, 4, 2, 5, 1] rfl) (hD.sub [0, 3, 4, 2, 5, 1] (by decide) rfl) hS (isb_n (v := 0) (by decide)) d_K_script_119
            · have hf := ifn cx hf
              refine lv_aload_n hx hb d_K_script_104 rfl (lv_at hl 0 rfl) ?_
              refine va_get (D := D) (ci := 0) (v := .ref o_machine) (C := "CoinKeeper") (T := F_0) (N := 13) hx hb hts i_0 hown hK hP 0 rfl rfl 5 (by decide) (hts _ gw_505) (fun _ h9 => h9) rfl d_K_script_105 ?_
              obtain ⟨v21, hc, hf⟩ := bdp1 hf
              refine q_ai (wr := [(o, .inr (0, [.ref a_row, .int (0 : Int32), v_a_id, v_o_sha, r_signatures, .ref o_machine, v_o_layout, v_o_ledger, v_o_blocks, r_spent, v_o_tip, .int i_takenBytes, .int i_checkedTxs])), (a_machine_data, .inl (cy 0, 14928, .inl f4)), (a_row, .inl (cy 0, 3000, .inl g_row)), (a_machine_scriptEnd, .inl (cy 1, 2, .inl f5))]) (va_runV (C := "CoinKeeper$Machine") (As := []) (rest := []) ⟨hx, hb, hml, hown, hts⟩ (c_Ma_endsTrue l D cy ad fu o_machine v_o_sha r_machine_signatures v_o_machine_ripemd (.ref a_machine_data) (.ref a_machine_scriptEnd) v_a_machine_other v_a_machine_taken .null .null a_machine_main e6 e17 e18 e19 e20 e7 e8 e9 e10 g_machine_main _ hc H.size) ⟨q_cB hts gw_1271 gw_6 gw_1268 hdf_59 ⟨by decide, by decide⟩, hts _ gw_1269, hts _ gw_1270⟩ (q_preV (q_pre (hP.sub [4, 1] rfl) (hD.sub [4, 1] (by decide) rfl) hK hSt hS (va_free hD hS hA [4, 1] rfl) _) (va_recv hK (hP.sub [4, 1] rfl) (ci := 6) (q0 := 0) rfl rfl)) rfl rfl hl.1 rfl (lv_room (Nat.le_of_ble_eq_true rfl)) d_K_script_108 ⟨Nat.le_of_ble_eq_true rfl, Nat.le_of_ble_eq_true rfl⟩) hP hD hS hA [4, 1] [0, 2, 3, 5] rfl rfl (by decide) (by decide) (fun H locs hP hD hS => ?_)
              clear hc
              have hP : va_P D classes [(o, .inr (0, [.ref a_row, .int (0 : Int32), v_a_id, v_o_sha, r_signatures, .ref o_machine, v_o_layout, v_o_ledger, v_o_blocks, r_spent, v_o_tip, .int i_takenBytes, .int i_checkedTxs])), (a_machine_data, .inl (cy 0, 14928, .inl f4)), (a_row, .inl (cy 0, 3000, .inl g_row)), (a_machine_scriptEnd, .inl (cy 1, 2, .inl f5)), (o_machine, .inr (6, [v_o_sha, r_machine_signatures, v_o_machine_ripemd, .ref a_machine_data, .ref a_machine_scriptEnd, .ref a_machine_main, v_a_machine_other, v_a_machine_taken, .int e6, .int e17, .int e18, .int e19, .int e20, .int e7, .null, .int e8, .int e9, .null, .int e10])), (a_machine_main, .inl (cy 1, 204, .inl g_machine_main))] H := hP
              have hD : va_D A [(o, .inr (0, [.ref a_row, .int (0 : Int32), v_a_id, v_o_sha, r_signatures, .ref o_machine, v_o_layout, v_o_ledger, v_o_blocks, r_spent, v_o_tip, .int i_takenBytes, .int i_checkedTxs])), (a_machine_data, .inl (cy 0, 14928, .inl f4)), (a_row, .inl (cy 0, 3000, .inl g_row)), (a_machine_scriptEnd, .inl (cy 1, 2, .inl f5)), (o_machine, .inr (6, [v_o_sha, r_machine_signatures, v_o_machine_ripemd, .ref a_machine_data, .ref a_machine_scriptEnd, .ref a_machine_main, v_a_machine_other, v_a_machine_taken, .int e6, .int e17, .int e18, .int e19, .int e20, .int e7, .null, .int e8, .int e9, .null, .int e10])), (a_machine_main, .inl (cy 1, 204, .inl g_machine_main))] := hD
              refine lv_if_eq (tgt := 118) hx hb d_K_script_111 (by decide) (fun cx => ?_) (fun cx => ?_)
              · have hf := ifp cx hf
                refine lv_iconst (v := 0) hx hb d_K_script_118 (by decide) ?_
                obtain rfl := Option.some.inj hf
                exact q_rz hx hb hr hlocks hK (hP.sub [0, 2, 4, 1, 3, 5] rfl) (hD.sub [0, 2, 4, 1, 3, 5] (by decide) rfl) hS (isb_n (v := 0) (by decide)) d_K_script_119
              · have hf := ifn cx hf
                refine lv_iconst (v := 1) hx hb d_K_script_114 (by decide) ?_
                refine lv_goto (tgt := 119) hx hb d_K_script_115 (by decide) ?_
                obtain rfl := Option.some.inj hf
                exact q_rz hx hb hr hlocks hK (hP.sub [0, 2, 4, 1, 3, 5] rfl) (hD.sub [0, 2, 4, 1, 3, 5] (by decide) rfl) hS (isb_n (v := 1) (by decide)) d_K_script_119
        · have hf := ifn cx hf
          exact wb_K_script_31 (fu := fu) F _ _ _ _ _ _ _ _ _ _ _ _ _ hf _ _ _ hP hD hS (lv_sub hl [] rfl)
theorem c_K_script (l : Launch) (D : va_G) (cy : Nat → ClassId) (ad : Nat → Nat) (fu : Nat) (o : Nat) (v_a_id : Value) (v_o_sha : Value) (r_signatures : Value) (v_o_layout : Value) (v_o_ledger : Value) (v_o_blocks : Value) (r_spent : Value) (v_o_tip : Value) (a_row : Nat) (o_machine : Nat) (r_machine_signatures : Value) (v_o_machine_ripemd : Value) (v_a_machine_other : Value) (v_a_machine_taken : Value) (a_machine_data : Nat) (a_machine_scriptEnd : Nat) (a_machine_main : Nat) (i_takenBytes : Int32) (i_checkedTxs : Int32) (g_row : Nat → Int32) (g_machine_main : Nat → Int32) (a1 : Int32) (u0 : Int32) (u1 : Int32) (u2 : Int32) (u3 : Int32) (u4 : Int32) (u5 : Int32) (u6 : Int32) (u7 : Int32) (u8 : Int32) (u9 : Int32) (u10 : Nat → Int32) (u11 : Nat → Int32) (res : Int32 × Int32 × Int32 × Int32 × Int32 × Int32 × Int32 × Int32 × Int32 × Int32 × Int32 × (Nat → Int32) × (Nat → Int32)) (hf : x_K_script fu i_takenBytes i_checkedTxs g_row g_machine_main a1 u0 u1 u2 u3 u4 u5 u6 u7 u8 u9 u10 u11 = some res) (sz : Nat) : Met l ({ cls := "CoinKeeper", name := "script", desc := "(I)Z" } : Jvm.MethodName) (.code ({ cls := "CoinKeeper", name := "script", desc := "(I)Z" } : Jvm.MethodName) b_K_script 2 (some .boolean) :: gw) rm_K_script (va_Pc [.ref o, .int a1] (Pr D cy ad [(o, .inr (0, [.ref a_row, .int u0, v_a_id, v_o_sha, r_signatures, .ref o_machine, v_o_layout, v_o_ledger, v_o_blocks, r_spent, v_o_tip, .int i_takenBytes, .int i_checkedTxs])), (a_row, .inl (cy 0, 3000, .inl g_row)), (o_machine, .inr (6, [v_o_sha, r_machine_signatures, v_o_machine_ripemd, .ref a_machine_data, .ref a_machine_scriptEnd, .ref a_machine_main, v_a_machine_other, v_a_machine_taken, .int u1, .int u2, .int u3, .int u4, .int u5, .int u6, .null, .int u7, .int u8, .null, .int u9])), (a_machine_data, .inl (cy 0, 14928, .inl u10)), (a_machine_scriptEnd, .inl (cy 1, 2, .inl u11)), (a_machine_main, .inl (cy 1, 204, .inl g_machine_main))] sz)) (q_K_script D cy (va_A [(o, .inr (0, [.ref a_row, .int u0, v_a_id, v_o_sha, r_signatures, .ref o_machine, v_o_layout, v_o_ledger, v_o_blocks, r_spent, v_o_tip, .int i_takenBytes, .int i_checkedTxs])), (a_row, .inl (cy 0, 3000, .inl g_row)), (o_machine, .inr (6, [v_o_sha, r_machine_signatures, v_o_machine_ripemd, .ref a_machine_data, .ref a_machine_scriptEnd, .ref a_machine_main, v_a_machine_other, v_a_machine_taken, .int u1, .int u2, .int u3, .int u4, .int u5, .int u6, .null, .int u7, .int u8, .null, .int u9])), (a_machine_data, .inl (cy 0, 14928, .inl u10)), (a_machine_scriptEnd, .inl (cy 1, 2, .inl u11)), (a_machine_main, .inl (cy 1, 204, .inl g_machine_main))] sz) o v_a_id v_o_sha r_signatures v_o_layout v_o_ledger v_o_blocks r_spent v_o_tip a_row o_machine r_machine_signatures v_o_machine_ripemd v_a_machine_other v_a_machine_taken a_machine_data a_machine_scriptEnd a_machine_main i_takenBytes i_checkedTxs g_row g_machine_main res) 0 0 (va_A [(o, .inr (0, [.ref a_row, .int u0, v_a_id, v_o_sha, r_signatures, .ref o_machine, v_o_layout, v_o_ledger, v_o_blocks, r_spent, v_o_tip, .int i_takenBytes, .int i_checkedTxs])), (a_row, .inl (cy 0, 3000, .inl g_row)), (o_machine, .inr (6, [v_o_sha, r_machine_signatures, v_o_machine_ripemd, .ref a_machine_data, .ref a_machine_scriptEnd, .ref a_machine_main, v_a_machine_other, v_a_machine_taken, .int u1, .int u2, .int u3, .int u4, .int u5, .int u6, .null, .int u7, .int u8, .null, .int u9])), (a_machine_data, .inl (cy 0, 14928, .inl u10)), (a_machine_scriptEnd, .inl (cy 1, 2, .inl u11)), (a_machine_main, .inl (cy 1, 204, .inl g_machine_main))] sz) :=
  q_met (Qc := fun A => q_K_script D cy A o v_a_id v_o_sha r_signatures v_o_layout v_o_ledger v_o_blocks r_spent v_o_tip a_row o_machine r_machine_signatures v_o_machine_ripemd v_a_machine_other v_a_machine_taken a_machine_data a_machine_scriptEnd a_machine_main i_takenBytes i_checkedTxs g_row g_machine_main res) (by decide) rfl rfl (Nat.le_of_ble_eq_true rfl) (fun p e s m below meth c ls F hP hD hS hl => we_K_script (fu := fu) F a1 u0 u1 u2 u3 u4 u5 u6 u7 u8 u9 u10 u11 res hf _ _ _ hP hD hS hl) sz
abbrev b_K_hash : ByteArray := prog_1_method_6_code
theorem d_K_hash_0 : decode b_K_hash 0 = .ok (.iload_n 1, 1) := by decide +kernel
theorem d_K_hash_1 : decode b_K_hash 1 = .ok (.ifCond .lt 9, 3) := by decide +kernel
theorem d_K_hash_4 : decode b_K_hash 4 = .ok (.iload_n 1, 1) := by decide +kernel
theorem d_K_hash_5 : decode b_K_hash 5 = .ok (.bipush 7, 2) := by decide +kernel
theorem d_K_hash_7 : decode b_K_hash 7 = .ok (.if_icmp .le 11, 3) := by decide +kernel
theorem d_K_hash_10 : decode b_K_hash 10 = .ok (.new 90, 3) := by decide +kernel
theorem d_K_hash_13 : decode b_K_hash 13 = .ok (.dup, 1) := by decide +kernel
theorem d_K_hash_14 : decode b_K_hash 14 = .ok (.invokespecial 92, 3) := by decide +kernel
theorem d_K_hash_17 : decode b_K_hash 17 = .ok (.athrow, 1) := by decide +kernel
theorem d_K_hash_18 : decode b_K_hash 18 = .ok (.aload_n 0, 1) := by decide +kernel
theorem d_K_hash_19 : decode b_K_hash 19 = .ok (.getfield 19, 3) := by decide +kernel
theorem d_K_hash_22 : decode b_K_hash 22 = .ok (.aload_n 0, 1) := by decide +kernel
theorem d_K_hash_23 : decode b_K_hash 23 = .ok (.getfield 9, 3) := by decide +kernel
theorem d_K_hash_26 : decode b_K_hash 26 = .ok (.iconst 0, 1) := by decide +kernel
theorem d_K_hash_27 : decode b_K_hash 27 = .ok (.aload_n 0, 1) := by decide +kernel
theorem d_K_hash_28 : decode b_K_hash 28 = .ok (.getfield 79, 3) := by decide +kernel
theorem d_K_hash_31 : decode b_K_hash 31 = .ok (.aload_n 0, 1) := by decide +kernel
theorem d_K_hash_32 : decode b_K_hash 32 = .ok (.getfield 13, 3) := by decide +kernel
theorem d_K_hash_35 : decode b_K_hash 35 = .ok (.iconst 0, 1) := by decide +kernel
theorem d_K_hash_36 : decode b_K_hash 36 = .ok (.invokevirtual 162, 3) := by decide +kernel
theorem d_K_hash_39 : decode b_K_hash 39 = .ok (.aload_n 0, 1) := by decide +kernel
theorem d_K_hash_40 : decode b_K_hash 40 = .ok (.getfield 13, 3) := by decide +kernel
theorem d_K_hash_43 : decode b_K_hash 43 = .ok (.iconst 4, 1) := by decide +kernel
theorem d_K_hash_44 : decode b_K_hash 44 = .ok (.iload_n 1, 1) := by decide +kernel
theorem d_K_hash_45 : decode b_K_hash 45 = .ok (.imul, 1) := by decide +kernel
theorem d_K_hash_46 : decode b_K_hash 46 = .ok (.invokestatic 166, 3) := by decide +kernel
theorem d_K_hash_49 : decode b_K_hash 49 = .ok (.ireturn, 1) := by decide +kernel
abbrev rm_K_hash : Room := { frames := 4, cells := 0, slots := 0, locals := 107 }
abbrev q_K_hash (D : va_G) (cy : Nat → ClassId) (A : Nat → Prop) (o : Nat) (r_signatures : Value) (v_o_machine : Value) (v_o_layout : Value) (v_o_ledger : Value) (v_o_blocks : Value) (r_spent : Value) (v_o_tip : Value) (a_row : Nat) (a_id : Nat) (o_sha : Nat) (a_sha_state : Nat) (a_sha_w : Nat) (a_sha_chunk : Nat) (i_rowLength : Int32) (i_takenBytes : Int32) (i_checkedTxs : Int32) (g_row : Nat → Int32) (res : Int32 × (Nat → Int32) × Int32 × Int64 × (Nat → Int32) × (Nat → Int32) × (Nat → Int32)) : Array Value → State → Outcome → State → Prop := va_Qi (fun r' (_ : Unit) => r' = res.1) (fun _ t => Po D cy A [(o, .inr (0, [.ref a_row, .int i_rowLength, .ref a_id, .ref o_sha, r_signatures, v_o_machine, v_o_layout, v_o_ledger, v_o_blocks, r_spent, v_o_tip, .int i_takenBytes, .int i_checkedTxs])), (a_row, .inl (cy 0, 3000, .inl g_row)), (a_id, .inl (cy 0, 32, .inl res.2.1)), (o_sha, .inr (9, [.ref a_sha_state, .ref a_sha_w, .ref a_sha_chunk, .int res.2.2.1, .long res.2.2.2.1])), (a_sha_state, .inl (cy 1, 8, .inl res.2.2.2.2.1)), (a_sha_w, .inl (cy 1, 64, .inl res.2.2.2.2.2.1)), (a_sha_chunk, .inl (cy 0, 64, .inl res.2.2.2.2.2.2))] t) A
def I_K_hash_10 (p : Program) (l : Launch) (e : Env) (s : State) (m : MethodId) (args : Array Value) (below : List Frame) (meth : Method) (c : Code) (D : va_G) (cy : Nat → ClassId) (A : Nat → Prop) (ad : Nat → Nat) (o : Nat) (r_signatures : Value) (v_o_machine : Value) (v_o_layout : Value) (v_o_ledger : Value) (v_o_blocks : Value) (r_spent : Value) (v_o_tip : Value) (a_row : Nat) (a_id : Nat) (o_sha : Nat) (a_sha_state : Nat) (a_sha_w : Nat) (a_sha_chunk : Nat) (i_rowLength : Int32) (i_takenBytes : Int32) (i_checkedTxs : Int32) (g_row : Nat → Int32) (k : (Nat → Int32) → Int32 → Int64 → (Nat → Int32) → (Nat → Int32) → (Nat → Int32) → Option (Int32 × (Nat → Int32) × Int32 × Int64 × (Nat → Int32) × (Nat → Int32) × (Nat → Int32))) : Prop :=
  ∀ (u0 : Nat → Int32) (u1 : Int32) (u2 : Int64) (u3 : Nat → Int32) (u4 : Nat → Int32) (u5 : Nat → Int32) (res : Int32 × (Nat → Int32) × Int32 × Int64 × (Nat → Int32) × (Nat → Int32) × (Nat → Int32)), k u0 u1 u2 u3 u4 u5 = some res → ∀ (H : Heap) (locs : List Loc) (ls : Array Slot), va_P D classes [(o, .inr (0, [.ref a_row, .int i_rowLength, .ref a_id, .ref o_sha, r_signatures, v_o_machine, v_o_layout, v_o_ledger, v_o_blocks, r_spent, v_o_tip, .int i_takenBytes, .int i_checkedTxs])), (a_row, .inl (cy 0, 3000, .inl g_row)), (a_id, .inl (cy 0, 32, .inl u0)), (o_sha, .inr (9, [.ref a_sha_state, .ref a_sha_w, .ref a_sha_chunk, .int u1, .long u2])), (a_sha_state, .inl (cy 1, 8, .inl u3)), (a_sha_w, .inl (cy 1, 64, .inl u4)), (a_sha_chunk, .inl (cy 0, 64, .inl u5))] H → va_D A [(o, .inr (0, [.ref a_row, .int i_rowLength, .ref a_id, .ref o_sha, r_signatures, v_o_machine, v_o_layout, v_o_ledger, v_o_blocks, r_spent, v_o_tip, .int i_takenBytes, .int i_checkedTxs])), (a_row, .inl (cy 0, 3000, .inl g_row)), (a_id, .inl (cy 0, 32, .inl u0)), (o_sha, .inr (9, [.ref a_sha_state, .ref a_sha_w, .ref a_sha_chunk, .int u1, .long u2])), (a_sha_state, .inl (cy 1, 8, .inl u3)), (a_sha_w, .inl (cy 1, 64, .inl u4)), (a_sha_chunk, .inl (cy 0, 64, .inl u5))] → va_S A s.heap H locs → lv_has ls 2 [] → W p l e rm_K_hash s m args below meth c H locs 0 0 (MQ below (q_K_hash D cy A o r_signatures v_o_machine v_o_layout v_o_ledger v_o_blocks r_spent v_o_tip a_row a_id o_sha a_sha_state a_sha_w a_sha_chunk i_rowLength i_takenBytes i_checkedTxs g_row res) args s 0 0 A) (F0 m 10 ls [])
def I_K_hash_e (p : Program) (l : Launch) (e : Env) (s : State) (m : MethodId) (args : Array Value) (below : List Frame) (meth : Method) (c : Code) (D : va_G) (cy : Nat → ClassId) (A : Nat → Prop) (ad : Nat → Nat) (o : Nat) (r_signatures : Value) (v_o_machine : Value) (v_o_layout : Value) (v_o_ledger : Value) (v_o_blocks : Value) (r_spent : Value) (v_o_tip : Value) (a_row : Nat) (a_id : Nat) (o_sha : Nat) (a_sha_state : Nat) (a_sha_w : Nat) (a_sha_chunk : Nat) (i_rowLength : Int32) (i_takenBytes : Int32) (i_checkedTxs : Int32) (g_row : Nat → Int32) (k : Int32 → (Nat → Int32) → Int32 → Int64 → (Nat → Int32) → (Nat → Int32) → (Nat → Int32) → Option (Int32 × (Nat → Int32) × Int32 × Int64 × (Nat → Int32) × (Nat → Int32) × (Nat → Int32))) : Prop :=
  ∀ (a1 : Int32) (u0 : Nat → Int32) (u1 : Int32) (u2 : Int64) (u3 : Nat → Int32) (u4 : Nat → Int32) (u5 : Nat → Int32) (res : Int32 × (Nat → Int32) × Int32 × Int64 × (Nat → Int32) × (Nat → Int32) × (Nat → Int32)), k a1 u0 u1 u2 u3 u4 u5 = some res → ∀ (H : Heap) (locs : List Loc) (ls : Array Slot), va_P D classes [(o, .inr (0, [.ref a_row, .int i_rowLength, .ref a_id, .ref o_sha, r_signatures, v_o_machine, v_o_layout, v_o_ledger, v_o_blocks, r_spent, v_o_tip, .int i_takenBytes, .int i_checkedTxs])), (a_row, .inl (cy 0, 3000, .inl g_row)), (a_id, .inl (cy 0, 32, .inl u0)), (o_sha, .inr (9, [.ref a_sha_state, .ref a_sha_w, .ref a_sha_chunk, .int u1, .long u2])), (a_sha_state, .inl (cy 1, 8, .inl u3)), (a_sha_w, .inl (cy 1, 64, .inl u4)), (a_sha_chunk, .inl (cy 0, 64, .inl u5))] H → va_D A [(o, .inr (0, [.ref a_row, .int i_rowLength, .ref a_id, .ref o_sha, r_signatures, v_o_machine, v_o_layout, v_o_ledger, v_o_blocks, r_spent, v_o_tip, .int i_takenBytes, .int i_checkedTxs])), (a_row, .inl (cy 0, 3000, .inl g_row)), (a_id, .inl (cy 0, 32, .inl u0)), (o_sha, .inr (9, [.ref a_sha_state, .ref a_sha_w, .ref a_sha_chunk, .int u1, .long u2])), (a_sha_state, .inl (cy 1, 8, .inl u3)), (a_sha_w, .inl (cy 1, 64, .inl u4)), (a_sha_chunk, .inl (cy 0, 64, .inl u5))] → va_S A s.heap H locs → lv_has ls 2 [(0, .ref o), (1, .int a1)] → W p l e rm_K_hash s m args below meth c H locs 0 0 (MQ below (q_K_hash D cy A o r_signatures v_o_machine v_o_layout v_o_ledger v_o_blocks r_spent v_o_tip a_row a_id o_sha a_sha_state a_sha_w a_sha_chunk i_rowLength i_takenBytes i_checkedTxs g_row res) args s 0 0 A) (F0 m 0 ls [])
def xb_K_hash_10 (fu : Nat) (i_rowLength : Int32) (i_takenBytes : Int32) (i_checkedTxs : Int32) (g_row : Nat → Int32) (u0 : Nat → Int32) (u1 : Int32) (u2 : Int64) (u3 : Nat → Int32) (u4 : Nat → Int32) (u5 : Nat → Int32) : Option (Int32 × (Nat → Int32) × Int32 × Int64 × (Nat → Int32) × (Nat → Int32) × (Nat → Int32)) :=
  none
set_option maxHeartbeats 8000000 in
set_option maxRecDepth 100000 in
theorem wb_K_hash_10 {p : Program} {l : Launch} {e : Env} {s : State} {m : MethodId} {args : Array Value} {below : List Frame} {meth : Method} {c : Code} {D : va_G} {cy : Nat → ClassId} {A : Nat → Prop} {ad : Nat → Nat} {o : Nat} {r_signatures : Value} {v_o_machine : Value} {v_o_layout : Value} {v_o_ledger : Value} {v_o_blocks : Value} {r_spent : Value} {v_o_tip : Value} {a_row : Nat} {a_id : Nat} {o_sha : Nat} {a_sha_state : Nat} {a_sha_w : Nat} {a_sha_chunk : Nat} {i_rowLength : Int32} {i_takenBytes : Int32} {i_checkedTxs : Int32} {g_row : Nat → Int32} {fu : Nat} (F : Fx p s m args meth c b_K_hash 2 "CoinKeeper" "hash" (some .int) D cy ad A) : I_K_hash_10 p l e s m args below meth c D cy A ad o r_signatures v_o_machine v_o_layout v_o_ledger v_o_blocks r_spent v_o_tip a_row a_id o_sha a_sha_state a_sha_w a_sha_chunk i_rowLength i_takenBytes i_checkedTxs g_row (xb_K_hash_10 fu i_rowLength i_takenBytes i_checkedTxs g_row) := by
  obtain ⟨hx, hb, hr, hml, hown, hts, hlocks, hK, hA, hSt, hnm, hex⟩ := id F
  intro u0 u1 u2 u3 u4 u5 res hf H locs ls hP hD hS hl
  unfold xb_K_hash_10 at hf
  exact nomatch hf
theorem hdf_60 : ({ cls := "CoinKeeper$Sha256", name := "twice", desc := "([BII[BI)V" } : Jvm.MethodName).cls ≠ "java/lang/invoke/MethodHandle" ∧ ({ cls := "CoinKeeper$Sha256", name := "twice", desc := "([BII[BI)V" } : Jvm.MethodName).cls ≠ "java/lang/invoke/VarHandle" ∧ (parseMethodDescriptor ({ cls := "CoinKeeper$Sha256", name := "twice", desc := "([BII[BI)V" } : Jvm.MethodName).desc).map (fun d => d.parameters.length) = some 5 := by decide +kernel
theorem hdf_61 : ({ cls := "CoinKeeper", name := "word", desc := "([BI)I" } : Jvm.MethodName).cls ≠ "java/lang/invoke/MethodHandle" ∧ ({ cls := "CoinKeeper", name := "word", desc := "([BI)I" } : Jvm.MethodName).cls ≠ "java/lang/invoke/VarHandle" ∧ (parseMethodDescriptor ({ cls := "CoinKeeper", name := "word", desc := "([BI)I" } : Jvm.MethodName).desc).map (fun d => d.parameters.length) = some 2 := by decide +kernel
def x_K_hash (fu : Nat) (i_rowLength : Int32) (i_takenBytes : Int32) (i_checkedTxs : Int32) (g_row : Nat → Int32) (a1 : Int32) (u0 : Nat → Int32) (u1 : Int32) (u2 : Int64) (u3 : Nat → Int32) (u4 : Nat → Int32) (u5 : Nat → Int32) : Option (Int32 × (Nat → Int32) × Int32 × Int64 × (Nat → Int32) × (Nat → Int32) × (Nat → Int32)) :=
  if a1 < 0 then (xb_K_hash_10 fu i_rowLength i_takenBytes i_checkedTxs g_row u0 u1 u2 u3 u4 u5) else (if a1 ≤ (7 : Int32) then (bd6 (x_Sh_twice fu 3000 g_row 32 (0 : Int32) i_rowLength (0 : Int32) u1 u2 u3 u4 u5 u0) fun e1 e2 f3 f4 f5 f6 => bnd ((4 : Int32) * a1) fun v7 => bd1 (x_K_word fu 32 f6 v7) fun v8 => some (v8, f6, e1, e2, f3, f4, f5)) else (xb_K_hash_10 fu i_rowLength i_takenBytes i_checkedTxs g_row u0 u1 u2 u3 u4 u5))
set_option maxHeartbeats 8000000 in
set_option maxRecDepth 100000 in
theorem we_K_hash {p : Program} {l : Launch} {e : Env} {s : State} {m : MethodId} {args : Array Value} {below : List Frame} {meth : Method} {c : Code} {D : va_G} {cy : Nat → ClassId} {A : Nat → Prop} {ad : Nat → Nat} {o : Nat} {r_signatures : Value} {v_o_machine : Value} {v_o_layout : Value} {v_o_ledger : Value} {v_o_blocks : Value} {r_spent : Value} {v_o_tip : Value} {a_row : Nat} {a_id : Nat} {o_sha : Nat} {a_sha_state : Nat} {a_sha_w : Nat} {a_sha_chunk : Nat} {i_rowLength : Int32} {i_takenBytes : Int32} {i_checkedTxs : Int32} {g_row : Nat → Int32} {fu : Nat} (F : Fx p s m args meth c b_K_hash 2 "CoinKeeper" "hash" (some .int) D cy ad A) : I_K_hash_e p l e s m args below meth c D cy A ad o r_signatures v_o_machine v_o_layout v_o_ledger v_o_blocks r_spent v_o_tip a_row a_id o_sha a_sha_state a_sha_w a_sha_chunk i_rowLength i_takenBytes i_checkedTxs g_row (x_K_hash fu i_rowLength i_takenBytes i_checkedTxs g_row) := by
  obtain ⟨hx, hb, hr, hml, hown, hts, hlocks, hK, hA, hSt, hnm, hex⟩ := id F
  intro a1 u0 u1 u2 u3 u4 u5 res hf H locs ls hP hD hS hl
  unfold x_K_hash at hf
  refine lv_iload_n hx hb d_K_hash_0 rfl (lv_at hl 1 rfl) ?_
  refine lv_if_lt (tgt := 10) hx hb d_K_hash_1 (by decide) (fun cx => ?_) (fun cx => ?_)
  · have hf := ifp cx hf
    exact wb_K_hash_10 (fu := fu) F _ _ _ _ _ _ _ hf _ _ _ hP hD hS (lv_sub hl [] rfl)
  · have hf := ifn cx hf
    refine lv_iload_n hx hb d_K_hash_4 rfl (lv_at hl 1 rfl) ?_
    refine lv_bipush (v := 7) hx hb d_K_hash_5 (by decide) ?_
    refine lv_icmp_le (tgt := 18) hx hb d_K_hash_7 (by decide) (fun cx => ?_) (fun cx => ?_)
    · have hf := ifp cx hf
      refine lv_aload_n hx hb d_K_hash_18 rfl (lv_at hl 0 rfl) ?_
      refine va_get (D := D) (ci := 0) (v := .ref o_sha) (C := "CoinKeeper") (T := F_0) (N := 13) hx hb hts i_0 hown hK hP 0 rfl rfl 3 (by decide) (hts _ gw_503) (fun _ h9 => h9) rfl d_K_hash_19 ?_
      refine lv_aload_n hx hb d_K_hash_22 rfl (lv_at hl 0 rfl) ?_
      refine va_get (D := D) (ci := 0) (v := .ref a_row) (C := "CoinKeeper") (T := F_0) (N := 13) hx hb hts i_0 hown hK hP 0 rfl rfl 0 (by decide) (hts _ gw_500) (fun _ h9 => h9) rfl d_K_hash_23 ?_
      refine lv_iconst (v := 0) hx hb d_K_hash_26 (by decide) ?_
      refine lv_aload_n hx hb d_K_hash_27 rfl (lv_at hl 0 rfl) ?_
      refine va_get (D := D) (ci := 0) (v := .int i_rowLength) (C := "CoinKeeper") (T := F_0) (N := 13) hx hb hts i_0 hown hK hP 0 rfl rfl 1 (by decide) (hts _ gw_501) (fun _ h9 => h9) rfl d_K_hash_28 ?_
      refine lv_aload_n hx hb d_K_hash_31 rfl (lv_at hl 0 rfl) ?_
      refine va_get (D := D) (ci := 0) (v := .ref a_id) (C := "CoinKeeper") (T := F_0) (N := 13) hx hb hts i_0 hown hK hP 0 rfl rfl 2 (by decide) (hts _ gw_502) (fun _ h9 => h9) rfl d_K_hash_32 ?_
      refine lv_iconst (v := 0) hx hb d_K_hash_35 (by decide) ?_
      obtain ⟨e1, e2, f3, f4, f5, f6, hc, hf⟩ := bdp6 hf
      refine q_av (wr := [(o, .inr (0, [.ref a_row, .int i_rowLength, .ref a_id, .ref o_sha, r_signatures, v_o_machine, v_o_layout, v_o_ledger, v_o_blocks, r_spent, v_o_tip, .int i_takenBytes, .int i_checkedTxs]))]) (va_runV (C := "CoinKeeper$Sha256") (As := [.ref a_row, .int (0 : Int32), .int i_rowLength, .ref a_id, .int (0 : Int32)]) (rest := []) ⟨hx, hb, hml, hown, hts⟩ (c_Sh_twice l D cy ad fu o_sha a_sha_state a_sha_w a_sha_chunk a_row a_id 3000 g_row 32 (0 : Int32) i_rowLength (0 : Int32) u1 u2 u3 u4 u5 u0 _ hc H.size) ⟨q_cB hts gw_707 gw_2 gw_704 hdf_60 ⟨by decide, by decide⟩, hts _ gw_705, hts _ gw_706⟩ (q_preV (q_pre (hP.sub [3, 4, 5, 6, 1, 2] rfl) (hD.sub [3, 4, 5, 6, 1, 2] (by decide) rfl) hK hSt hS (va_free hD hS hA [3, 4, 5, 6, 1, 2] rfl) _) (va_recv hK (hP.sub [3, 4, 5, 6, 1, 2] rfl) (ci := 9) (q0 := 0) rfl rfl)) rfl rfl hl.1 rfl (lv_room (Nat.le_of_ble_eq_true rfl)) d_K_hash_36 ⟨Nat.le_of_ble_eq_true rfl, Nat.le_of_ble_eq_true rfl⟩) hP hD hS hA [3, 4, 5, 6, 1, 2] [0] rfl rfl (by decide) (by decide) (fun H locs hP hD hS => ?_)
      clear hc
      have hP : va_P D classes [(o, .inr (0, [.ref a_row, .int i_rowLength, .ref a_id, .ref o_sha, r_signatures, v_o_machine, v_o_layout, v_o_ledger, v_o_blocks, r_spent, v_o_tip, .int i_takenBytes, .int i_checkedTxs])), (o_sha, .inr (9, [.ref a_sha_state, .ref a_sha_w, .ref a_sha_chunk, .int e1, .long e2])), (a_sha_state, .inl (cy 1, 8, .inl f3)), (a_sha_w, .inl (cy 1, 64, .inl f4)), (a_sha_chunk, .inl (cy 0, 64, .inl f5)), (a_row, .inl (cy 0, 3000, .inl g_row)), (a_id, .inl (cy 0, 32, .inl f6))] H := hP
      have hD : va_D A [(o, .inr (0, [.ref a_row, .int i_rowLength, .ref a_id, .ref o_sha, r_signatures, v_o_machine, v_o_layout, v_o_ledger, v_o_blocks, r_spent, v_o_tip, .int i_takenBytes, .int i_checkedTxs])), (o_sha, .inr (9, [.ref a_sha_state, .ref a_sha_w, .ref a_sha_chunk, .int e1, .long e2])), (a_sha_state, .inl (cy 1, 8, .inl f3)), (a_sha_w, .inl (cy 1, 64, .inl f4)), (a_sha_chunk, .inl (cy 0, 64, .inl f5)), (a_row, .inl (cy 0, 3000, .inl g_row)), (a_id, .inl (cy 0, 32, .inl f6))] := hD
      refine lv_aload_n hx hb d_K_hash_39 rfl (lv_at hl 0 rfl) ?_
      refine va_get (D := D) (ci := 0) (v := .ref a_id) (C := "CoinKeeper") (T := F_0) (N := 13) hx hb hts i_0 hown hK hP 0 rfl rfl 2 (by decide) (hts _ gw_502) (fun _ h9 => h9) rfl d_K_hash_40 ?_
      refine lv_iconst (v := 4) hx hb d_K_hash_43 (by decide) ?_
      refine lv_iload_n hx hb d_K_hash_44 rfl (lv_at hl 1 rfl) ?_
      refine lv_imul hx hb d_K_hash_45 ?_
      refine lv_topi (fun v7 ev => ?_)
      have hf := bn ev hf
      clear ev
      obtain ⟨v8, hc, hf⟩ := bdp1 hf
      refine q_ai (wr := [(o, .inr (0, [.ref a_row, .int i_rowLength, .ref a_id, .ref o_sha, r_signatures, v_o_machine, v_o_layout, v_o_ledger, v_o_blocks, r_spent, v_o_tip, .int i_takenBytes, .int i_checkedTxs])), (o_sha, .inr (9, [.ref a_sha_state, .ref a_sha_w, .ref a_sha_chunk, .int e1, .long e2])), (a_sha_state, .inl (cy 1, 8, .inl f3)), (a_sha_w, .inl (cy 1, 64, .inl f4)), (a_sha_chunk, .inl (cy 0, 64, .inl f5)), (a_row, .inl (cy 0, 3000, .inl g_row))]) (va_runS (As := [.ref a_id, .int v7]) (rest := []) ⟨hx, hb, hml, hown, hts⟩ (c_K_word l D cy ad fu a_id 32 f6 v7 _ hc H.size) ⟨q_cB hts gw_383 gw_1 gw_747 hdf_61 ⟨by decide, by decide⟩, hts _ gw_382⟩ (q_pre (hP.sub [6] rfl) (hD.sub [6] (by decide) rfl) hK hSt hS (va_free hD hS hA [6] rfl) _) rfl rfl hl.1 rfl (lv_room (Nat.le_of_ble_eq_true rfl)) d_K_hash_46 ⟨Nat.le_of_ble_eq_true rfl, Nat.le_of_ble_eq_true rfl⟩) hP hD hS hA [6] [0, 1, 2, 3, 4, 5] rfl rfl (by decide) (by decide) (fun H locs hP hD hS => ?_)
      clear hc
      have hP : va_P D classes [(o, .inr (0, [.ref a_row, .int i_rowLength, .ref a_id, .ref o_sha, r_signatures, v_o_machine, v_o_layout, v_o_ledger, v_o_blocks, r_spent, v_o_tip, .int i_takenBytes, .int i_checkedTxs])), (o_sha, .inr (9, [.ref a_sha_state, .ref a_sha_w, .ref a_sha_chunk, .int e1, .long e2])), (a_sha_state, .inl (cy 1, 8, .inl f3)), (a_sha_w, .inl (cy 1, 64, .inl f4)), (a_sha_chunk, .inl (cy 0, 64, .inl f5)), (a_row, .inl (cy 0, 3000, .inl g_row)), (a_id, .inl (cy 0, 32, .inl f6))] H := hP
      have hD : va_D A [(o, .inr (0, [.ref a_row, .int i_rowLength, .ref a_id, .ref o_sha, r_signatures, v_o_machine, v_o_layout, v_o_ledger, v_o_blocks, r_spent, v_o_tip, .int i_takenBytes, .int i_checkedTxs])), (o_sha, .inr (9, [.ref a_sha_state, .ref a_sha_w, .ref a_sha_chunk, .int e1, .long e2])), (a_sha_state, .inl (cy 1, 8, .inl f3)), (a_sha_w, .inl (cy 1, 64, .inl f4)), (a_sha_chunk, .inl (cy 0, 64, .inl f5)), (a_row, .inl (cy 0, 3000, .inl g_row)), (a_id, .inl (cy 0, 32, .inl f6))] := hD
      obtain rfl := Option.some.inj hf
      exact q_ri hx hb hr hlocks hK (hP.sub [0, 5, 6, 1, 2, 3, 4] rfl) (hD.sub [0, 5, 6, 1, 2, 3, 4] (by decide) rfl) hS d_K_hash_49
    · have hf := ifn cx hf
      exact wb_K_hash_10 (fu := fu) F _ _ _ _ _ _ _ hf _ _ _ hP hD hS (lv_sub hl [] rfl)
theorem c_K_hash (l : Launch) (D : va_G) (cy : Nat → ClassId) (ad : Nat → Nat) (fu : Nat) (o : Nat) (r_signatures : Value) (v_o_machine : Value) (v_o_layout : Value) (v_o_ledger : Value) (v_o_blocks : Value) (r_spent : Value) (v_o_tip : Value) (a_row : Nat) (a_id : Nat) (o_sha : Nat) (a_sha_state : Nat) (a_sha_w : Nat) (a_sha_chunk : Nat) (i_rowLength : Int32) (i_takenBytes : Int32) (i_checkedTxs : Int32) (g_row : Nat → Int32) (a1 : Int32) (u0 : Nat → Int32) (u1 : Int32) (u2 : Int64) (u3 : Nat → Int32) (u4 : Nat → Int32) (u5 : Nat → Int32) (res : Int32 × (Nat → Int32) × Int32 × Int64 × (Nat → Int32) × (Nat → Int32) × (Nat → Int32)) (hf : x_K_hash fu i_rowLength i_takenBytes i_checkedTxs g_row a1 u0 u1 u2 u3 u4 u5 = some res) (sz : Nat) : Met l ({ cls := "CoinKeeper", name := "hash", desc := "(I)I" } : Jvm.MethodName) (.code ({ cls := "CoinKeeper", name := "hash", desc := "(I)I" } : Jvm.MethodName) b_K_hash 2 (some .int) :: gw) rm_K_hash (va_Pc [.ref o, .int a1] (Pr D cy ad [(o, .inr (0, [.ref a_row, .int i_rowLength, .ref a_id, .ref o_sha, r_signatures, v_o_machine, v_o_layout, v_o_ledger, v_o_blocks, r_spent, v_o_tip, .int i_takenBytes, .int i_checkedTxs])), (a_row, .inl (cy 0, 3000, .inl g_row)), (a_id, .inl (cy 0, 32, .inl u0)), (o_sha, .inr (9, [.ref a_sha_state, .ref a_sha_w, .ref a_sha_chunk, .int u1, .long u2])), (a_sha_state, .inl (cy 1, 8, .inl u3)), (a_sha_w, .inl (cy 1, 64, .inl u4)), (a_sha_chunk, .inl (cy 0, 64, .inl u5))] sz)) (q_K_hash D cy (va_A [(o, .inr (0, [.ref a_row, .int i_rowLength, .ref a_id, .ref o_sha, r_signatures, v_o_machine, v_o_layout, v_o_ledger, v_o_blocks, r_spent, v_o_tip, .int i_takenBytes, .int i_checkedTxs])), (a_row, .inl (cy 0, 3000, .inl g_row)), (a_id, .inl (cy 0, 32, .inl u0)), (o_sha, .inr (9, [.ref a_sha_state, .ref a_sha_w, .ref a_sha_chunk, .int u1, .long u2])), (a_sha_state, .inl (cy 1, 8, .inl u3)), (a_sha_w, .inl (cy 1, 64, .inl u4)), (a_sha_chunk, .inl (cy 0, 64, .inl u5))] sz) o r_signatures v_o_machine v_o_layout v_o_ledger v_o_blocks r_spent v_o_tip a_row a_id o_sha a_sha_state a_sha_w a_sha_chunk i_rowLength i_takenBytes i_checkedTxs g_row res) 0 0 (va_A [(o, .inr (0, [.ref a_row, .int i_rowLength, .ref a_id, .ref o_sha, r_signatures, v_o_machine, v_o_layout, v_o_ledger, v_o_blocks, r_spent, v_o_tip, .int i_takenBytes, .int i_checkedTxs])), (a_row, .inl (cy 0, 3000, .inl g_row)), (a_id, .inl (cy 0, 32, .inl u0)), (o_sha, .inr (9, [.ref a_sha_state, .ref a_sha_w, .ref a_sha_chunk, .int u1, .long u2])), (a_sha_state, .inl (cy 1, 8, .inl u3)), (a_sha_w, .inl (cy 1, 64, .inl u4)), (a_sha_chunk, .inl (cy 0, 64, .inl u5))] sz) :=
  q_met (Qc := fun A => q_K_hash D cy A o r_signatures v_o_machine v_o_layout v_o_ledger v_o_blocks r_spent v_o_tip a_row a_id o_sha a_sha_state a_sha_w a_sha_chunk i_rowLength i_takenBytes i_checkedTxs g_row res) (by decide) rfl rfl (Nat.le_of_ble_eq_true rfl) (fun p e s m below meth c ls F hP hD hS hl => we_K_hash (fu := fu) F a1 u0 u1 u2 u3 u4 u5 res hf _ _ _ hP hD hS hl) sz
abbrev b_Bl_wantedBits : ByteArray := prog_2_method_6_code
theorem d_Bl_wantedBits_0 : decode b_Bl_wantedBits 0 = .ok (.aload_n 0, 1) := by decide +kernel
theorem d_Bl_wantedBits_1 : decode b_Bl_wantedBits 1 = .ok (.getfield 23, 3) := by decide +kernel
theorem d_Bl_wantedBits_4 : decode b_Bl_wantedBits 4 = .ok (.iconst 1, 1) := by decide +kernel
theorem d_Bl_wantedBits_5 : decode b_Bl_wantedBits 5 = .ok (.iadd, 1) := by decide +kernel
theorem d_Bl_wantedBits_6 : decode b_Bl_wantedBits 6 = .ok (.bipush 8, 2) := by decide +kernel
theorem d_Bl_wantedBits_8 : decode b_Bl_wantedBits 8 = .ok (.irem, 1) := by decide +kernel
theorem d_Bl_wantedBits_9 : decode b_Bl_wantedBits 9 = .ok (.ifCond .eq 8, 3) := by decide +kernel
theorem d_Bl_wantedBits_12 : decode b_Bl_wantedBits 12 = .ok (.aload_n 0, 1) := by decide +kernel
theorem d_Bl_wantedBits_13 : decode b_Bl_wantedBits 13 = .ok (.getfield 42, 3) := by decide +kernel
theorem d_Bl_wantedBits_16 : decode b_Bl_wantedBits 16 = .ok (.ireturn, 1) := by decide +kernel
theorem d_Bl_wantedBits_17 : decode b_Bl_wantedBits 17 = .ok (.aload_n 0, 1) := by decide +kernel
theorem d_Bl_wantedBits_18 : decode b_Bl_wantedBits 18 = .ok (.getfield 37, 3) := by decide +kernel
theorem d_Bl_wantedBits_21 : decode b_Bl_wantedBits 21 = .ok (.aload_n 0, 1) := by decide +kernel
theorem d_Bl_wantedBits_22 : decode b_Bl_wantedBits 22 = .ok (.aload_n 0, 1) := by decide +kernel
theorem d_Bl_wantedBits_23 : decode b_Bl_wantedBits 23 = .ok (.getfield 23, 3) := by decide +kernel
theorem d_Bl_wantedBits_26 : decode b_Bl_wantedBits 26 = .ok (.iconst 1, 1) := by decide +kernel
theorem d_Bl_wantedBits_27 : decode b_Bl_wantedBits 27 = .ok (.iadd, 1) := by decide +kernel
theorem d_Bl_wantedBits_28 : decode b_Bl_wantedBits 28 = .ok (.bipush 8, 2) := by decide +kernel
theorem d_Bl_wantedBits_30 : decode b_Bl_wantedBits 30 = .ok (.isub, 1) := by decide +kernel
theorem d_Bl_wantedBits_31 : decode b_Bl_wantedBits 31 = .ok (.invokevirtual 58, 3) := by decide +kernel
theorem d_Bl_wantedBits_34 : decode b_Bl_wantedBits 34 = .ok (.getfield 37, 3) := by decide +kernel
theorem d_Bl_wantedBits_37 : decode b_Bl_wantedBits 37 = .ok (.lsub, 1) := by decide +kernel
theorem d_Bl_wantedBits_38 : decode b_Bl_wantedBits 38 = .ok (.lstore_n 1, 1) := by decide +kernel
theorem d_Bl_wantedBits_39 : decode b_Bl_wantedBits 39 = .ok (.aload_n 0, 1) := by decide +kernel
theorem d_Bl_wantedBits_40 : decode b_Bl_wantedBits 40 = .ok (.getfield 42, 3) := by decide +kernel
theorem d_Bl_wantedBits_43 : decode b_Bl_wantedBits 43 = .ok (.ldc2_w 64, 3) := by decide +kernel
theorem d_Bl_wantedBits_46 : decode b_Bl_wantedBits 46 = .ok (.ldc2_w 66, 3) := by decide +kernel
theorem d_Bl_wantedBits_49 : decode b_Bl_wantedBits 49 = .ok (.lload_n 1, 1) := by decide +kernel
theorem d_Bl_wantedBits_50 : decode b_Bl_wantedBits 50 = .ok (.invokestatic 68, 3) := by decide +kernel
theorem d_Bl_wantedBits_53 : decode b_Bl_wantedBits 53 = .ok (.invokestatic 71, 3) := by decide +kernel
theorem d_Bl_wantedBits_56 : decode b_Bl_wantedBits 56 = .ok (.invokestatic 74, 3) := by decide +kernel
theorem d_Bl_wantedBits_59 : decode b_Bl_wantedBits 59 = .ok (.ireturn, 1) := by decide +kernel
abbrev rm_Bl_wantedBits_y0beforecoins : Room := { frames := 0, cells := 0, slots := 0, locals := 0 }
abbrev q_Bl_wantedBits_y0beforecoins (D : va_G) (cy : Nat → ClassId) (A : Nat → Prop) (o : Nat) (r_raw : Value) (v_a_id : Value) (r_ids : Value) (i_height : Int32) (j_time : Int64) (i_bits : Int32) (j_work : Int64) (i_bad : Int32) (i_valid : Int32) (i_mark : Int32) (res : Int32) : Array Value → State → Outcome → State → Prop := va_Qi (fun r' (_ : Unit) => r' = res) (fun _ t => Po D cy A [(o, .inr (1, [.null, r_raw, v_a_id, r_ids, .int i_height, .long j_time, .int i_bits, .long j_work, .null, .int i_bad, .int i_valid, .int i_mark]))] t) A
def I_Bl_wantedBits_y0beforecoins_e (p : Program) (l : Launch) (e : Env) (s : State) (m : MethodId) (args : Array Value) (below : List Frame) (meth : Method) (c : Code) (D : va_G) (cy : Nat → ClassId) (A : Nat → Prop) (ad : Nat → Nat) (o : Nat) (r_raw : Value) (v_a_id : Value) (r_ids : Value) (i_height : Int32) (j_time : Int64) (i_bits : Int32) (j_work : Int64) (i_bad : Int32) (i_valid : Int32) (i_mark : Int32) (k : Option (Int32)) : Prop :=
  ∀ (res : Int32), k  = some res → ∀ (H : Heap) (locs : List Loc) (ls : Array Slot), va_P D classes [(o, .inr (1, [.null, r_raw, v_a_id, r_ids, .int i_height, .long j_time, .int i_bits, .long j_work, .null, .int i_bad, .int i_valid, .int i_mark]))] H → va_D A [(o, .inr (1, [.null, r_raw, v_a_id, r_ids, .int i_height, .long j_time, .int i_bits, .long j_work, .null, .int i_bad, .int i_valid, .int i_mark]))] → va_S A s.heap H locs → lv_has ls 3 [(0, .ref o)] → W p l e rm_Bl_wantedBits_y0beforecoins s m args below meth c H locs 0 0 (MQ below (q_Bl_wantedBits_y0beforecoins D cy A o r_raw v_a_id r_ids i_height j_time i_bits j_work i_bad i_valid i_mark res) args s 0 0 A) (F0 m 0 ls [])
def x_Bl_wantedBits_y0beforecoins (fu : Nat) (i_height : Int32) (j_time : Int64) (i_bits : Int32) (j_work : Int64) (i_bad : Int32) (i_valid : Int32) (i_mark : Int32) : Option (Int32) :=
  bnd (i_height + (1 : Int32)) fun v1 => if (v1 - v1 / (8 : Int32) * (8 : Int32)) = 0 then (bnd (i_height + (1 : Int32)) fun v2 => bnd (v2 - (8 : Int32)) fun v3 => none) else (some (i_bits))
set_option maxHeartbeats 8000000 in
set_option maxRecDepth 100000 in
theorem we_Bl_wantedBits_y0beforecoins {p : Program} {l : Launch} {e : Env} {s : State} {m : MethodId} {args : Array Value} {below : List Frame} {meth : Method} {c : Code} {D : va_G} {cy : Nat → ClassId} {A : Nat → Prop} {ad : Nat → Nat} {o : Nat} {r_raw : Value} {v_a_id : Value} {r_ids : Value} {i_height : Int32} {j_time : Int64} {i_bits : Int32} {j_work : Int64} {i_bad : Int32} {i_valid : Int32} {i_mark : Int32} {fu : Nat} (F : Fx p s m args meth c b_Bl_wantedBits 3 "CoinKeeper$Block" "wantedBits" (some .int) D cy ad A) : I_Bl_wantedBits_y0beforecoins_e p l e s m args below meth c D cy A ad o r_raw v_a_id r_ids i_height j_time i_bits j_work i_bad i_valid i_mark (x_Bl_wantedBits_y0beforecoins fu i_height j_time i_bits j_work i_bad i_valid i_mark) := by
  obtain ⟨hx, hb, hr, hml, hown, hts, hlocks, hK, hA, hSt, hnm, hex⟩ := id F
  intro  res hf H locs ls hP hD hS hl
  unfold x_Bl_wantedBits_y0beforecoins at hf
  refine lv_aload_n hx hb d_Bl_wantedBits_0 rfl (lv_at hl 0 rfl) ?_
  refine va_get (D := D) (ci := 1) (v := .int i_height) (C := "CoinKeeper$Block") (T := F_1) (N := 12) hx hb hts i_1 hown hK hP 0 rfl rfl 4 (by decide) (hts _ gw_400) (fun _ h9 => h9) rfl d_Bl_wantedBits_1 ?_
  refine lv_iconst (v := 1) hx hb d_Bl_wantedBits_4 (by decide) ?_
  refine lv_iadd hx hb d_Bl_wantedBits_5 ?_
  refine lv_topi (fun v1 ev => ?_)
  have hf := bn ev hf
  clear ev
  refine lv_bipush (v := 8) hx hb d_Bl_wantedBits_6 (by decide) ?_
  refine lv_irem hx hb d_Bl_wantedBits_8 (by decide) ?_
  refine lv_if_eq (tgt := 17) hx hb d_Bl_wantedBits_9 (by decide) (fun cx => ?_) (fun cx => ?_)
  · have hf := ifp cx hf
    refine lv_aload_n hx hb d_Bl_wantedBits_17 rfl (lv_at hl 0 rfl) ?_
    refine va_get (D := D) (ci := 1) (v := .long j_time) (C := "CoinKeeper$Block") (T := F_1) (N := 12) hx hb hts i_1 hown hK hP 0 rfl rfl 5 (by decide) (hts _ gw_402) (fun _ h9 => h9) rfl d_Bl_wantedBits_18 ?_
    refine lv_aload_n hx hb d_Bl_wantedBits_21 rfl (lv_at hl 0 rfl) ?_
    refine lv_aload_n hx hb d_Bl_wantedBits_22 rfl (lv_at hl 0 rfl) ?_
    refine va_get (D := D) (ci := 1) (v := .int i_height) (C := "CoinKeeper$Block") (T := F_1) (N := 12) hx hb hts i_1 hown hK hP 0 rfl rfl 4 (by decide) (hts _ gw_400) (fun _ h9 => h9) rfl d_Bl_wantedBits_23 ?_
    refine lv_iconst (v := 1) hx hb d_Bl_wantedBits_26 (by decide) ?_
    refine lv_iadd hx hb d_Bl_wantedBits_27 ?_
    refine lv_topi (fun v2 ev => ?_)
    have hf := bn ev hf
    clear ev
    refine lv_bipush (v := 8) hx hb d_Bl_wantedBits_28 (by decide) ?_
    refine lv_isub hx hb d_Bl_wantedBits_30 ?_
    refine lv_topi (fun v3 ev => ?_)
    have hf := bn ev hf
    clear ev
    exact nomatch hf
  · have hf := ifn cx hf
    refine lv_aload_n hx hb d_Bl_wantedBits_12 rfl (lv_at hl 0 rfl) ?_
    refine va_get (D := D) (ci := 1) (v := .int i_bits) (C := "CoinKeeper$Block") (T := F_1) (N := 12) hx hb hts i_1 hown hK hP 0 rfl rfl 6 (by decide) (hts _ gw_404) (fun _ h9 => h9) rfl d_Bl_wantedBits_13 ?_
    obtain rfl := Option.some.inj hf
    exact q_ri hx hb hr hlocks hK hP hD hS d_Bl_wantedBits_16
theorem c_Bl_wantedBits_y0beforecoins (l : Launch) (D : va_G) (cy : Nat → ClassId) (ad : Nat → Nat) (fu : Nat) (o : Nat) (r_raw : Value) (v_a_id : Value) (r_ids : Value) (i_height : Int32) (j_time : Int64) (i_bits : Int32) (j_work : Int64) (i_bad : Int32) (i_valid : Int32) (i_mark : Int32) (res : Int32) (hf : x_Bl_wantedBits_y0beforecoins fu i_height j_time i_bits j_work i_bad i_valid i_mark = some res) (sz : Nat) : Met l ({ cls := "CoinKeeper$Block", name := "wantedBits", desc := "()I" } : Jvm.MethodName) (.code ({ cls := "CoinKeeper$Block", name := "wantedBits", desc := "()I" } : Jvm.MethodName) b_Bl_wantedBits 3 (some .int) :: gw) rm_Bl_wantedBits_y0beforecoins (va_Pc [.ref o] (Pr D cy ad [(o, .inr (1, [.null, r_raw, v_a_id, r_ids, .int i_height, .long j_time, .int i_bits, .long j_work, .null, .int i_bad, .int i_valid, .int i_mark]))] sz)) (q_Bl_wantedBits_y0beforecoins D cy (va_A [(o, .inr (1, [.null, r_raw, v_a_id, r_ids, .int i_height, .long j_time, .int i_bits, .long j_work, .null, .int i_bad, .int i_valid, .int i_mark]))] sz) o r_raw v_a_id r_ids i_height j_time i_bits j_work i_bad i_valid i_mark res) 0 0 (va_A [(o, .inr (1, [.null, r_raw, v_a_id, r_ids, .int i_height, .long j_time, .int i_bits, .long j_work, .null, .int i_bad, .int i_valid, .int i_mark]))] sz) :=
  q_met (Qc := fun A => q_Bl_wantedBits_y0beforecoins D cy A o r_raw v_a_id r_ids i_height j_time i_bits j_work i_bad i_valid i_mark res) (by decide) rfl rfl (Nat.le_of_ble_eq_true rfl) (fun p e s m below meth c ls F hP hD hS hl => we_Bl_wantedBits_y0beforecoins (fu := fu) F  res hf _ _ _ hP hD hS hl) sz
abbrev b_K_tip : ByteArray := prog_1_method_7_code
theorem d_K_tip_0 : decode b_K_tip 0 = .ok (.iload_n 1, 1) := by decide +kernel
theorem d_K_tip_1 : decode b_K_tip 1 = .ok (.ifCond .lt 9, 3) := by decide +kernel
theorem d_K_tip_4 : decode b_K_tip 4 = .ok (.iload_n 1, 1) := by decide +kernel
theorem d_K_tip_5 : decode b_K_tip 5 = .ok (.bipush 11, 2) := by decide +kernel
theorem d_K_tip_7 : decode b_K_tip 7 = .ok (.if_icmp .le 11, 3) := by decide +kernel
theorem d_K_tip_10 : decode b_K_tip 10 = .ok (.new 90, 3) := by decide +kernel
theorem d_K_tip_13 : decode b_K_tip 13 = .ok (.dup, 1) := by decide +kernel
theorem d_K_tip_14 : decode b_K_tip 14 = .ok (.invokespecial 92, 3) := by decide +kernel
theorem d_K_tip_17 : decode b_K_tip 17 = .ok (.athrow, 1) := by decide +kernel
theorem d_K_tip_18 : decode b_K_tip 18 = .ok (.iload_n 1, 1) := by decide +kernel
theorem d_K_tip_19 : decode b_K_tip 19 = .ok (.bipush 8, 2) := by decide +kernel
theorem d_K_tip_21 : decode b_K_tip 21 = .ok (.if_icmp .ge 17, 3) := by decide +kernel
theorem d_K_tip_24 : decode b_K_tip 24 = .ok (.aload_n 0, 1) := by decide +kernel
theorem d_K_tip_25 : decode b_K_tip 25 = .ok (.getfield 71, 3) := by decide +kernel
theorem d_K_tip_28 : decode b_K_tip 28 = .ok (.getfield 170, 3) := by decide +kernel
theorem d_K_tip_31 : decode b_K_tip 31 = .ok (.iconst 4, 1) := by decide +kernel
theorem d_K_tip_32 : decode b_K_tip 32 = .ok (.iload_n 1, 1) := by decide +kernel
theorem d_K_tip_33 : decode b_K_tip 33 = .ok (.imul, 1) := by decide +kernel
theorem d_K_tip_34 : decode b_K_tip 34 = .ok (.invokestatic 166, 3) := by decide +kernel
theorem d_K_tip_37 : decode b_K_tip 37 = .ok (.ireturn, 1) := by decide +kernel
theorem d_K_tip_38 : decode b_K_tip 38 = .ok (.iload_n 1, 1) := by decide +kernel
theorem d_K_tip_39 : decode b_K_tip 39 = .ok (.bipush 8, 2) := by decide +kernel
theorem d_K_tip_41 : decode b_K_tip 41 = .ok (.if_icmp .ne 11, 3) := by decide +kernel
theorem d_K_tip_44 : decode b_K_tip 44 = .ok (.aload_n 0, 1) := by decide +kernel
theorem d_K_tip_45 : decode b_K_tip 45 = .ok (.getfield 71, 3) := by decide +kernel
theorem d_K_tip_48 : decode b_K_tip 48 = .ok (.getfield 123, 3) := by decide +kernel
theorem d_K_tip_51 : decode b_K_tip 51 = .ok (.ireturn, 1) := by decide +kernel
theorem d_K_tip_52 : decode b_K_tip 52 = .ok (.iload_n 1, 1) := by decide +kernel
theorem d_K_tip_53 : decode b_K_tip 53 = .ok (.bipush 9, 2) := by decide +kernel
theorem d_K_tip_55 : decode b_K_tip 55 = .ok (.if_icmp .ne 12, 3) := by decide +kernel
theorem d_K_tip_58 : decode b_K_tip 58 = .ok (.aload_n 0, 1) := by decide +kernel
theorem d_K_tip_59 : decode b_K_tip 59 = .ok (.getfield 71, 3) := by decide +kernel
theorem d_K_tip_62 : decode b_K_tip 62 = .ok (.getfield 171, 3) := by decide +kernel
theorem d_K_tip_65 : decode b_K_tip 65 = .ok (.l2i, 1) := by decide +kernel
theorem d_K_tip_66 : decode b_K_tip 66 = .ok (.ireturn, 1) := by decide +kernel
theorem d_K_tip_67 : decode b_K_tip 67 = .ok (.iload_n 1, 1) := by decide +kernel
theorem d_K_tip_68 : decode b_K_tip 68 = .ok (.bipush 10, 2) := by decide +kernel
theorem d_K_tip_70 : decode b_K_tip 70 = .ok (.if_icmp .ne 13, 3) := by decide +kernel
theorem d_K_tip_73 : decode b_K_tip 73 = .ok (.aload_n 0, 1) := by decide +kernel
theorem d_K_tip_74 : decode b_K_tip 74 = .ok (.getfield 71, 3) := by decide +kernel
theorem d_K_tip_77 : decode b_K_tip 77 = .ok (.getfield 174, 3) := by decide +kernel
theorem d_K_tip_80 : decode b_K_tip 80 = .ok (.goto 10, 3) := by decide +kernel
theorem d_K_tip_83 : decode b_K_tip 83 = .ok (.aload_n 0, 1) := by decide +kernel
theorem d_K_tip_84 : decode b_K_tip 84 = .ok (.getfield 71, 3) := by decide +kernel
theorem d_K_tip_87 : decode b_K_tip 87 = .ok (.invokevirtual 177, 3) := by decide +kernel
theorem d_K_tip_90 : decode b_K_tip 90 = .ok (.ireturn, 1) := by decide +kernel
abbrev rm_K_tip : Room := { frames := 1, cells := 0, slots := 0, locals := 22 }
abbrev q_K_tip (D : va_G) (cy : Nat → ClassId) (A : Nat → Prop) (o : Nat) (v_a_row : Value) (v_a_id : Value) (v_o_sha : Value) (r_signatures : Value) (v_o_machine : Value) (v_o_layout : Value) (v_o_ledger : Value) (v_o_blocks : Value) (r_spent : Value) (o_tip : Nat) (r_tip_raw : Value) (r_tip_ids : Value) (a_tip_id : Nat) (i_rowLength : Int32) (i_takenBytes : Int32) (i_checkedTxs : Int32) (i_tip_height : Int32) (j_tip_time : Int64) (i_tip_bits : Int32) (j_tip_work : Int64) (i_tip_bad : Int32) (i_tip_valid : Int32) (i_tip_mark : Int32) (g_tip_id : Nat → Int32) (res : Int32) : Array Value → State → Outcome → State → Prop := va_Qi (fun r' (_ : Unit) => r' = res) (fun _ t => Po D cy A [(o, .inr (0, [v_a_row, .int i_rowLength, v_a_id, v_o_sha, r_signatures, v_o_machine, v_o_layout, v_o_ledger, v_o_blocks, r_spent, .ref o_tip, .int i_takenBytes, .int i_checkedTxs])), (o_tip, .inr (1, [.null, r_tip_raw, .ref a_tip_id, r_tip_ids, .int i_tip_height, .long j_tip_time, .int i_tip_bits, .long j_tip_work, .null, .int i_tip_bad, .int i_tip_valid, .int i_tip_mark])), (a_tip_id, .inl (cy 0, 32, .inl g_tip_id))] t) A
def I_K_tip_10 (p : Program) (l : Launch) (e : Env) (s : State) (m : MethodId) (args : Array Value) (below : List Frame) (meth : Method) (c : Code) (D : va_G) (cy : Nat → ClassId) (A : Nat → Prop) (ad : Nat → Nat) (o : Nat) (v_a_row : Value) (v_a_id : Value) (v_o_sha : Value) (r_signatures : Value) (v_o_machine : Value) (v_o_layout : Value) (v_o_ledger : Value) (v_o_blocks : Value) (r_spent : Value) (o_tip : Nat) (r_tip_raw : Value) (r_tip_ids : Value) (a_tip_id : Nat) (i_rowLength : Int32) (i_takenBytes : Int32) (i_checkedTxs : Int32) (i_tip_height : Int32) (j_tip_time : Int64) (i_tip_bits : Int32) (j_tip_work : Int64) (i_tip_bad : Int32) (i_tip_valid : Int32) (i_tip_mark : Int32) (g_tip_id : Nat → Int32) (k : Option (Int32)) : Prop :=
  ∀ (res : Int32), k  = some res → ∀ (H : Heap) (locs : List Loc) (ls : Array Slot), va_P D classes [(o, .inr (0, [v_a_row, .int i_rowLength, v_a_id, v_o_sha, r_signatures, v_o_machine, v_o_layout, v_o_ledger, v_o_blocks, r_spent, .ref o_tip, .int i_takenBytes, .int i_checkedTxs])), (o_tip, .inr (1, [.null, r_tip_raw, .ref a_tip_id, r_tip_ids, .int i_tip_height, .long j_tip_time, .int i_tip_bits, .long j_tip_work, .null, .int i_tip_bad, .int i_tip_valid, .int i_tip_mark])), (a_tip_id, .inl (cy 0, 32, .inl g_tip_id))] H → va_D A [(o, .inr (0, [v_a_row, .int i_rowLength, v_a_id, v_o_sha, r_signatures, v_o_machine, v_o_layout, v_o_ledger, v_o_blocks, r_spent, .ref o_tip, .int i_takenBytes, .int i_checkedTxs])), (o_tip, .inr (1, [.null, r_tip_raw, .ref a_tip_id, r_tip_ids, .int i_tip_height, .long j_tip_time, .int i_tip_bits, .long j_tip_work, .null, .int i_tip_bad, .int i_tip_valid, .int i_tip_mark])), (a_tip_id, .inl (cy 0, 32, .inl g_tip_id))] → va_S A s.heap H locs → lv_has ls 2 [] → W p l e rm_K_tip s m args below meth c H locs 0 0 (MQ below (q_K_tip D cy A o v_a_row v_a_id v_o_sha r_signatures v_o_machine v_o_layout v_o_ledger v_o_blocks r_spent o_tip r_tip_raw r_tip_ids a_tip_id i_rowLength i_takenBytes i_checkedTxs i_tip_height j_tip_time i_tip_bits j_tip_work i_tip_bad i_tip_valid i_tip_mark g_tip_id res) args s 0 0 A) (F0 m 10 ls [])
def I_K_tip_e (p : Program) (l : Launch) (e : Env) (s : State) (m : MethodId) (args : Array Value) (below : List Frame) (meth : Method) (c : Code) (D : va_G) (cy : Nat → ClassId) (A : Nat → Prop) (ad : Nat → Nat) (o : Nat) (v_a_row : Value) (v_a_id : Value) (v_o_sha : Value) (r_signatures : Value) (v_o_machine : Value) (v_o_layout : Value) (v_o_ledger : Value) (v_o_blocks : Value) (r_spent : Value) (o_tip : Nat) (r_tip_raw : Value) (r_tip_ids : Value) (a_tip_id : Nat) (i_rowLength : Int32) (i_takenBytes : Int32) (i_checkedTxs : Int32) (i_tip_height : Int32) (j_tip_time : Int64) (i_tip_bits : Int32) (j_tip_work : Int64) (i_tip_bad : Int32) (i_tip_valid : Int32) (i_tip_mark : Int32) (g_tip_id : Nat → Int32) (k : Int32 → Option (Int32)) : Prop :=
  ∀ (a1 : Int32) (res : Int32), k a1 = some res → ∀ (H : Heap) (locs : List Loc) (ls : Array Slot), va_P D classes [(o, .inr (0, [v_a_row, .int i_rowLength, v_a_id, v_o_sha, r_signatures, v_o_machine, v_o_layout, v_o_ledger, v_o_blocks, r_spent, .ref o_tip, .int i_takenBytes, .int i_checkedTxs])), (o_tip, .inr (1, [.null, r_tip_raw, .ref a_tip_id, r_tip_ids, .int i_tip_height, .long j_tip_time, .int i_tip_bits, .long j_tip_work, .null, .int i_tip_bad, .int i_tip_valid, .int i_tip_mark])), (a_tip_id, .inl (cy 0, 32, .inl g_tip_id))] H → va_D A [(o, .inr (0, [v_a_row, .int i_rowLength, v_a_id, v_o_sha, r_signatures, v_o_machine, v_o_layout, v_o_ledger, v_o_blocks, r_spent, .ref o_tip, .int i_takenBytes, .int i_checkedTxs])), (o_tip, .inr (1, [.null, r_tip_raw, .ref a_tip_id, r_tip_ids, .int i_tip_height, .long j_tip_time, .int i_tip_bits, .long j_tip_work, .null, .int i_tip_bad, .int i_tip_valid, .int i_tip_mark])), (a_tip_id, .inl (cy 0, 32, .inl g_tip_id))] → va_S A s.heap H locs → lv_has ls 2 [(0, .ref o), (1, .int a1)] → W p l e rm_K_tip s m args below meth c H locs 0 0 (MQ below (q_K_tip D cy A o v_a_row v_a_id v_o_sha r_signatures v_o_machine v_o_layout v_o_ledger v_o_blocks r_spent o_tip r_tip_raw r_tip_ids a_tip_id i_rowLength i_takenBytes i_checkedTxs i_tip_height j_tip_time i_tip_bits j_tip_work i_tip_bad i_tip_valid i_tip_mark g_tip_id res) args s 0 0 A) (F0 m 0 ls [])
def xb_K_tip_10 (fu : Nat) (i_rowLength : Int32) (i_takenBytes : Int32) (i_checkedTxs : Int32) (i_tip_height : Int32) (j_tip_time : Int64) (i_tip_bits : Int32) (j_tip_work : Int64) (i_tip_bad : Int32) (i_tip_valid : Int32) (i_tip_mark : Int32) (g_tip_id : Nat → Int32) : Option (Int32) :=
  none
set_option maxHeartbeats 8000000 in
set_option maxRecDepth 100000 in
theorem wb_K_tip_10 {p : Program} {l : Launch} {e : Env} {s : State} {m : MethodId} {args : Array Value} {below : List Frame} {meth : Method} {c : Code} {D : va_G} {cy : Nat → ClassId} {A : Nat → Prop} {ad : Nat → Nat} {o : Nat} {v_a_row : Value} {v_a_id : Value} {v_o_sha : Value} {r_signatures : Value} {v_o_machine : Value} {v_o_layout : Value} {v_o_ledger : Value} {v_o_blocks : Value} {r_spent : Value} {o_tip : Nat} {r_tip_raw : Value} {r_tip_ids : Value} {a_tip_id : Nat} {i_rowLength : Int32} {i_takenBytes : Int32} {i_checkedTxs : Int32} {i_tip_height : Int32} {j_tip_time : Int64} {i_tip_bits : Int32} {j_tip_work : Int64} {i_tip_bad : Int32} {i_tip_valid : Int32} {i_tip_mark : Int32} {g_tip_id : Nat → Int32} {fu : Nat} (F : Fx p s m args meth c b_K_tip 2 "CoinKeeper" "tip" (some .int) D cy ad A) : I_K_tip_10 p l e s m args below meth c D cy A ad o v_a_row v_a_id v_o_sha r_signatures v_o_machine v_o_layout v_o_ledger v_o_blocks r_spent o_tip r_tip_raw r_tip_ids a_tip_id i_rowLength i_takenBytes i_checkedTxs i_tip_height j_tip_time i_tip_bits j_tip_work i_tip_bad i_tip_valid i_tip_mark g_tip_id (xb_K_tip_10 fu i_rowLength i_takenBytes i_checkedTxs i_tip_height j_tip_time i_tip_bits j_tip_work i_tip_bad i_tip_valid i_tip_mark g_tip_id) := by
  obtain ⟨hx, hb, hr, hml, hown, hts, hlocks, hK, hA, hSt, hnm, hex⟩ := id F
  intro  res hf H locs ls hP hD hS hl
  unfold xb_K_tip_10 at hf
  exact nomatch hf
theorem hdf_62 : ({ cls := "CoinKeeper$Block", name := "wantedBits", desc := "()I" } : Jvm.MethodName).cls ≠ "java/lang/invoke/MethodHandle" ∧ ({ cls := "CoinKeeper$Block", name := "wantedBits", desc := "()I" } : Jvm.MethodName).cls ≠ "java/lang/invoke/VarHandle" ∧ (parseMethodDescriptor ({ cls := "CoinKeeper$Block", name := "wantedBits", desc := "()I" } : Jvm.MethodName).desc).map (fun d => d.parameters.length) = some 0 := by decide +kernel
def x_K_tip (fu : Nat) (i_rowLength : Int32) (i_takenBytes : Int32) (i_checkedTxs : Int32) (i_tip_height : Int32) (j_tip_time : Int64) (i_tip_bits : Int32) (j_tip_work : Int64) (i_tip_bad : Int32) (i_tip_valid : Int32) (i_tip_mark : Int32) (g_tip_id : Nat → Int32) (a1 : Int32) : Option (Int32) :=
  if a1 < 0 then (xb_K_tip_10 fu i_rowLength i_takenBytes i_checkedTxs i_tip_height j_tip_time i_tip_bits j_tip_work i_tip_bad i_tip_valid i_tip_mark g_tip_id ) else (if a1 ≤ (11 : Int32) then (if (8 : Int32) ≤ a1 then (if a1 = (8 : Int32) then (some (i_tip_height)) else (if a1 = (9 : Int32) then (bnd (j_tip_time.toInt32) fun v2 => some (v2)) else (if a1 = (10 : Int32) then (some (i_tip_bits)) else (bd1 (x_Bl_wantedBits_y0beforecoins fu i_tip_height j_tip_time i_tip_bits j_tip_work i_tip_bad i_tip_valid i_tip_mark) fun v1 => some (v1))))) else (bnd ((4 : Int32) * a1) fun v3 => bd1 (x_K_word fu 32 g_tip_id v3) fun v4 => some (v4))) else (xb_K_tip_10 fu i_rowLength i_takenBytes i_checkedTxs i_tip_height j_tip_time i_tip_bits j_tip_work i_tip_bad i_tip_valid i_tip_mark g_tip_id ))
set_option maxHeartbeats 8000000 in
set_option maxRecDepth 100000 in
theorem we_K_tip {p : Program} {l : Launch} {e : Env} {s : State} {m : MethodId} {args : Array Value} {below : List Frame} {meth : Method} {c : Code} {D : va_G} {cy : Nat → ClassId} {A : Nat → Prop} {ad : Nat → Nat} {o : Nat} {v_a_row : Value} {v_a_id : Value} {v_o_sha : Value} {r_signatures : Value} {v_o_machine : Value} {v_o_layout : Value} {v_o_ledger : Value} {v_o_blocks : Value} {r_spent : Value} {o_tip : Nat} {r_tip_raw : Value} {r_tip_ids : Value} {a_tip_id : Nat} {i_rowLength : Int32} {i_takenBytes : Int32} {i_checkedTxs : Int32} {i_tip_height : Int32} {j_tip_time : Int64} {i_tip_bits : Int32} {j_tip_work : Int64} {i_tip_bad : Int32} {i_tip_valid : Int32} {i_tip_mark : Int32} {g_tip_id : Nat → Int32} {fu : Nat} (F : Fx p s m args meth c b_K_tip 2 "CoinKeeper" "tip" (some .int) D cy ad A) : I_K_tip_e p l e s m args below meth c D cy A ad o v_a_row v_a_id v_o_sha r_signatures v_o_machine v_o_layout v_o_ledger v_o_blocks r_spent o_tip r_tip_raw r_tip_ids a_tip_id i_rowLength i_takenBytes i_checkedTxs i_tip_height j_tip_time i_tip_bits j_tip_work i_tip_bad i_tip_valid i_tip_mark g_tip_id (x_K_tip fu i_rowLength i_takenBytes i_checkedTxs i_tip_height j_tip_time i_tip_bits j_tip_work i_tip_bad i_tip_valid i_tip_mark g_tip_id) := by
  obtain ⟨hx, hb, hr, hml, hown, hts, hlocks, hK, hA, hSt, hnm, hex⟩ := id F
  intro a1 res hf H locs ls hP hD hS hl
  unfold x_K_tip at hf
  refine lv_iload_n hx hb d_K_tip_0 rfl (lv_at hl 1 rfl) ?_
  refine lv_if_lt (tgt := 10) hx hb d_K_tip_1 (by decide) (fun cx => ?_) (fun cx => ?_)
  · have hf := ifp cx hf
    exact wb_K_tip_10 (fu := fu) F _ hf _ _ _ hP hD hS (lv_sub hl [] rfl)
  · have hf := ifn cx hf
    refine lv_iload_n hx hb d_K_tip_4 rfl (lv_at hl 1 rfl) ?_
    refine lv_bipush (v := 11) hx hb d_K_tip_5 (by decide) ?_
    refine lv_icmp_le (tgt := 18) hx hb d_K_tip_7 (by decide) (fun cx => ?_) (fun cx => ?_)
    · have hf := ifp cx hf
      refine lv_iload_n hx hb d_K_tip_18 rfl (lv_at hl 1 rfl) ?_
      refine lv_bipush (v := 8) hx hb d_K_tip_19 (by decide) ?_
      refine lv_icmp_ge (tgt := 38) hx hb d_K_tip_21 (by decide) (fun cx => ?_) (fun cx => ?_)
      · have hf := ifp cx hf
        refine lv_iload_n hx hb d_K_tip_38 rfl (lv_at hl 1 rfl) ?_
        refine lv_bipush (v := 8) hx hb d_K_tip_39 (by decide) ?_
        refine lv_icmp_ne (tgt := 52) hx hb d_K_tip_41 (by decide) (fun cx => ?_) (fun cx => ?_)
        · have hf := ifn cx hf
          refine lv_iload_n hx hb d_K_tip_52 rfl (lv_at hl 1 rfl) ?_
          refine lv_bipush (v := 9) hx hb d_K_tip_53 (by decide) ?_
          refine lv_icmp_ne (tgt := 67) hx hb d_K_tip_55 (by decide) (fun cx => ?_) (fun cx => ?_)
          · have hf := ifn cx hf
            refine lv_iload_n hx hb d_K_tip_67 rfl (lv_at hl 1 rfl) ?_
            refine lv_bipush (v := 10) hx hb d_K_tip_68 (by decide) ?_
            refine lv_icmp_ne (tgt := 83) hx hb d_K_tip_70 (by decide) (fun cx => ?_) (fun cx => ?_)
            · have hf := ifn cx hf
              refine lv_aload_n hx hb d_K_tip_83 rfl (lv_at hl 0 rfl) ?_
              refine va_get (D := D) (ci := 0) (v := .ref o_tip) (C := "CoinKeeper") (T := F_0) (N := 13) hx hb hts i_0 hown hK hP 0 rfl rfl 10 (by decide) (hts _ gw_510) (fun _ h9 => h9) rfl d_K_tip_84 ?_
              obtain ⟨v1, hc, hf⟩ := bdp1 hf
              refine q_ai (wr := [(o, .inr (0, [v_a_row, .int i_rowLength, v_a_id, v_o_sha, r_signatures, v_o_machine, v_o_layout, v_o_ledger, v_o_blocks, r_spent, .ref o_tip, .int i_takenBytes, .int i_checkedTxs])), (a_tip_id, .inl (cy 0, 32, .inl g_tip_id))]) (va_runV (C := "CoinKeeper$Block") (As := []) (rest := []) ⟨hx, hb, hml, hown, hts⟩ (c_Bl_wantedBits_y0beforecoins l D cy ad fu o_tip r_tip_raw (.ref a_tip_id) r_tip_ids i_tip_height j_tip_time i_tip_bits j_tip_work i_tip_bad i_tip_valid i_tip_mark _ hc H.size) ⟨q_cB hts gw_751 gw_13 gw_748 hdf_62 ⟨by decide, by decide⟩, hts _ gw_749, hts _ gw_750⟩ (q_preV (q_pre (hP.sub [1] rfl) (hD.sub [1] (by decide) rfl) hK hSt hS (va_free hD hS hA [1] rfl) _) (va_recv hK (hP.sub [1] rfl) (ci := 1) (q0 := 0) rfl rfl)) rfl rfl hl.1 rfl (lv_room (Nat.le_of_ble_eq_true rfl)) d_K_tip_87 ⟨Nat.le_of_ble_eq_true rfl, Nat.le_of_ble_eq_true rfl⟩) hP hD hS hA [1] [0, 2] rfl rfl (by decide) (by decide) (fun H locs hP hD hS => ?_)
              clear hc
              have hP : va_P D classes [(o, .inr (0, [v_a_row, .int i_rowLength, v_a_id, v_o_sha, r_signatures, v_o_machine, v_o_layout, v_o_ledger, v_o_blocks, r_spent, .ref o_tip, .int i_takenBytes, .int i_checkedTxs])), (a_tip_id, .inl (cy 0, 32, .inl g_tip_id)), (o_tip, .inr (1, [.null, r_tip_raw, .ref a_tip_id, r_tip_ids, .int i_tip_height, .long j_tip_time, .int i_tip_bits, .long j_tip_work, .null, .int i_tip_bad, .int i_tip_valid, .int i_tip_mark]))] H := hP
              have hD : va_D A [(o, .inr (0, [v_a_row, .int i_rowLength, v_a_id, v_o_sha, r_signatures, v_o_machine, v_o_layout, v_o_ledger, v_o_blocks, r_spent, .ref o_tip, .int i_takenBytes, .int i_checkedTxs])), (a_tip_id, .inl (cy 0, 32, .inl g_tip_id)), (o_tip, .inr (1, [.null, r_tip_raw, .ref a_tip_id, r_tip_ids, .int i_tip_height, .long j_tip_time, .int i_tip_bits, .long j_tip_work, .null, .int i_tip_bad, .int i_tip_valid, .int i_tip_mark]))] := hD
              obtain rfl := Option.some.inj hf
              exact q_ri hx hb hr hlocks hK (hP.sub [0, 2, 1] rfl) (hD.sub [0, 2, 1] (by decide) rfl) hS d_K_tip_90
            · have hf := ifp cx hf
              refine lv_aload_n hx hb d_K_tip_73 rfl (lv_at hl 0 rfl) ?_
              refine va_get (D := D) (ci := 0) (v := .ref o_tip) (C := "CoinKeeper") (T := F_0) (N := 13) hx hb hts i_0 hown hK hP 0 rfl rfl 10 (by decide) (hts _ gw_510) (fun _ h9 => h9) rfl d_K_tip_74 ?_
              refine va_get (D := D) (ci := 1) (v := .int i_tip_bits) (C := "CoinKeeper$Block") (T := F_1) (N := 12) hx hb hts i_1 hown hK hP 1 rfl rfl 6 (by decide) (hts _ gw_405) (fun _ h9 => h9) rfl d_K_tip_77 ?_
              refine lv_goto (tgt := 90) hx hb d_K_tip_80 (by decide) ?_
              obtain rfl := Option.some.inj hf
              exact q_ri hx hb hr hlocks hK hP hD hS d_K_tip_90
          · have hf := ifp cx hf
            refine lv_aload_n hx hb d_K_tip_58 rfl (lv_at hl 0 rfl) ?_
            refine va_get (D := D) (ci := 0) (v := .ref o_tip) (C := "CoinKeeper") (T := F_0) (N := 13) hx hb hts i_0 hown hK hP 0 rfl rfl 10 (by decide) (hts _ gw_510) (fun _ h9 => h9) rfl d_K_tip_59 ?_
            refine va_get (D := D) (ci := 1) (v := .long j_tip_time) (C := "CoinKeeper$Block") (T := F_1) (N := 12) hx hb hts i_1 hown hK hP 1 rfl rfl 5 (by decide) (hts _ gw_403) (fun _ h9 => h9) rfl d_K_tip_62 ?_
            refine lv_l2i hx hb d_K_tip_65 rfl ?_
            refine lv_topi (fun v2 ev => ?_)
            have hf := bn ev hf
            clear ev
            obtain rfl := Option.some.inj hf
            exact q_ri hx hb hr hlocks hK hP hD hS d_K_tip_66
        · have hf := ifp cx hf
          refine lv_aload_n hx hb d_K_tip_44 rfl (lv_at hl 0 rfl) ?_
          refine va_get (D := D) (ci := 0) (v := .ref o_tip) (C := "CoinKeeper") (T := F_0) (N := 13) hx hb hts i_0 hown hK hP 0 rfl rfl 10 (by decide) (hts _ gw_510) (fun _ h9 => h9) rfl d_K_tip_45 ?_
          refine va_get (D := D) (ci := 1) (v := .int i_tip_height) (C := "CoinKeeper$Block") (T := F_1) (N := 12) hx hb hts i_1 hown hK hP 1 rfl rfl 4 (by decide) (hts _ gw_401) (fun _ h9 => h9) rfl d_K_tip_48 ?_
          obtain rfl := Option.some.inj hf
          exact q_ri hx hb hr hlocks hK hP hD hS d_K_tip_51
      · have hf := ifn cx hf
        refine lv_aload_n hx hb d_K_tip_24 rfl (lv_at hl 0 rfl) ?_
        refine va_get (D := D) (ci := 0) (v := .ref o_tip) (C := "CoinKeeper") (T := F_0) (N := 13) hx hb hts i_0 hown hK hP 0 rfl rfl 10 (by decide) (hts _ gw_510) (fun _ h9 => h9) rfl d_K_tip_25 ?_
        refine va_get (D := D) (ci := 1) (v := .ref a_tip_id) (C := "CoinKeeper$Block") (T := F_1) (N := 12) hx hb hts i_1 hown hK hP 1 rfl rfl 2 (by decide) (hts _ gw_396) (fun _ h9 => h9) rfl d_K_tip_28 ?_
        refine lv_iconst (v := 4) hx hb d_K_tip_31 (by decide) ?_
        refine lv_iload_n hx hb d_K_tip_32 rfl (lv_at hl 1 rfl) ?_
        refine lv_imul hx hb d_K_tip_33 ?_
        refine lv_topi (fun v3 ev => ?_)
        have hf := bn ev hf
        clear ev
        obtain ⟨v4, hc, hf⟩ := bdp1 hf
        refine q_ai (wr := [(o, .inr (0, [v_a_row, .int i_rowLength, v_a_id, v_o_sha, r_signatures, v_o_machine, v_o_layout, v_o_ledger, v_o_blocks, r_spent, .ref o_tip, .int i_takenBytes, .int i_checkedTxs])), (o_tip, .inr (1, [.null, r_tip_raw, .ref a_tip_id, r_tip_ids, .int i_tip_height, .long j_tip_time, .int i_tip_bits, .long j_tip_work, .null, .int i_tip_bad, .int i_tip_valid, .int i_tip_mark]))]) (va_runS (As := [.ref a_tip_id, .int v3]) (rest := []) ⟨hx, hb, hml, hown, hts⟩ (c_K_word l D cy ad fu a_tip_id 32 g_tip_id v3 _ hc H.size) ⟨q_cB hts gw_383 gw_1 gw_747 hdf_61 ⟨by decide, by decide⟩, hts _ gw_382⟩ (q_pre (hP.sub [2] rfl) (hD.sub [2] (by decide) rfl) hK hSt hS (va_free hD hS hA [2] rfl) _) rfl rfl hl.1 rfl (lv_room (Nat.le_of_ble_eq_true rfl)) d_K_tip_34 ⟨Nat.le_of_ble_eq_true rfl, Nat.le_of_ble_eq_true rfl⟩) hP hD hS hA [2] [0, 1] rfl rfl (by decide) (by decide) (fun H locs hP hD hS => ?_)
        clear hc
        have hP : va_P D classes [(o, .inr (0, [v_a_row, .int i_rowLength, v_a_id, v_o_sha, r_signatures, v_o_machine, v_o_layout, v_o_ledger, v_o_blocks, r_spent, .ref o_tip, .int i_takenBytes, .int i_checkedTxs])), (o_tip, .inr (1, [.null, r_tip_raw, .ref a_tip_id, r_tip_ids, .int i_tip_height, .long j_tip_time, .int i_tip_bits, .long j_tip_work, .null, .int i_tip_bad, .int i_tip_valid, .int i_tip_mark])), (a_tip_id, .inl (cy 0, 32, .inl g_tip_id))] H := hP
        have hD : va_D A [(o, .inr (0, [v_a_row, .int i_rowLength, v_a_id, v_o_sha, r_signatures, v_o_machine, v_o_layout, v_o_ledger, v_o_blocks, r_spent, .ref o_tip, .int i_takenBytes, .int i_checkedTxs])), (o_tip, .inr (1, [.null, r_tip_raw, .ref a_tip_id, r_tip_ids, .int i_tip_height, .long j_tip_time, .int i_tip_bits, .long j_tip_work, .null, .int i_tip_bad, .int i_tip_valid, .int i_tip_mark])), (a_tip_id, .inl (cy 0, 32, .inl g_tip_id))] := hD
        obtain rfl := Option.some.inj hf
        exact q_ri hx hb hr hlocks hK hP hD hS d_K_tip_37
    · have hf := ifn cx hf
      exact wb_K_tip_10 (fu := fu) F _ hf _ _ _ hP hD hS (lv_sub hl [] rfl)
theorem c_K_tip (l : Launch) (D : va_G) (cy : Nat → ClassId) (ad : Nat → Nat) (fu : Nat) (o : Nat) (v_a_row : Value) (v_a_id : Value) (v_o_sha : Value) (r_signatures : Value) (v_o_machine : Value) (v_o_layout : Value) (v_o_ledger : Value) (v_o_blocks : Value) (r_spent : Value) (o_tip : Nat) (r_tip_raw : Value) (r_tip_ids : Value) (a_tip_id : Nat) (i_rowLength : Int32) (i_takenBytes : Int32) (i_checkedTxs : Int32) (i_tip_height : Int32) (j_tip_time : Int64) (i_tip_bits : Int32) (j_tip_work : Int64) (i_tip_bad : Int32) (i_tip_valid : Int32) (i_tip_mark : Int32) (g_tip_id : Nat → Int32) (a1 : Int32) (res : Int32) (hf : x_K_tip fu i_rowLength i_takenBytes i_checkedTxs i_tip_height j_tip_time i_tip_bits j_tip_work i_tip_bad i_tip_valid i_tip_mark g_tip_id a1 = some res) (sz : Nat) : Met l ({ cls := "CoinKeeper", name := "tip", desc := "(I)I" } : Jvm.MethodName) (.code ({ cls := "CoinKeeper", name := "tip", desc := "(I)I" } : Jvm.MethodName) b_K_tip 2 (some .int) :: gw) rm_K_tip (va_Pc [.ref o, .int a1] (Pr D cy ad [(o, .inr (0, [v_a_row, .int i_rowLength, v_a_id, v_o_sha, r_signatures, v_o_machine, v_o_layout, v_o_ledger, v_o_blocks, r_spent, .ref o_tip, .int i_takenBytes, .int i_checkedTxs])), (o_tip, .inr (1, [.null, r_tip_raw, .ref a_tip_id, r_tip_ids, .int i_tip_height, .long j_tip_time, .int i_tip_bits, .long j_tip_work, .null, .int i_tip_bad, .int i_tip_valid, .int i_tip_mark])), (a_tip_id, .inl (cy 0, 32, .inl g_tip_id))] sz)) (q_K_tip D cy (va_A [(o, .inr (0, [v_a_row, .int i_rowLength, v_a_id, v_o_sha, r_signatures, v_o_machine, v_o_layout, v_o_ledger, v_o_blocks, r_spent, .ref o_tip, .int i_takenBytes, .int i_checkedTxs])), (o_tip, .inr (1, [.null, r_tip_raw, .ref a_tip_id, r_tip_ids, .int i_tip_height, .long j_tip_time, .int i_tip_bits, .long j_tip_work, .null, .int i_tip_bad, .int i_tip_valid, .int i_tip_mark])), (a_tip_id, .inl (cy 0, 32, .inl g_tip_id))] sz) o v_a_row v_a_id v_o_sha r_signatures v_o_machine v_o_layout v_o_ledger v_o_blocks r_spent o_tip r_tip_raw r_tip_ids a_tip_id i_rowLength i_takenBytes i_checkedTxs i_tip_height j_tip_time i_tip_bits j_tip_work i_tip_bad i_tip_valid i_tip_mark g_tip_id res) 0 0 (va_A [(o, .inr (0, [v_a_row, .int i_rowLength, v_a_id, v_o_sha, r_signatures, v_o_machine, v_o_layout, v_o_ledger, v_o_blocks, r_spent, .ref o_tip, .int i_takenBytes, .int i_checkedTxs])), (o_tip, .inr (1, [.null, r_tip_raw, .ref a_tip_id, r_tip_ids, .int i_tip_height, .long j_tip_time, .int i_tip_bits, .long j_tip_work, .null, .int i_tip_bad, .int i_tip_valid, .int i_tip_mark])), (a_tip_id, .inl (cy 0, 32, .inl g_tip_id))] sz) :=
  q_met (Qc := fun A => q_K_tip D cy A o v_a_row v_a_id v_o_sha r_signatures v_o_machine v_o_layout v_o_ledger v_o_blocks r_spent o_tip r_tip_raw r_tip_ids a_tip_id i_rowLength i_takenBytes i_checkedTxs i_tip_height j_tip_time i_tip_bits j_tip_work i_tip_bad i_tip_valid i_tip_mark g_tip_id res) (by decide) rfl rfl (Nat.le_of_ble_eq_true rfl) (fun p e s m below meth c ls F hP hD hS hl => we_K_tip (fu := fu) F a1 res hf _ _ _ hP hD hS hl) sz
abbrev rm_Al_size_y0S : Room := { frames := 0, cells := 0, slots := 0, locals := 0 }
abbrev q_Al_size_y0S (D : va_G) (cy : Nat → ClassId) (A : Nat → Prop) (ad : Nat → Nat) (o : Nat) (i_size : Int32) (i_modCount : Int32) (res : Int32) : Array Value → State → Outcome → State → Prop := va_Qi (fun r' (_ : Unit) => r' = res) (fun _ t => Po D cy A [(o, .inr (11, [.ref (ad 26), .int i_size, .int i_modCount]))] t) A
def I_Al_size_y0S_e (p : Program) (l : Launch) (e : Env) (s : State) (m : MethodId) (args : Array Value) (below : List Frame) (meth : Method) (c : Code) (D : va_G) (cy : Nat → ClassId) (A : Nat → Prop) (ad : Nat → Nat) (o : Nat) (i_size : Int32) (i_modCount : Int32) (k : Option (Int32)) : Prop :=
  ∀ (res : Int32), k  = some res → ∀ (H : Heap) (locs : List Loc) (ls : Array Slot), va_P D classes [(o, .inr (11, [.ref (ad 26), .int i_size, .int i_modCount]))] H → va_D A [(o, .inr (11, [.ref (ad 26), .int i_size, .int i_modCount]))] → va_S A s.heap H locs → lv_has ls 1 [(0, .ref o)] → W p l e rm_Al_size_y0S s m args below meth c H locs 0 0 (MQ below (q_Al_size_y0S D cy A ad o i_size i_modCount res) args s 0 0 A) (F0 m 0 ls [])
def x_Al_size_y0S (fu : Nat) (i_size : Int32) (i_modCount : Int32) : Option (Int32) :=
  some (i_size)
set_option maxHeartbeats 8000000 in
set_option maxRecDepth 100000 in
theorem we_Al_size_y0S {p : Program} {l : Launch} {e : Env} {s : State} {m : MethodId} {args : Array Value} {below : List Frame} {meth : Method} {c : Code} {D : va_G} {cy : Nat → ClassId} {A : Nat → Prop} {ad : Nat → Nat} {o : Nat} {i_size : Int32} {i_modCount : Int32} {fu : Nat} (F : Fx p s m args meth c b_Al_size 1 "java/util/ArrayList" "size" (some .int) D cy ad A) : I_Al_size_y0S_e p l e s m args below meth c D cy A ad o i_size i_modCount (x_Al_size_y0S fu i_size i_modCount) := by
  obtain ⟨hx, hb, hr, hml, hown, hts, hlocks, hK, hA, hSt, hnm, hex⟩ := id F
  intro  res hf H locs ls hP hD hS hl
  unfold x_Al_size_y0S at hf
  refine lv_aload_n hx hb d_Al_size_0 rfl (lv_at hl 0 rfl) ?_
  refine va_get (D := D) (ci := 11) (v := .int i_size) (C := "java/util/ArrayList") (T := F_11) (N := 3) hx hb hts i_11 hown hK hP 0 rfl rfl 1 (by decide) (hts _ gw_352) (fun _ h9 => h9) rfl d_Al_size_1 ?_
  obtain rfl := Option.some.inj hf
  exact q_ri hx hb hr hlocks hK hP hD hS d_Al_size_4
theorem c_Al_size_y0S (l : Launch) (D : va_G) (cy : Nat → ClassId) (ad : Nat → Nat) (fu : Nat) (o : Nat) (i_size : Int32) (i_modCount : Int32) (res : Int32) (hf : x_Al_size_y0S fu i_size i_modCount = some res) (sz : Nat) : Met l ({ cls := "java/util/ArrayList", name := "size", desc := "()I" } : Jvm.MethodName) (.code ({ cls := "java/util/ArrayList", name := "size", desc := "()I" } : Jvm.MethodName) b_Al_size 1 (some .int) :: gw) rm_Al_size_y0S (va_Pc [.ref o] (Pr D cy ad [(o, .inr (11, [.ref (ad 26), .int i_size, .int i_modCount]))] sz)) (q_Al_size_y0S D cy (va_A [(o, .inr (11, [.ref (ad 26), .int i_size, .int i_modCount]))] sz) ad o i_size i_modCount res) 0 0 (va_A [(o, .inr (11, [.ref (ad 26), .int i_size, .int i_modCount]))] sz) :=
  q_met (Qc := fun A => q_Al_size_y0S D cy A ad o i_size i_modCount res) (by decide) rfl rfl (Nat.le_of_ble_eq_true rfl) (fun p e s m below meth c ls F hP hD hS hl => we_Al_size_y0S (fu := fu) F  res hf _ _ _ hP hD hS hl) sz
abbrev b_Pq_checkIndex : ByteArray := prog_37_method_11_code
theorem d_Pq_checkIndex_0 : decode b_Pq_checkIndex 0 = .ok (.iload_n 0, 1) := by decide +kernel
theorem d_Pq_checkIndex_1 : decode b_Pq_checkIndex 1 = .ok (.ifCond .lt 8, 3) := by decide +kernel
theorem d_Pq_checkIndex_4 : decode b_Pq_checkIndex 4 = .ok (.iload_n 0, 1) := by decide +kernel
theorem d_Pq_checkIndex_5 : decode b_Pq_checkIndex 5 = .ok (.iload_n 1, 1) := by decide +kernel
theorem d_Pq_checkIndex_6 : decode b_Pq_checkIndex 6 = .ok (.if_icmp .lt 10, 3) := by decide +kernel
theorem d_Pq_checkIndex_9 : decode b_Pq_checkIndex 9 = .ok (.aload_n 2, 1) := by decide +kernel
theorem d_Pq_checkIndex_10 : decode b_Pq_checkIndex 10 = .ok (.iload_n 0, 1) := by decide +kernel
theorem d_Pq_checkIndex_11 : decode b_Pq_checkIndex 11 = .ok (.iload_n 1, 1) := by decide +kernel
theorem d_Pq_checkIndex_12 : decode b_Pq_checkIndex 12 = .ok (.invokestatic 95, 3) := by decide +kernel
theorem d_Pq_checkIndex_15 : decode b_Pq_checkIndex 15 = .ok (.athrow, 1) := by decide +kernel
theorem d_Pq_checkIndex_16 : decode b_Pq_checkIndex 16 = .ok (.iload_n 0, 1) := by decide +kernel
theorem d_Pq_checkIndex_17 : decode b_Pq_checkIndex 17 = .ok (.ireturn, 1) := by decide +kernel
abbrev rm_Pq_checkIndex_z2 : Room := { frames := 0, cells := 0, slots := 0, locals := 0 }
abbrev q_Pq_checkIndex_z2 (D : va_G) (cy : Nat → ClassId) (A : Nat → Prop) (res : Int32) : Array Value → State → Outcome → State → Prop := va_Qi (fun r' (_ : Unit) => r' = res) (fun _ t => Po D cy A [] t) A
def I_Pq_checkIndex_z2_9 (p : Program) (l : Launch) (e : Env) (s : State) (m : MethodId) (args : Array Value) (below : List Frame) (meth : Method) (c : Code) (D : va_G) (cy : Nat → ClassId) (A : Nat → Prop) (ad : Nat → Nat) (k : Int32 → Int32 → Option (Int32)) : Prop :=
  ∀ (x0 : Int32) (x1 : Int32) (res : Int32), k x0 x1 = some res → ∀ (H : Heap) (locs : List Loc) (ls : Array Slot), va_P D classes [] H → va_D A [] → va_S A s.heap H locs → lv_has ls 3 [(0, .int x0), (1, .int x1), (2, .null)] → W p l e rm_Pq_checkIndex_z2 s m args below meth c H locs 0 0 (MQ below (q_Pq_checkIndex_z2 D cy A res) args s 0 0 A) (F0 m 9 ls [])
def I_Pq_checkIndex_z2_e (p : Program) (l : Launch) (e : Env) (s : State) (m : MethodId) (args : Array Value) (below : List Frame) (meth : Method) (c : Code) (D : va_G) (cy : Nat → ClassId) (A : Nat → Prop) (ad : Nat → Nat) (k : Int32 → Int32 → Option (Int32)) : Prop :=
  ∀ (a0 : Int32) (a1 : Int32) (res : Int32), k a0 a1 = some res → ∀ (H : Heap) (locs : List Loc) (ls : Array Slot), va_P D classes [] H → va_D A [] → va_S A s.heap H locs → lv_has ls 3 [(0, .int a0), (1, .int a1), (2, .null)] → W p l e rm_Pq_checkIndex_z2 s m args below meth c H locs 0 0 (MQ below (q_Pq_checkIndex_z2 D cy A res) args s 0 0 A) (F0 m 0 ls [])
def xb_Pq_checkIndex_z2_9 (fu : Nat) (x0 : Int32) (x1 : Int32) : Option (Int32) :=
  none
set_option maxHeartbeats 8000000 in
set_option maxRecDepth 100000 in
theorem wb_Pq_checkIndex_z2_9 {p : Program} {l : Launch} {e : Env} {s : State} {m : MethodId} {args : Array Value} {below : List Frame} {meth : Method} {c : Code} {D : va_G} {cy : Nat → ClassId} {A : Nat → Prop} {ad : Nat → Nat} {fu : Nat} (F : Fx p s m args meth c b_Pq_checkIndex 3 "jdk/internal/util/Preconditions" "checkIndex" (some .int) D cy ad A) : I_Pq_checkIndex_z2_9 p l e s m args below meth c D cy A ad (xb_Pq_checkIndex_z2_9 fu) := by
  obtain ⟨hx, hb, hr, hml, hown, hts, hlocks, hK, hA, hSt, hnm, hex⟩ := id F
  intro x0 x1 res hf H locs ls hP hD hS hl
  unfold xb_Pq_checkIndex_z2_9 at hf
  refine lv_aload_nN hx hb d_Pq_checkIndex_9 rfl (lv_at hl 2 rfl) ?_
  refine lv_iload_n hx hb d_Pq_checkIndex_10 rfl (lv_at hl 0 rfl) ?_
  refine lv_iload_n hx hb d_Pq_checkIndex_11 rfl (lv_at hl 1 rfl) ?_
  exact nomatch hf
def x_Pq_checkIndex_z2 (fu : Nat) (a0 : Int32) (a1 : Int32) : Option (Int32) :=
  if a0 < 0 then (xb_Pq_checkIndex_z2_9 fu a0 a1) else (if a0 < a1 then (some (a0)) else (xb_Pq_checkIndex_z2_9 fu a0 a1))
set_option maxHeartbeats 8000000 in
set_option maxRecDepth 100000 in
theorem we_Pq_checkIndex_z2 {p : Program} {l : Launch} {e : Env} {s : State} {m : MethodId} {args : Array Value} {below : List Frame} {meth : Method} {c : Code} {D : va_G} {cy : Nat → ClassId} {A : Nat → Prop} {ad : Nat → Nat} {fu : Nat} (F : Fx p s m args meth c b_Pq_checkIndex 3 "jdk/internal/util/Preconditions" "checkIndex" (some .int) D cy ad A) : I_Pq_checkIndex_z2_e p l e s m args below meth c D cy A ad (x_Pq_checkIndex_z2 fu) := by
  obtain ⟨hx, hb, hr, hml, hown, hts, hlocks, hK, hA, hSt, hnm, hex⟩ := id F
  intro a0 a1 res hf H locs ls hP hD hS hl
  unfold x_Pq_checkIndex_z2 at hf
  refine lv_iload_n hx hb d_Pq_checkIndex_0 rfl (lv_at hl 0 rfl) ?_
  refine lv_if_lt (tgt := 9) hx hb d_Pq_checkIndex_1 (by decide) (fun cx => ?_) (fun cx => ?_)
  · have hf := ifp cx hf
    exact wb_Pq_checkIndex_z2_9 (fu := fu) F _ _ _ hf _ _ _ hP hD hS (lv_sub hl [0, 1, 2] rfl)
  · have hf := ifn cx hf
    refine lv_iload_n hx hb d_Pq_checkIndex_4 rfl (lv_at hl 0 rfl) ?_
    refine lv_iload_n hx hb d_Pq_checkIndex_5 rfl (lv_at hl 1 rfl) ?_
    refine lv_icmp_lt (tgt := 16) hx hb d_Pq_checkIndex_6 (by decide) (fun cx => ?_) (fun cx => ?_)
    · have hf := ifp cx hf
      refine lv_iload_n hx hb d_Pq_checkIndex_16 rfl (lv_at hl 0 rfl) ?_
      obtain rfl := Option.some.inj hf
      exact q_ri hx hb hr hlocks hK hP hD hS d_Pq_checkIndex_17
    · have hf := ifn cx hf
      exact wb_Pq_checkIndex_z2_9 (fu := fu) F _ _ _ hf _ _ _ hP hD hS (lv_sub hl [0, 1, 2] rfl)
theorem c_Pq_checkIndex_z2 (l : Launch) (D : va_G) (cy : Nat → ClassId) (ad : Nat → Nat) (fu : Nat) (a0 : Int32) (a1 : Int32) (res : Int32) (hf : x_Pq_checkIndex_z2 fu a0 a1 = some res) (sz : Nat) : Met l ({ cls := "jdk/internal/util/Preconditions", name := "checkIndex", desc := "(IILjava/util/function/BiFunction;)I" } : Jvm.MethodName) (.code ({ cls := "jdk/internal/util/Preconditions", name := "checkIndex", desc := "(IILjava/util/function/BiFunction;)I" } : Jvm.MethodName) b_Pq_checkIndex 3 (some .int) :: gw) rm_Pq_checkIndex_z2 (va_Pc [.int a0, .int a1, .null] (Pr D cy ad [] sz)) (q_Pq_checkIndex_z2 D cy (va_A [] sz) res) 0 0 (va_A [] sz) :=
  q_met (Qc := fun A => q_Pq_checkIndex_z2 D cy A res) (by decide) rfl rfl (Nat.le_of_ble_eq_true rfl) (fun p e s m below meth c ls F hP hD hS hl => we_Pq_checkIndex_z2 (fu := fu) F a0 a1 res hf _ _ _ hP hD hS hl) sz
abbrev b_Ob_checkIndex : ByteArray := prog_33_method_17_code
theorem d_Ob_checkIndex_0 : decode b_Ob_checkIndex 0 = .ok (.iload_n 0, 1) := by decide +kernel
theorem d_Ob_checkIndex_1 : decode b_Ob_checkIndex 1 = .ok (.iload_n 1, 1) := by decide +kernel
theorem d_Ob_checkIndex_2 : decode b_Ob_checkIndex 2 = .ok (.aconst_null, 1) := by decide +kernel
theorem d_Ob_checkIndex_3 : decode b_Ob_checkIndex 3 = .ok (.invokestatic 105, 3) := by decide +kernel
theorem d_Ob_checkIndex_6 : decode b_Ob_checkIndex 6 = .ok (.ireturn, 1) := by decide +kernel
abbrev rm_Ob_checkIndex : Room := { frames := 1, cells := 0, slots := 0, locals := 22 }
abbrev q_Ob_checkIndex (D : va_G) (cy : Nat → ClassId) (A : Nat → Prop) (res : Int32) : Array Value → State → Outcome → State → Prop := va_Qi (fun r' (_ : Unit) => r' = res) (fun _ t => Po D cy A [] t) A
def I_Ob_checkIndex_e (p : Program) (l : Launch) (e : Env) (s : State) (m : MethodId) (args : Array Value) (below : List Frame) (meth : Method) (c : Code) (D : va_G) (cy : Nat → ClassId) (A : Nat → Prop) (ad : Nat → Nat) (k : Int32 → Int32 → Option (Int32)) : Prop :=
  ∀ (a0 : Int32) (a1 : Int32) (res : Int32), k a0 a1 = some res → ∀ (H : Heap) (locs : List Loc) (ls : Array Slot), va_P D classes [] H → va_D A [] → va_S A s.heap H locs → lv_has ls 2 [(0, .int a0), (1, .int a1)] → W p l e rm_Ob_checkIndex s m args below meth c H locs 0 0 (MQ below (q_Ob_checkIndex D cy A res) args s 0 0 A) (F0 m 0 ls [])
theorem hdf_63 : ({ cls := "jdk/internal/util/Preconditions", name := "checkIndex", desc := "(IILjava/util/function/BiFunction;)I" } : Jvm.MethodName).cls ≠ "java/lang/invoke/MethodHandle" ∧ ({ cls := "jdk/internal/util/Preconditions", name := "checkIndex", desc := "(IILjava/util/function/BiFunction;)I" } : Jvm.MethodName).cls ≠ "java/lang/invoke/VarHandle" ∧ (parseMethodDescriptor ({ cls := "jdk/internal/util/Preconditions", name := "checkIndex", desc := "(IILjava/util/function/BiFunction;)I" } : Jvm.MethodName).desc).map (fun d => d.parameters.length) = some 3 := by decide +kernel
def x_Ob_checkIndex (fu : Nat) (a0 : Int32) (a1 : Int32) : Option (Int32) :=
  bd1 (x_Pq_checkIndex_z2 fu a0 a1) fun v1 => some (v1)
set_option maxHeartbeats 8000000 in
set_option maxRecDepth 100000 in
theorem we_Ob_checkIndex {p : Program} {l : Launch} {e : Env} {s : State} {m : MethodId} {args : Array Value} {below : List Frame} {meth : Method} {c : Code} {D : va_G} {cy : Nat → ClassId} {A : Nat → Prop} {ad : Nat → Nat} {fu : Nat} (F : Fx p s m args meth c b_Ob_checkIndex 2 "java/util/Objects" "checkIndex" (some .int) D cy ad A) : I_Ob_checkIndex_e p l e s m args below meth c D cy A ad (x_Ob_checkIndex fu) := by
  obtain ⟨hx, hb, hr, hml, hown, hts, hlocks, hK, hA, hSt, hnm, hex⟩ := id F
  intro a0 a1 res hf H locs ls hP hD hS hl
  unfold x_Ob_checkIndex at hf
  refine lv_iload_n hx hb d_Ob_checkIndex_0 rfl (lv_at hl 0 rfl) ?_
  refine lv_iload_n hx hb d_Ob_checkIndex_1 rfl (lv_at hl 1 rfl) ?_
  refine lv_null hx hb d_Ob_checkIndex_2 ?_
  obtain ⟨v1, hc, hf⟩ := bdp1 hf
  refine q_ai (wr := []) (va_runS (As := [.int a0, .int a1, .null]) (rest := []) ⟨hx, hb, hml, hown, hts⟩ (c_Pq_checkIndex_z2 l D cy ad fu a0 a1 _ hc H.size) ⟨q_cB hts gw_561 gw_26 gw_559 hdf_63 ⟨by decide, by decide⟩, hts _ gw_560⟩ (q_pre (hP.sub [] rfl) (hD.sub [] (by decide) rfl) hK hSt hS (va_free hD hS hA [] rfl) _) rfl rfl hl.1 rfl (lv_room (Nat.le_of_ble_eq_true rfl)) d_Ob_checkIndex_3 ⟨Nat.le_of_ble_eq_true rfl, Nat.le_of_ble_eq_true rfl⟩) hP hD hS hA [] [] rfl rfl (by decide) (by decide) (fun H locs hP hD hS => ?_)
  clear hc
  have hP : va_P D classes [] H := hP
  have hD : va_D A [] := hD
  obtain rfl := Option.some.inj hf
  exact q_ri hx hb hr hlocks hK hP hD hS d_Ob_checkIndex_6
theorem c_Ob_checkIndex (l : Launch) (D : va_G) (cy : Nat → ClassId) (ad : Nat → Nat) (fu : Nat) (a0 : Int32) (a1 : Int32) (res : Int32) (hf : x_Ob_checkIndex fu a0 a1 = some res) (sz : Nat) : Met l ({ cls := "java/util/Objects", name := "checkIndex", desc := "(II)I" } : Jvm.MethodName) (.code ({ cls := "java/util/Objects", name := "checkIndex", desc := "(II)I" } : Jvm.MethodName) b_Ob_checkIndex 2 (some .int) :: gw) rm_Ob_checkIndex (va_Pc [.int a0, .int a1] (Pr D cy ad [] sz)) (q_Ob_checkIndex D cy (va_A [] sz) res) 0 0 (va_A [] sz) :=
  q_met (Qc := fun A => q_Ob_checkIndex D cy A res) (by decide) rfl rfl (Nat.le_of_ble_eq_true rfl) (fun p e s m below meth c ls F hP hD hS hl => we_Ob_checkIndex (fu := fu) F a0 a1 res hf _ _ _ hP hD hS hl) sz
abbrev b_Al_elementData : ByteArray := prog_28_method_18_code
theorem d_Al_elementData_0 : decode b_Al_elementData 0 = .ok (.aload_n 0, 1) := by decide +kernel
theorem d_Al_elementData_1 : decode b_Al_elementData 1 = .ok (.getfield 9, 3) := by decide +kernel
theorem d_Al_elementData_4 : decode b_Al_elementData 4 = .ok (.iload_n 1, 1) := by decide +kernel
theorem d_Al_elementData_5 : decode b_Al_elementData 5 = .ok (.aaload, 1) := by decide +kernel
theorem d_Al_elementData_6 : decode b_Al_elementData 6 = .ok (.areturn, 1) := by decide +kernel
abbrev rm_Al_elementData_y0S : Room := { frames := 0, cells := 0, slots := 0, locals := 0 }
abbrev q_Al_elementData_y0S (D : va_G) (cy : Nat → ClassId) (A : Nat → Prop) (ad : Nat → Nat) (o : Nat) (i_size : Int32) (i_modCount : Int32) (res : Unit) : Array Value → State → Outcome → State → Prop := va_Qq (fun r' (_ : Unit) => r' = none) (fun _ t => Po D cy A [(o, .inr (11, [.ref (ad 26), .int i_size, .int i_modCount]))] t) A
def I_Al_elementData_y0S_e (p : Program) (l : Launch) (e : Env) (s : State) (m : MethodId) (args : Array Value) (below : List Frame) (meth : Method) (c : Code) (D : va_G) (cy : Nat → ClassId) (A : Nat → Prop) (ad : Nat → Nat) (o : Nat) (i_size : Int32) (i_modCount : Int32) (k : Int32 → Option (Unit)) : Prop :=
  ∀ (a1 : Int32) (res : Unit), k a1 = some res → ∀ (H : Heap) (locs : List Loc) (ls : Array Slot), va_P D classes [(o, .inr (11, [.ref (ad 26), .int i_size, .int i_modCount]))] H → va_D A [(o, .inr (11, [.ref (ad 26), .int i_size, .int i_modCount]))] → va_S A s.heap H locs → lv_has ls 2 [(0, .ref o), (1, .int a1)] → W p l e rm_Al_elementData_y0S s m args below meth c H locs 0 0 (MQ below (q_Al_elementData_y0S D cy A ad o i_size i_modCount res) args s 0 0 A) (F0 m 0 ls [])
def x_Al_elementData_y0S (fu : Nat) (i_size : Int32) (i_modCount : Int32) (a1 : Int32) : Option (Unit) :=
  none
set_option maxHeartbeats 8000000 in
set_option maxRecDepth 100000 in
theorem we_Al_elementData_y0S {p : Program} {l : Launch} {e : Env} {s : State} {m : MethodId} {args : Array Value} {below : List Frame} {meth : Method} {c : Code} {D : va_G} {cy : Nat → ClassId} {A : Nat → Prop} {ad : Nat → Nat} {o : Nat} {i_size : Int32} {i_modCount : Int32} {fu : Nat} (F : Fx p s m args meth c b_Al_elementData 2 "java/util/ArrayList" "elementData" (Option.some (Jvm.ClassFile.FieldType.object "java/lang/Object")) D cy ad A) : I_Al_elementData_y0S_e p l e s m args below meth c D cy A ad o i_size i_modCount (x_Al_elementData_y0S fu i_size i_modCount) := by
  obtain ⟨hx, hb, hr, hml, hown, hts, hlocks, hK, hA, hSt, hnm, hex⟩ := id F
  intro a1 res hf H locs ls hP hD hS hl
  unfold x_Al_elementData_y0S at hf
  refine lv_aload_n hx hb d_Al_elementData_0 rfl (lv_at hl 0 rfl) ?_
  refine va_get (D := D) (ci := 11) (v := .ref (ad 26)) (C := "java/util/ArrayList") (T := F_11) (N := 3) hx hb hts i_11 hown hK hP 0 rfl rfl 0 (by decide) (hts _ gw_351) (fun _ h9 => h9) rfl d_Al_elementData_1 ?_
  refine lv_iload_n hx hb d_Al_elementData_4 rfl (lv_at hl 1 rfl) ?_
  exact nomatch hf
theorem c_Al_elementData_y0S (l : Launch) (D : va_G) (cy : Nat → ClassId) (ad : Nat → Nat) (fu : Nat) (o : Nat) (i_size : Int32) (i_modCount : Int32) (a1 : Int32) (res : Unit) (hf : x_Al_elementData_y0S fu i_size i_modCount a1 = some res) (sz : Nat) : Met l ({ cls := "java/util/ArrayList", name := "elementData", desc := "(I)Ljava/lang/Object;" } : Jvm.MethodName) (.code ({ cls := "java/util/ArrayList", name := "elementData", desc := "(I)Ljava/lang/Object;" } : Jvm.MethodName) b_Al_elementData 2 (Option.some (Jvm.ClassFile.FieldType.object "java/lang/Object")) :: gw) rm_Al_elementData_y0S (va_Pc [.ref o, .int a1] (Pr D cy ad [(o, .inr (11, [.ref (ad 26), .int i_size, .int i_modCount]))] sz)) (q_Al_elementData_y0S D cy (va_A [(o, .inr (11, [.ref (ad 26), .int i_size, .int i_modCount]))] sz) ad o i_size i_modCount res) 0 0 (va_A [(o, .inr (11, [.ref (ad 26), .int i_size, .int i_modCount]))] sz) :=
  q_met (Qc := fun A => q_Al_elementData_y0S D cy A ad o i_size i_modCount res) (by decide) rfl rfl (Nat.le_of_ble_eq_true rfl) (fun p e s m below meth c ls F hP hD hS hl => we_Al_elementData_y0S (fu := fu) F a1 res hf _ _ _ hP hD hS hl) sz
abbrev b_Al_get : ByteArray := prog_28_method_20_code
theorem d_Al_get_0 : decode b_Al_get 0 = .ok (.iload_n 1, 1) := by decide +kernel
theorem d_Al_get_1 : decode b_Al_get 1 = .ok (.aload_n 0, 1) := by decide +kernel
theorem d_Al_get_2 : decode b_Al_get 2 = .ok (.getfield 48, 3) := by decide +kernel
theorem d_Al_get_5 : decode b_Al_get 5 = .ok (.invokestatic 118, 3) := by decide +kernel
theorem d_Al_get_8 : decode b_Al_get 8 = .ok (.pop, 1) := by decide +kernel
theorem d_Al_get_9 : decode b_Al_get 9 = .ok (.aload_n 0, 1) := by decide +kernel
theorem d_Al_get_10 : decode b_Al_get 10 = .ok (.iload_n 1, 1) := by decide +kernel
theorem d_Al_get_11 : decode b_Al_get 11 = .ok (.invokevirtual 123, 3) := by decide +kernel
theorem d_Al_get_14 : decode b_Al_get 14 = .ok (.areturn, 1) := by decide +kernel
abbrev rm_Al_get_y0S : Room := { frames := 2, cells := 0, slots := 0, locals := 43 }
abbrev q_Al_get_y0S (D : va_G) (cy : Nat → ClassId) (A : Nat → Prop) (ad : Nat → Nat) (o : Nat) (i_size : Int32) (i_modCount : Int32) (res : Unit) : Array Value → State → Outcome → State → Prop := va_Qq (fun r' (_ : Unit) => r' = none) (fun _ t => Po D cy A [(o, .inr (11, [.ref (ad 26), .int i_size, .int i_modCount]))] t) A
def I_Al_get_y0S_e (p : Program) (l : Launch) (e : Env) (s : State) (m : MethodId) (args : Array Value) (below : List Frame) (meth : Method) (c : Code) (D : va_G) (cy : Nat → ClassId) (A : Nat → Prop) (ad : Nat → Nat) (o : Nat) (i_size : Int32) (i_modCount : Int32) (k : Int32 → Option (Unit)) : Prop :=
  ∀ (a1 : Int32) (res : Unit), k a1 = some res → ∀ (H : Heap) (locs : List Loc) (ls : Array Slot), va_P D classes [(o, .inr (11, [.ref (ad 26), .int i_size, .int i_modCount]))] H → va_D A [(o, .inr (11, [.ref (ad 26), .int i_size, .int i_modCount]))] → va_S A s.heap H locs → lv_has ls 2 [(0, .ref o), (1, .int a1)] → W p l e rm_Al_get_y0S s m args below meth c H locs 0 0 (MQ below (q_Al_get_y0S D cy A ad o i_size i_modCount res) args s 0 0 A) (F0 m 0 ls [])
theorem hdf_64 : ({ cls := "java/util/Objects", name := "checkIndex", desc := "(II)I" } : Jvm.MethodName).cls ≠ "java/lang/invoke/MethodHandle" ∧ ({ cls := "java/util/Objects", name := "checkIndex", desc := "(II)I" } : Jvm.MethodName).cls ≠ "java/lang/invoke/VarHandle" ∧ (parseMethodDescriptor ({ cls := "java/util/Objects", name := "checkIndex", desc := "(II)I" } : Jvm.MethodName).desc).map (fun d => d.parameters.length) = some 2 := by decide +kernel
theorem hdf_65 : ({ cls := "java/util/ArrayList", name := "elementData", desc := "(I)Ljava/lang/Object;" } : Jvm.MethodName).cls ≠ "java/lang/invoke/MethodHandle" ∧ ({ cls := "java/util/ArrayList", name := "elementData", desc := "(I)Ljava/lang/Object;" } : Jvm.MethodName).cls ≠ "java/lang/invoke/VarHandle" ∧ (parseMethodDescriptor ({ cls := "java/util/ArrayList", name := "elementData", desc := "(I)Ljava/lang/Object;" } : Jvm.MethodName).desc).map (fun d => d.parameters.length) = some 1 := by decide +kernel
def x_Al_get_y0S (fu : Nat) (i_size : Int32) (i_modCount : Int32) (a1 : Int32) : Option (Unit) :=
  bd1 (x_Ob_checkIndex fu a1 i_size) fun v1 => bd1 (x_Al_elementData_y0S fu i_size i_modCount a1) fun _ => some ()
set_option maxHeartbeats 8000000 in
set_option maxRecDepth 100000 in
theorem we_Al_get_y0S {p : Program} {l : Launch} {e : Env} {s : State} {m : MethodId} {args : Array Value} {below : List Frame} {meth : Method} {c : Code} {D : va_G} {cy : Nat → ClassId} {A : Nat → Prop} {ad : Nat → Nat} {o : Nat} {i_size : Int32} {i_modCount : Int32} {fu : Nat} (F : Fx p s m args meth c b_Al_get 2 "java/util/ArrayList" "get" (Option.some (Jvm.ClassFile.FieldType.object "java/lang/Object")) D cy ad A) : I_Al_get_y0S_e p l e s m args below meth c D cy A ad o i_size i_modCount (x_Al_get_y0S fu i_size i_modCount) := by
  obtain ⟨hx, hb, hr, hml, hown, hts, hlocks, hK, hA, hSt, hnm, hex⟩ := id F
  intro a1 res hf H locs ls hP hD hS hl
  unfold x_Al_get_y0S at hf
  refine lv_iload_n hx hb d_Al_get_0 rfl (lv_at hl 1 rfl) ?_
  refine lv_aload_n hx hb d_Al_get_1 rfl (lv_at hl 0 rfl) ?_
  refine va_get (D := D) (ci := 11) (v := .int i_size) (C := "java/util/ArrayList") (T := F_11) (N := 3) hx hb hts i_11 hown hK hP 0 rfl rfl 1 (by decide) (hts _ gw_352) (fun _ h9 => h9) rfl d_Al_get_2 ?_
  obtain ⟨v1, hc, hf⟩ := bdp1 hf
  refine q_ai (wr := [(o, .inr (11, [.ref (ad 26), .int i_size, .int i_modCount]))]) (va_runS (As := [.int a1, .int i_size]) (rest := []) ⟨hx, hb, hml, hown, hts⟩ (c_Ob_checkIndex l D cy ad fu a1 i_size _ hc H.size) ⟨q_cB hts gw_558 gw_25 gw_556 hdf_64 ⟨by decide, by decide⟩, hts _ gw_557⟩ (q_pre (hP.sub [] rfl) (hD.sub [] (by decide) rfl) hK hSt hS (va_free hD hS hA [] rfl) _) rfl rfl hl.1 rfl (lv_room (Nat.le_of_ble_eq_true rfl)) d_Al_get_5 ⟨Nat.le_of_ble_eq_true rfl, Nat.le_of_ble_eq_true rfl⟩) hP hD hS hA [] [0] rfl rfl (by decide) (by decide) (fun H locs hP hD hS => ?_)
  clear hc
  have hP : va_P D classes [(o, .inr (11, [.ref (ad 26), .int i_size, .int i_modCount]))] H := hP
  have hD : va_D A [(o, .inr (11, [.ref (ad 26), .int i_size, .int i_modCount]))] := hD
  refine lv_pop hx hb d_Al_get_8 rfl ?_
  refine lv_aload_n hx hb d_Al_get_9 rfl (lv_at hl 0 rfl) ?_
  refine lv_iload_n hx hb d_Al_get_10 rfl (lv_at hl 1 rfl) ?_
  obtain ⟨⟨⟩, hc, hf⟩ := bdp1 hf
  refine q_aqS (wr := []) (va_runV (C := "java/util/ArrayList") (As := [.int a1]) (rest := []) ⟨hx, hb, hml, hown, hts⟩ (c_Al_elementData_y0S l D cy ad fu o i_size i_modCount a1 _ hc H.size) ⟨q_cB hts gw_565 gw_12 gw_562 hdf_65 ⟨by decide, by decide⟩, hts _ gw_563, hts _ gw_564⟩ (q_preV (q_pre (hP.sub [0] rfl) (hD.sub [0] (by decide) rfl) hK hSt hS (va_free hD hS hA [0] rfl) _) (va_recv hK (hP.sub [0] rfl) (ci := 11) (q0 := 0) rfl rfl)) rfl rfl hl.1 rfl (lv_room (Nat.le_of_ble_eq_true rfl)) d_Al_get_11 ⟨Nat.le_of_ble_eq_true rfl, Nat.le_of_ble_eq_true rfl⟩) hP hD hS hA [0] [] rfl rfl (by decide) (by decide) (fun _ H locs hP hD hS => ?_)
  clear hc
  have hP : va_P D classes [(o, .inr (11, [.ref (ad 26), .int i_size, .int i_modCount]))] H := hP
  have hD : va_D A [(o, .inr (11, [.ref (ad 26), .int i_size, .int i_modCount]))] := hD
  refine W.eq (g2 := F0 m 14 ls [.null]) rfl ?_
  obtain rfl := Option.some.inj hf
  exact q_ra (w1 := fun _ => [(o, .inr (11, [.ref (ad 26), .int i_size, .int i_modCount]))]) (rr := fun _ => none) () rfl hx hb hr (Or.inl ⟨_, rfl⟩) hlocks hK hP hD hS d_Al_get_14
theorem c_Al_get_y0S (l : Launch) (D : va_G) (cy : Nat → ClassId) (ad : Nat → Nat) (fu : Nat) (o : Nat) (i_size : Int32) (i_modCount : Int32) (a1 : Int32) (res : Unit) (hf : x_Al_get_y0S fu i_size i_modCount a1 = some res) (sz : Nat) : Met l ({ cls := "java/util/ArrayList", name := "get", desc := "(I)Ljava/lang/Object;" } : Jvm.MethodName) (.code ({ cls := "java/util/ArrayList", name := "get", desc := "(I)Ljava/lang/Object;" } : Jvm.MethodName) b_Al_get 2 (Option.some (Jvm.ClassFile.FieldType.object "java/lang/Object")) :: gw) rm_Al_get_y0S (va_Pc [.ref o, .int a1] (Pr D cy ad [(o, .inr (11, [.ref (ad 26), .int i_size, .int i_modCount]))] sz)) (q_Al_get_y0S D cy (va_A [(o, .inr (11, [.ref (ad 26), .int i_size, .int i_modCount]))] sz) ad o i_size i_modCount res) 0 0 (va_A [(o, .inr (11, [.ref (ad 26), .int i_size, .int i_modCount]))] sz) :=
  q_met (Qc := fun A => q_Al_get_y0S D cy A ad o i_size i_modCount res) (by decide) rfl rfl (Nat.le_of_ble_eq_true rfl) (fun p e s m below meth c ls F hP hD hS hl => we_Al_get_y0S (fu := fu) F a1 res hf _ _ _ hP hD hS hl) sz
abbrev b_Le_values : ByteArray := prog_6_method_9_code
theorem d_Le_values_0 : decode b_Le_values 0 = .ok (.lconst 0, 1) := by decide +kernel
theorem d_Le_values_1 : decode b_Le_values 1 = .ok (.lstore_n 1, 1) := by decide +kernel
theorem d_Le_values_2 : decode b_Le_values 2 = .ok (.iconst 0, 1) := by decide +kernel
theorem d_Le_values_3 : decode b_Le_values 3 = .ok (.istore_n 3, 1) := by decide +kernel
theorem d_Le_values_4 : decode b_Le_values 4 = .ok (.iload_n 3, 1) := by decide +kernel
theorem d_Le_values_5 : decode b_Le_values 5 = .ok (.aload_n 0, 1) := by decide +kernel
theorem d_Le_values_6 : decode b_Le_values 6 = .ok (.getfield 10, 3) := by decide +kernel
theorem d_Le_values_9 : decode b_Le_values 9 = .ok (.invokevirtual 25, 3) := by decide +kernel
theorem d_Le_values_12 : decode b_Le_values 12 = .ok (.if_icmp .ge 26, 3) := by decide +kernel
theorem d_Le_values_15 : decode b_Le_values 15 = .ok (.lload_n 1, 1) := by decide +kernel
theorem d_Le_values_16 : decode b_Le_values 16 = .ok (.aload_n 0, 1) := by decide +kernel
theorem d_Le_values_17 : decode b_Le_values 17 = .ok (.getfield 10, 3) := by decide +kernel
theorem d_Le_values_20 : decode b_Le_values 20 = .ok (.iload_n 3, 1) := by decide +kernel
theorem d_Le_values_21 : decode b_Le_values 21 = .ok (.invokevirtual 29, 3) := by decide +kernel
theorem d_Le_values_24 : decode b_Le_values 24 = .ok (.checkcast 33, 3) := by decide +kernel
theorem d_Le_values_27 : decode b_Le_values 27 = .ok (.getfield 84, 3) := by decide +kernel
theorem d_Le_values_30 : decode b_Le_values 30 = .ok (.ladd, 1) := by decide +kernel
theorem d_Le_values_31 : decode b_Le_values 31 = .ok (.lstore_n 1, 1) := by decide +kernel
theorem d_Le_values_32 : decode b_Le_values 32 = .ok (.iinc 3 1, 3) := by decide +kernel
theorem d_Le_values_35 : decode b_Le_values 35 = .ok (.goto (-31), 3) := by decide +kernel
theorem d_Le_values_38 : decode b_Le_values 38 = .ok (.lload_n 1, 1) := by decide +kernel
theorem d_Le_values_39 : decode b_Le_values 39 = .ok (.lreturn, 1) := by decide +kernel
abbrev rm_Le_values : Room := { frames := 3, cells := 0, slots := 0, locals := 64 }
abbrev q_Le_values (D : va_G) (cy : Nat → ClassId) (A : Nat → Prop) (ad : Nat → Nat) (o : Nat) (v_o_changes : Value) (o_unspent : Nat) (i_unspent_size : Int32) (i_unspent_modCount : Int32) (res : Int64) : Array Value → State → Outcome → State → Prop := va_Ql (fun r' (_ : Unit) => r' = res) (fun _ t => Po D cy A [(o, .inr (5, [.ref o_unspent, v_o_changes])), (o_unspent, .inr (11, [.ref (ad 26), .int i_unspent_size, .int i_unspent_modCount]))] t) A
def I_Le_values_4 (p : Program) (l : Launch) (e : Env) (s : State) (m : MethodId) (args : Array Value) (below : List Frame) (meth : Method) (c : Code) (D : va_G) (cy : Nat → ClassId) (A : Nat → Prop) (ad : Nat → Nat) (o : Nat) (v_o_changes : Value) (o_unspent : Nat) (i_unspent_size : Int32) (i_unspent_modCount : Int32) (k : Int64 → Int32 → Option (Int64)) : Prop :=
  ∀ (x1 : Int64) (x3 : Int32) (res : Int64), k x1 x3 = some res → ∀ (H : Heap) (locs : List Loc) (ls : Array Slot), va_P D classes [(o, .inr (5, [.ref o_unspent, v_o_changes])), (o_unspent, .inr (11, [.ref (ad 26), .int i_unspent_size, .int i_unspent_modCount]))] H → va_D A [(o, .inr (5, [.ref o_unspent, v_o_changes])), (o_unspent, .inr (11, [.ref (ad 26), .int i_unspent_size, .int i_unspent_modCount]))] → va_S A s.heap H locs → lv_has ls 4 [(0, .ref o), (1, .long x1), (3, .int x3)] → W p l e rm_Le_values s m args below meth c H locs 0 0 (MQ below (q_Le_values D cy A ad o v_o_changes o_unspent i_unspent_size i_unspent_modCount res) args s 0 0 A) (F0 m 4 ls [])
def I_Le_values_e (p : Program) (l : Launch) (e : Env) (s : State) (m : MethodId) (args : Array Value) (below : List Frame) (meth : Method) (c : Code) (D : va_G) (cy : Nat → ClassId) (A : Nat → Prop) (ad : Nat → Nat) (o : Nat) (v_o_changes : Value) (o_unspent : Nat) (i_unspent_size : Int32) (i_unspent_modCount : Int32) (k : Option (Int64)) : Prop :=
  ∀ (res : Int64), k  = some res → ∀ (H : Heap) (locs : List Loc) (ls : Array Slot), va_P D classes [(o, .inr (5, [.ref o_unspent, v_o_changes])), (o_unspent, .inr (11, [.ref (ad 26), .int i_unspent_size, .int i_unspent_modCount]))] H → va_D A [(o, .inr (5, [.ref o_unspent, v_o_changes])), (o_unspent, .inr (11, [.ref (ad 26), .int i_unspent_size, .int i_unspent_modCount]))] → va_S A s.heap H locs → lv_has ls 4 [(0, .ref o)] → W p l e rm_Le_values s m args below meth c H locs 0 0 (MQ below (q_Le_values D cy A ad o v_o_changes o_unspent i_unspent_size i_unspent_modCount res) args s 0 0 A) (F0 m 0 ls [])
theorem hdf_66 : ({ cls := "java/util/ArrayList", name := "get", desc := "(I)Ljava/lang/Object;" } : Jvm.MethodName).cls ≠ "java/lang/invoke/MethodHandle" ∧ ({ cls := "java/util/ArrayList", name := "get", desc := "(I)Ljava/lang/Object;" } : Jvm.MethodName).cls ≠ "java/lang/invoke/VarHandle" ∧ (parseMethodDescriptor ({ cls := "java/util/ArrayList", name := "get", desc := "(I)Ljava/lang/Object;" } : Jvm.MethodName).desc).map (fun d => d.parameters.length) = some 1 := by decide +kernel
def xb_Le_values_4 (fu : Nat) (i_unspent_size : Int32) (i_unspent_modCount : Int32) (k_4 : Int64 → Int32 → Option (Int64)) (x1 : Int64) (x3 : Int32) : Option (Int64) :=
  bd1 (x_Al_size_y0S fu i_unspent_size i_unspent_modCount) fun v1 => if v1 ≤ x3 then (some (x1)) else (bd1 (x_Al_get_y0S fu i_unspent_size i_unspent_modCount x3) fun _ => none)
set_option maxHeartbeats 8000000 in
set_option maxRecDepth 100000 in
theorem wb_Le_values_4 {p : Program} {l : Launch} {e : Env} {s : State} {m : MethodId} {args : Array Value} {below : List Frame} {meth : Method} {c : Code} {D : va_G} {cy : Nat → ClassId} {A : Nat → Prop} {ad : Nat → Nat} {o : Nat} {v_o_changes : Value} {o_unspent : Nat} {i_unspent_size : Int32} {i_unspent_modCount : Int32} {fu : Nat} {k_4 : Int64 → Int32 → Option (Int64)} (F : Fx p s m args meth c b_Le_values 4 "CoinKeeper$Ledger" "values" (some .long) D cy ad A) (hk_4 : I_Le_values_4 p l e s m args below meth c D cy A ad o v_o_changes o_unspent i_unspent_size i_unspent_modCount k_4) : I_Le_values_4 p l e s m args below meth c D cy A ad o v_o_changes o_unspent i_unspent_size i_unspent_modCount (xb_Le_values_4 fu i_unspent_size i_unspent_modCount k_4) := by
  obtain ⟨hx, hb, hr, hml, hown, hts, hlocks, hK, hA, hSt, hnm, hex⟩ := id F
  intro x1 x3 res hf H locs ls hP hD hS hl
  unfold xb_Le_values_4 at hf
  refine lv_iload_n hx hb d_Le_values_4 rfl (lv_at hl 2 rfl) ?_
  refine lv_aload_n hx hb d_Le_values_5 rfl (lv_at hl 0 rfl) ?_
  refine va_get (D := D) (ci := 5) (v := .ref o_unspent) (C := "CoinKeeper$Ledger") (T := F_5) (N := 2) hx hb hts i_5 hown hK hP 0 rfl rfl 0 (by decide) (hts _ gw_363) (fun _ h9 => h9) rfl d_Le_values_6 ?_
  obtain ⟨v1, hc, hf⟩ := bdp1 hf
  refine q_ai (wr := [(o, .inr (5, [.ref o_unspent, v_o_changes]))]) (va_runV (C := "java/util/ArrayList") (As := []) (rest := [.int x3]) ⟨hx, hb, hml, hown, hts⟩ (c_Al_size_y0S l D cy ad fu o_unspent i_unspent_size i_unspent_modCount _ hc H.size) ⟨q_cB hts gw_551 gw_12 gw_548 hdf_53 ⟨by decide, by decide⟩, hts _ gw_549, hts _ gw_550⟩ (q_preV (q_pre (hP.sub [1] rfl) (hD.sub [1] (by decide) rfl) hK hSt hS (va_free hD hS hA [1] rfl) _) (va_recv hK (hP.sub [1] rfl) (ci := 11) (q0 := 0) rfl rfl)) rfl rfl hl.1 rfl (lv_room (Nat.le_of_ble_eq_true rfl)) d_Le_values_9 ⟨Nat.le_of_ble_eq_true rfl, Nat.le_of_ble_eq_true rfl⟩) hP hD hS hA [1] [0] rfl rfl (by decide) (by decide) (fun H locs hP hD hS => ?_)
  clear hc
  have hP : va_P D classes [(o, .inr (5, [.ref o_unspent, v_o_changes])), (o_unspent, .inr (11, [.ref (ad 26), .int i_unspent_size, .int i_unspent_modCount]))] H := hP
  have hD : va_D A [(o, .inr (5, [.ref o_unspent, v_o_changes])), (o_unspent, .inr (11, [.ref (ad 26), .int i_unspent_size, .int i_unspent_modCount]))] := hD
  refine lv_icmp_ge (tgt := 38) hx hb d_Le_values_12 (by decide) (fun cx => ?_) (fun cx => ?_)
  · have hf := ifp cx hf
    refine lv_lload_n hx hb d_Le_values_38 rfl (lv_at hl 1 rfl) ?_
    obtain rfl := Option.some.inj hf
    exact q_rl hx hb hr hlocks hK hP hD hS d_Le_values_39
  · have hf := ifn cx hf
    refine lv_lload_n hx hb d_Le_values_15 rfl (lv_at hl 1 rfl) ?_
    refine lv_aload_n hx hb d_Le_values_16 rfl (lv_at hl 0 rfl) ?_
    refine va_get (D := D) (ci := 5) (v := .ref o_unspent) (C := "CoinKeeper$Ledger") (T := F_5) (N := 2) hx hb hts i_5 hown hK hP 0 rfl rfl 0 (by decide) (hts _ gw_363) (fun _ h9 => h9) rfl d_Le_values_17 ?_
    refine lv_iload_n hx hb d_Le_values_20 rfl (lv_at hl 2 rfl) ?_
    obtain ⟨⟨⟩, hc, hf⟩ := bdp1 hf
    refine q_aqS (wr := [(o, .inr (5, [.ref o_unspent, v_o_changes]))]) (va_runV (C := "java/util/ArrayList") (As := [.int x3]) (rest := [.long x1]) ⟨hx, hb, hml, hown, hts⟩ (c_Al_get_y0S l D cy ad fu o_unspent i_unspent_size i_unspent_modCount x3 _ hc H.size) ⟨q_cB hts gw_555 gw_12 gw_552 hdf_66 ⟨by decide, by decide⟩, hts _ gw_553, hts _ gw_554⟩ (q_preV (q_pre (hP.sub [1] rfl) (hD.sub [1] (by decide) rfl) hK hSt hS (va_free hD hS hA [1] rfl) _) (va_recv hK (hP.sub [1] rfl) (ci := 11) (q0 := 0) rfl rfl)) rfl rfl hl.1 rfl (lv_room (Nat.le_of_ble_eq_true rfl)) d_Le_values_21 ⟨Nat.le_of_ble_eq_true rfl, Nat.le_of_ble_eq_true rfl⟩) hP hD hS hA [1] [0] rfl rfl (by decide) (by decide) (fun _ H locs hP hD hS => ?_)
    clear hc
    have hP : va_P D classes [(o, .inr (5, [.ref o_unspent, v_o_changes])), (o_unspent, .inr (11, [.ref (ad 26), .int i_unspent_size, .int i_unspent_modCount]))] H := hP
    have hD : va_D A [(o, .inr (5, [.ref o_unspent, v_o_changes])), (o_unspent, .inr (11, [.ref (ad 26), .int i_unspent_size, .int i_unspent_modCount]))] := hD
    refine W.eq (g2 := F0 m 24 ls [.null, .long x1]) rfl ?_
    refine lv_castN hx hb d_Le_values_24 ?_
    exact nomatch hf
def x_Le_values_4 (fu : Nat) (i_unspent_size : Int32) (i_unspent_modCount : Int32) : Nat → Int64 → Int32 → Option (Int64)
  | 0 => fun _ _ => none
  | n + 1 => xb_Le_values_4 fu i_unspent_size i_unspent_modCount (x_Le_values_4 fu i_unspent_size i_unspent_modCount n)
theorem w_Le_values_4 {p : Program} {l : Launch} {e : Env} {s : State} {m : MethodId} {args : Array Value} {below : List Frame} {meth : Method} {c : Code} {D : va_G} {cy : Nat → ClassId} {A : Nat → Prop} {ad : Nat → Nat} {o : Nat} {v_o_changes : Value} {o_unspent : Nat} {i_unspent_size : Int32} {i_unspent_modCount : Int32} {fu : Nat} (F : Fx p s m args meth c b_Le_values 4 "CoinKeeper$Ledger" "values" (some .long) D cy ad A) : ∀ n : Nat, I_Le_values_4 p l e s m args below meth c D cy A ad o v_o_changes o_unspent i_unspent_size i_unspent_modCount (x_Le_values_4 fu i_unspent_size i_unspent_modCount n)
  | 0 => fun _ _ _ hf => nomatch (show (none : Option (Int64)) = some _ from hf)
  | n + 1 => wb_Le_values_4 F (w_Le_values_4 F n)
def x_Le_values (fu : Nat) (i_unspent_size : Int32) (i_unspent_modCount : Int32) : Option (Int64) :=
  x_Le_values_4 fu i_unspent_size i_unspent_modCount fu (0 : Int64) (0 : Int32)
set_option maxHeartbeats 8000000 in
set_option maxRecDepth 100000 in
theorem we_Le_values {p : Program} {l : Launch} {e : Env} {s : State} {m : MethodId} {args : Array Value} {below : List Frame} {meth : Method} {c : Code} {D : va_G} {cy : Nat → ClassId} {A : Nat → Prop} {ad : Nat → Nat} {o : Nat} {v_o_changes : Value} {o_unspent : Nat} {i_unspent_size : Int32} {i_unspent_modCount : Int32} {fu : Nat} (F : Fx p s m args meth c b_Le_values 4 "CoinKeeper$Ledger" "values" (some .long) D cy ad A) : I_Le_values_e p l e s m args below meth c D cy A ad o v_o_changes o_unspent i_unspent_size i_unspent_modCount (x_Le_values fu i_unspent_size i_unspent_modCount) := by
  obtain ⟨hx, hb, hr, hml, hown, hts, hlocks, hK, hA, hSt, hnm, hex⟩ := id F
  intro  res hf H locs ls hP hD hS hl
  unfold x_Le_values at hf
  refine lv_lconst (v := 0) hx hb d_Le_values_0 (by decide) ?_
  refine lv_lstore_n (lv' := [(1, .long (0 : Int64)), (0, .ref o)]) hx hb d_Le_values_1 rfl hl (by decide) rfl (fun ls hl => ?_)
  refine lv_iconst (v := 0) hx hb d_Le_values_2 (by decide) ?_
  refine lv_istore_n (lv' := [(3, .int (0 : Int32)), (1, .long (0 : Int64)), (0, .ref o)]) hx hb d_Le_values_3 rfl hl (by decide) rfl (fun ls hl => ?_)
  exact w_Le_values_4 F fu _ _ _ hf _ _ _ hP hD hS (lv_sub hl [2, 1, 0] rfl)
theorem c_Le_values (l : Launch) (D : va_G) (cy : Nat → ClassId) (ad : Nat → Nat) (fu : Nat) (o : Nat) (v_o_changes : Value) (o_unspent : Nat) (i_unspent_size : Int32) (i_unspent_modCount : Int32) (res : Int64) (hf : x_Le_values fu i_unspent_size i_unspent_modCount = some res) (sz : Nat) : Met l ({ cls := "CoinKeeper$Ledger", name := "values", desc := "()J" } : Jvm.MethodName) (.code ({ cls := "CoinKeeper$Ledger", name := "values", desc := "()J" } : Jvm.MethodName) b_Le_values 4 (some .long) :: gw) rm_Le_values (va_Pc [.ref o] (Pr D cy ad [(o, .inr (5, [.ref o_unspent, v_o_changes])), (o_unspent, .inr (11, [.ref (ad 26), .int i_unspent_size, .int i_unspent_modCount]))] sz)) (q_Le_values D cy (va_A [(o, .inr (5, [.ref o_unspent, v_o_changes])), (o_unspent, .inr (11, [.ref (ad 26), .int i_unspent_size, .int i_unspent_modCount]))] sz) ad o v_o_changes o_unspent i_unspent_size i_unspent_modCount res) 0 0 (va_A [(o, .inr (5, [.ref o_unspent, v_o_changes])), (o_unspent, .inr (11, [.ref (ad 26), .int i_unspent_size, .int i_unspent_modCount]))] sz) :=
  q_met (Qc := fun A => q_Le_values D cy A ad o v_o_changes o_unspent i_unspent_size i_unspent_modCount res) (by decide) rfl rfl (Nat.le_of_ble_eq_true rfl) (fun p e s m below meth c ls F hP hD hS hl => we_Le_values (fu := fu) F  res hf _ _ _ hP hD hS hl) sz
abbrev b_Le_size : ByteArray := prog_6_method_8_code
theorem d_Le_size_0 : decode b_Le_size 0 = .ok (.aload_n 0, 1) := by decide +kernel
theorem d_Le_size_1 : decode b_Le_size 1 = .ok (.getfield 10, 3) := by decide +kernel
theorem d_Le_size_4 : decode b_Le_size 4 = .ok (.invokevirtual 25, 3) := by decide +kernel
theorem d_Le_size_7 : decode b_Le_size 7 = .ok (.ireturn, 1) := by decide +kernel
abbrev rm_Le_size : Room := { frames := 1, cells := 0, slots := 0, locals := 20 }
abbrev q_Le_size (D : va_G) (cy : Nat → ClassId) (A : Nat → Prop) (ad : Nat → Nat) (o : Nat) (v_o_changes : Value) (o_unspent : Nat) (i_unspent_size : Int32) (i_unspent_modCount : Int32) (res : Int32) : Array Value → State → Outcome → State → Prop := va_Qi (fun r' (_ : Unit) => r' = res) (fun _ t => Po D cy A [(o, .inr (5, [.ref o_unspent, v_o_changes])), (o_unspent, .inr (11, [.ref (ad 26), .int i_unspent_size, .int i_unspent_modCount]))] t) A
def I_Le_size_e (p : Program) (l : Launch) (e : Env) (s : State) (m : MethodId) (args : Array Value) (below : List Frame) (meth : Method) (c : Code) (D : va_G) (cy : Nat → ClassId) (A : Nat → Prop) (ad : Nat → Nat) (o : Nat) (v_o_changes : Value) (o_unspent : Nat) (i_unspent_size : Int32) (i_unspent_modCount : Int32) (k : Option (Int32)) : Prop :=
  ∀ (res : Int32), k  = some res → ∀ (H : Heap) (locs : List Loc) (ls : Array Slot), va_P D classes [(o, .inr (5, [.ref o_unspent, v_o_changes])), (o_unspent, .inr (11, [.ref (ad 26), .int i_unspent_size, .int i_unspent_modCount]))] H → va_D A [(o, .inr (5, [.ref o_unspent, v_o_changes])), (o_unspent, .inr (11, [.ref (ad 26), .int i_unspent_size, .int i_unspent_modCount]))] → va_S A s.heap H locs → lv_has ls 1 [(0, .ref o)] → W p l e rm_Le_size s m args below meth c H locs 0 0 (MQ below (q_Le_size D cy A ad o v_o_changes o_unspent i_unspent_size i_unspent_modCount res) args s 0 0 A) (F0 m 0 ls [])
def x_Le_size (fu : Nat) (i_unspent_size : Int32) (i_unspent_modCount : Int32) : Option (Int32) :=
  bd1 (x_Al_size_y0S fu i_unspent_size i_unspent_modCount) fun v1 => some (v1)
set_option maxHeartbeats 8000000 in
set_option maxRecDepth 100000 in
theorem we_Le_size {p : Program} {l : Launch} {e : Env} {s : State} {m : MethodId} {args : Array Value} {below : List Frame} {meth : Method} {c : Code} {D : va_G} {cy : Nat → ClassId} {A : Nat → Prop} {ad : Nat → Nat} {o : Nat} {v_o_changes : Value} {o_unspent : Nat} {i_unspent_size : Int32} {i_unspent_modCount : Int32} {fu : Nat} (F : Fx p s m args meth c b_Le_size 1 "CoinKeeper$Ledger" "size" (some .int) D cy ad A) : I_Le_size_e p l e s m args below meth c D cy A ad o v_o_changes o_unspent i_unspent_size i_unspent_modCount (x_Le_size fu i_unspent_size i_unspent_modCount) := by
  obtain ⟨hx, hb, hr, hml, hown, hts, hlocks, hK, hA, hSt, hnm, hex⟩ := id F
  intro  res hf H locs ls hP hD hS hl
  unfold x_Le_size at hf
  refine lv_aload_n hx hb d_Le_size_0 rfl (lv_at hl 0 rfl) ?_
  refine va_get (D := D) (ci := 5) (v := .ref o_unspent) (C := "CoinKeeper$Ledger") (T := F_5) (N := 2) hx hb hts i_5 hown hK hP 0 rfl rfl 0 (by decide) (hts _ gw_363) (fun _ h9 => h9) rfl d_Le_size_1 ?_
  obtain ⟨v1, hc, hf⟩ := bdp1 hf
  refine q_ai (wr := [(o, .inr (5, [.ref o_unspent, v_o_changes]))]) (va_runV (C := "java/util/ArrayList") (As := []) (rest := []) ⟨hx, hb, hml, hown, hts⟩ (c_Al_size_y0S l D cy ad fu o_unspent i_unspent_size i_unspent_modCount _ hc H.size) ⟨q_cB hts gw_551 gw_12 gw_548 hdf_53 ⟨by decide, by decide⟩, hts _ gw_549, hts _ gw_550⟩ (q_preV (q_pre (hP.sub [1] rfl) (hD.sub [1] (by decide) rfl) hK hSt hS (va_free hD hS hA [1] rfl) _) (va_recv hK (hP.sub [1] rfl) (ci := 11) (q0 := 0) rfl rfl)) rfl rfl hl.1 rfl (lv_room (Nat.le_of_ble_eq_true rfl)) d_Le_size_4 ⟨Nat.le_of_ble_eq_true rfl, Nat.le_of_ble_eq_true rfl⟩) hP hD hS hA [1] [0] rfl rfl (by decide) (by decide) (fun H locs hP hD hS => ?_)
  clear hc
  have hP : va_P D classes [(o, .inr (5, [.ref o_unspent, v_o_changes])), (o_unspent, .inr (11, [.ref (ad 26), .int i_unspent_size, .int i_unspent_modCount]))] H := hP
  have hD : va_D A [(o, .inr (5, [.ref o_unspent, v_o_changes])), (o_unspent, .inr (11, [.ref (ad 26), .int i_unspent_size, .int i_unspent_modCount]))] := hD
  obtain rfl := Option.some.inj hf
  exact q_ri hx hb hr hlocks hK hP hD hS d_Le_size_7
theorem c_Le_size (l : Launch) (D : va_G) (cy : Nat → ClassId) (ad : Nat → Nat) (fu : Nat) (o : Nat) (v_o_changes : Value) (o_unspent : Nat) (i_unspent_size : Int32) (i_unspent_modCount : Int32) (res : Int32) (hf : x_Le_size fu i_unspent_size i_unspent_modCount = some res) (sz : Nat) : Met l ({ cls := "CoinKeeper$Ledger", name := "size", desc := "()I" } : Jvm.MethodName) (.code ({ cls := "CoinKeeper$Ledger", name := "size", desc := "()I" } : Jvm.MethodName) b_Le_size 1 (some .int) :: gw) rm_Le_size (va_Pc [.ref o] (Pr D cy ad [(o, .inr (5, [.ref o_unspent, v_o_changes])), (o_unspent, .inr (11, [.ref (ad 26), .int i_unspent_size, .int i_unspent_modCount]))] sz)) (q_Le_size D cy (va_A [(o, .inr (5, [.ref o_unspent, v_o_changes])), (o_unspent, .inr (11, [.ref (ad 26), .int i_unspent_size, .int i_unspent_modCount]))] sz) ad o v_o_changes o_unspent i_unspent_size i_unspent_modCount res) 0 0 (va_A [(o, .inr (5, [.ref o_unspent, v_o_changes])), (o_unspent, .inr (11, [.ref (ad 26), .int i_unspent_size, .int i_unspent_modCount]))] sz) :=
  q_met (Qc := fun A => q_Le_size D cy A ad o v_o_changes o_unspent i_unspent_size i_unspent_modCount res) (by decide) rfl rfl (Nat.le_of_ble_eq_true rfl) (fun p e s m below meth c ls F hP hD hS hl => we_Le_size (fu := fu) F  res hf _ _ _ hP hD hS hl) sz
abbrev rm_Al_elementData_y0R : Room := { frames := 0, cells := 0, slots := 0, locals := 0 }
abbrev q_Al_elementData_y0R (D : va_G) (cy : Nat → ClassId) (A : Nat → Prop) (o : Nat) (a_el : Nat) (r_e0 : Nat) (i_size : Int32) (i_modCount : Int32) (res : Unit) : Array Value → State → Outcome → State → Prop := va_Qq (fun r' (_ : Unit) => r' = some r_e0) (fun _ t => Po D cy A [(o, .inr (11, [.ref a_el, .int i_size, .int i_modCount])), (a_el, .inl (cy 7, 10, .inr (.inr (.inr (.inr (va_up (fun _ => none) 0 (some r_e0)))))))] t) A
def I_Al_elementData_y0R_e (p : Program) (l : Launch) (e : Env) (s : State) (m : MethodId) (args : Array Value) (below : List Frame) (meth : Method) (c : Code) (D : va_G) (cy : Nat → ClassId) (A : Nat → Prop) (ad : Nat → Nat) (o : Nat) (a_el : Nat) (r_e0 : Nat) (i_size : Int32) (i_modCount : Int32) (k : Int32 → Option (Unit)) : Prop :=
  ∀ (a1 : Int32) (res : Unit), k a1 = some res → ∀ (H : Heap) (locs : List Loc) (ls : Array Slot), va_P D classes [(o, .inr (11, [.ref a_el, .int i_size, .int i_modCount])), (a_el, .inl (cy 7, 10, .inr (.inr (.inr (.inr (va_up (fun _ => none) 0 (some r_e0)))))))] H → va_D A [(o, .inr (11, [.ref a_el, .int i_size, .int i_modCount])), (a_el, .inl (cy 7, 10, .inr (.inr (.inr (.inr (va_up (fun _ => none) 0 (some r_e0)))))))] → va_S A s.heap H locs → lv_has ls 2 [(0, .ref o), (1, .int a1)] → W p l e rm_Al_elementData_y0R s m args below meth c H locs 0 0 (MQ below (q_Al_elementData_y0R D cy A o a_el r_e0 i_size i_modCount res) args s 0 0 A) (F0 m 0 ls [])
def x_Al_elementData_y0R (fu : Nat) (i_size : Int32) (i_modCount : Int32) (a1 : Int32) : Option (Unit) :=
  gd (ieq a1 (0 : Int32)) <| some ()
set_option maxHeartbeats 8000000 in
set_option maxRecDepth 100000 in
theorem we_Al_elementData_y0R {p : Program} {l : Launch} {e : Env} {s : State} {m : MethodId} {args : Array Value} {below : List Frame} {meth : Method} {c : Code} {D : va_G} {cy : Nat → ClassId} {A : Nat → Prop} {ad : Nat → Nat} {o : Nat} {a_el : Nat} {r_e0 : Nat} {i_size : Int32} {i_modCount : Int32} {fu : Nat} (F : Fx p s m args meth c b_Al_elementData 2 "java/util/ArrayList" "elementData" (Option.some (Jvm.ClassFile.FieldType.object "java/lang/Object")) D cy ad A) : I_Al_elementData_y0R_e p l e s m args below meth c D cy A ad o a_el r_e0 i_size i_modCount (x_Al_elementData_y0R fu i_size i_modCount) := by
  obtain ⟨hx, hb, hr, hml, hown, hts, hlocks, hK, hA, hSt, hnm, hex⟩ := id F
  intro a1 res hf H locs ls hP hD hS hl
  unfold x_Al_elementData_y0R at hf
  refine lv_aload_n hx hb d_Al_elementData_0 rfl (lv_at hl 0 rfl) ?_
  refine va_get (D := D) (ci := 11) (v := .ref a_el) (C := "java/util/ArrayList") (T := F_11) (N := 3) hx hb hts i_11 hown hK hP 0 rfl rfl 0 (by decide) (hts _ gw_351) (fun _ h9 => h9) rfl d_Al_elementData_1 ?_
  refine lv_iload_n hx hb d_Al_elementData_4 rfl (lv_at hl 1 rfl) ?_
  obtain ⟨hg, hf⟩ := gdp hf
  obtain rfl := ieq_p hg
  refine va_aldq hx hb hK hP 1 7 rfl rfl (inb_in (by decide)) d_Al_elementData_5 ?_
  refine W.eq (g2 := F0 m 6 ls [.ref r_e0]) rfl ?_
  obtain rfl := Option.some.inj hf
  exact q_ra (w1 := fun _ => [(o, .inr (11, [.ref a_el, .int i_size, .int i_modCount])), (a_el, .inl (cy 7, 10, .inr (.inr (.inr (.inr (va_up (fun _ => none) 0 (some r_e0)))))))]) (rr := fun _ => some r_e0) () rfl hx hb hr (Or.inl ⟨_, rfl⟩) hlocks hK hP hD hS d_Al_elementData_6
theorem c_Al_elementData_y0R (l : Launch) (D : va_G) (cy : Nat → ClassId) (ad : Nat → Nat) (fu : Nat) (o : Nat) (a_el : Nat) (r_e0 : Nat) (i_size : Int32) (i_modCount : Int32) (a1 : Int32) (res : Unit) (hf : x_Al_elementData_y0R fu i_size i_modCount a1 = some res) (sz : Nat) : Met l ({ cls := "java/util/ArrayList", name := "elementData", desc := "(I)Ljava/lang/Object;" } : Jvm.MethodName) (.code ({ cls := "java/util/ArrayList", name := "elementData", desc := "(I)Ljava/lang/Object;" } : Jvm.MethodName) b_Al_elementData 2 (Option.some (Jvm.ClassFile.FieldType.object "java/lang/Object")) :: gw) rm_Al_elementData_y0R (va_Pc [.ref o, .int a1] (Pr D cy ad [(o, .inr (11, [.ref a_el, .int i_size, .int i_modCount])), (a_el, .inl (cy 7, 10, .inr (.inr (.inr (.inr (va_up (fun _ => none) 0 (some r_e0)))))))] sz)) (q_Al_elementData_y0R D cy (va_A [(o, .inr (11, [.ref a_el, .int i_size, .int i_modCount])), (a_el, .inl (cy 7, 10, .inr (.inr (.inr (.inr (va_up (fun _ => none) 0 (some r_e0)))))))] sz) o a_el r_e0 i_size i_modCount res) 0 0 (va_A [(o, .inr (11, [.ref a_el, .int i_size, .int i_modCount])), (a_el, .inl (cy 7, 10, .inr (.inr (.inr (.inr (va_up (fun _ => none) 0 (some r_e0)))))))] sz) :=
  q_met (Qc := fun A => q_Al_elementData_y0R D cy A o a_el r_e0 i_size i_modCount res) (by decide) rfl rfl (Nat.le_of_ble_eq_true rfl) (fun p e s m below meth c ls F hP hD hS hl => we_Al_elementData_y0R (fu := fu) F a1 res hf _ _ _ hP hD hS hl) sz
