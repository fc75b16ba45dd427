abbrev b_Ma_digestTop : ByteArray := prog_7_method_28_code
theorem d_Ma_digestTop_0 : decode b_Ma_digestTop 0 = .ok (.aload_n 0, 1) := by decide +kernel
theorem d_Ma_digestTop_1 : decode b_Ma_digestTop 1 = .ok (.getfield 73, 3) := by decide +kernel
theorem d_Ma_digestTop_4 : decode b_Ma_digestTop 4 = .ok (.iconst 1, 1) := by decide +kernel
theorem d_Ma_digestTop_5 : decode b_Ma_digestTop 5 = .ok (.if_icmp .lt 24, 3) := by decide +kernel
theorem d_Ma_digestTop_8 : decode b_Ma_digestTop 8 = .ok (.iload_n 1, 1) := by decide +kernel
theorem d_Ma_digestTop_9 : decode b_Ma_digestTop 9 = .ok (.sipush 166, 3) := by decide +kernel
theorem d_Ma_digestTop_12 : decode b_Ma_digestTop 12 = .ok (.if_icmp .eq 19, 3) := by decide +kernel
theorem d_Ma_digestTop_15 : decode b_Ma_digestTop 15 = .ok (.iload_n 1, 1) := by decide +kernel
theorem d_Ma_digestTop_16 : decode b_Ma_digestTop 16 = .ok (.sipush 168, 3) := by decide +kernel
theorem d_Ma_digestTop_19 : decode b_Ma_digestTop 19 = .ok (.if_icmp .lt 10, 3) := by decide +kernel
theorem d_Ma_digestTop_22 : decode b_Ma_digestTop 22 = .ok (.iload_n 1, 1) := by decide +kernel
theorem d_Ma_digestTop_23 : decode b_Ma_digestTop 23 = .ok (.sipush 170, 3) := by decide +kernel
theorem d_Ma_digestTop_26 : decode b_Ma_digestTop 26 = .ok (.if_icmp .le 5, 3) := by decide +kernel
theorem d_Ma_digestTop_29 : decode b_Ma_digestTop 29 = .ok (.iconst 0, 1) := by decide +kernel
theorem d_Ma_digestTop_30 : decode b_Ma_digestTop 30 = .ok (.ireturn, 1) := by decide +kernel
theorem d_Ma_digestTop_31 : decode b_Ma_digestTop 31 = .ok (.aload_n 0, 1) := by decide +kernel
theorem d_Ma_digestTop_32 : decode b_Ma_digestTop 32 = .ok (.dup, 1) := by decide +kernel
theorem d_Ma_digestTop_33 : decode b_Ma_digestTop 33 = .ok (.getfield 73, 3) := by decide +kernel
theorem d_Ma_digestTop_36 : decode b_Ma_digestTop 36 = .ok (.iconst 1, 1) := by decide +kernel
theorem d_Ma_digestTop_37 : decode b_Ma_digestTop 37 = .ok (.isub, 1) := by decide +kernel
theorem d_Ma_digestTop_38 : decode b_Ma_digestTop 38 = .ok (.putfield 73, 3) := by decide +kernel
theorem d_Ma_digestTop_41 : decode b_Ma_digestTop 41 = .ok (.aload_n 0, 1) := by decide +kernel
theorem d_Ma_digestTop_42 : decode b_Ma_digestTop 42 = .ok (.getfield 26, 3) := by decide +kernel
theorem d_Ma_digestTop_45 : decode b_Ma_digestTop 45 = .ok (.aload_n 0, 1) := by decide +kernel
theorem d_Ma_digestTop_46 : decode b_Ma_digestTop 46 = .ok (.getfield 73, 3) := by decide +kernel
theorem d_Ma_digestTop_49 : decode b_Ma_digestTop 49 = .ok (.iaload, 1) := by decide +kernel
theorem d_Ma_digestTop_50 : decode b_Ma_digestTop 50 = .ok (.invokestatic 117, 3) := by decide +kernel
theorem d_Ma_digestTop_53 : decode b_Ma_digestTop 53 = .ok (.istore_n 2, 1) := by decide +kernel
theorem d_Ma_digestTop_54 : decode b_Ma_digestTop 54 = .ok (.aload_n 0, 1) := by decide +kernel
theorem d_Ma_digestTop_55 : decode b_Ma_digestTop 55 = .ok (.getfield 26, 3) := by decide +kernel
theorem d_Ma_digestTop_58 : decode b_Ma_digestTop 58 = .ok (.aload_n 0, 1) := by decide +kernel
theorem d_Ma_digestTop_59 : decode b_Ma_digestTop 59 = .ok (.getfield 73, 3) := by decide +kernel
theorem d_Ma_digestTop_62 : decode b_Ma_digestTop 62 = .ok (.iaload, 1) := by decide +kernel
theorem d_Ma_digestTop_63 : decode b_Ma_digestTop 63 = .ok (.invokestatic 121, 3) := by decide +kernel
theorem d_Ma_digestTop_66 : decode b_Ma_digestTop 66 = .ok (.istore_n 3, 1) := by decide +kernel
theorem d_Ma_digestTop_67 : decode b_Ma_digestTop 67 = .ok (.iload_n 1, 1) := by decide +kernel
theorem d_Ma_digestTop_68 : decode b_Ma_digestTop 68 = .ok (.sipush 166, 3) := by decide +kernel
theorem d_Ma_digestTop_71 : decode b_Ma_digestTop 71 = .ok (.if_icmp .ne 27, 3) := by decide +kernel
theorem d_Ma_digestTop_74 : decode b_Ma_digestTop 74 = .ok (.aload_n 0, 1) := by decide +kernel
theorem d_Ma_digestTop_75 : decode b_Ma_digestTop 75 = .ok (.getfield 14, 3) := by decide +kernel
theorem d_Ma_digestTop_78 : decode b_Ma_digestTop 78 = .ok (.aload_n 0, 1) := by decide +kernel
theorem d_Ma_digestTop_79 : decode b_Ma_digestTop 79 = .ok (.getfield 18, 3) := by decide +kernel
theorem d_Ma_digestTop_82 : decode b_Ma_digestTop 82 = .ok (.iload_n 2, 1) := by decide +kernel
theorem d_Ma_digestTop_83 : decode b_Ma_digestTop 83 = .ok (.iload_n 3, 1) := by decide +kernel
theorem d_Ma_digestTop_84 : decode b_Ma_digestTop 84 = .ok (.aload_n 0, 1) := by decide +kernel
theorem d_Ma_digestTop_85 : decode b_Ma_digestTop 85 = .ok (.getfield 18, 3) := by decide +kernel
theorem d_Ma_digestTop_88 : decode b_Ma_digestTop 88 = .ok (.aload_n 0, 1) := by decide +kernel
theorem d_Ma_digestTop_89 : decode b_Ma_digestTop 89 = .ok (.getfield 76, 3) := by decide +kernel
theorem d_Ma_digestTop_92 : decode b_Ma_digestTop 92 = .ok (.invokevirtual 189, 3) := by decide +kernel
theorem d_Ma_digestTop_95 : decode b_Ma_digestTop 95 = .ok (.goto 24, 3) := by decide +kernel
theorem d_Ma_digestTop_98 : decode b_Ma_digestTop 98 = .ok (.aload_n 0, 1) := by decide +kernel
theorem d_Ma_digestTop_99 : decode b_Ma_digestTop 99 = .ok (.getfield 36, 3) := by decide +kernel
theorem d_Ma_digestTop_102 : decode b_Ma_digestTop 102 = .ok (.aload_n 0, 1) := by decide +kernel
theorem d_Ma_digestTop_103 : decode b_Ma_digestTop 103 = .ok (.getfield 18, 3) := by decide +kernel
theorem d_Ma_digestTop_106 : decode b_Ma_digestTop 106 = .ok (.iload_n 2, 1) := by decide +kernel
theorem d_Ma_digestTop_107 : decode b_Ma_digestTop 107 = .ok (.iload_n 3, 1) := by decide +kernel
theorem d_Ma_digestTop_108 : decode b_Ma_digestTop 108 = .ok (.aload_n 0, 1) := by decide +kernel
theorem d_Ma_digestTop_109 : decode b_Ma_digestTop 109 = .ok (.getfield 18, 3) := by decide +kernel
theorem d_Ma_digestTop_112 : decode b_Ma_digestTop 112 = .ok (.aload_n 0, 1) := by decide +kernel
theorem d_Ma_digestTop_113 : decode b_Ma_digestTop 113 = .ok (.getfield 76, 3) := by decide +kernel
theorem d_Ma_digestTop_116 : decode b_Ma_digestTop 116 = .ok (.invokevirtual 193, 3) := by decide +kernel
theorem d_Ma_digestTop_119 : decode b_Ma_digestTop 119 = .ok (.iload_n 1, 1) := by decide +kernel
theorem d_Ma_digestTop_120 : decode b_Ma_digestTop 120 = .ok (.sipush 169, 3) := by decide +kernel
theorem d_Ma_digestTop_123 : decode b_Ma_digestTop 123 = .ok (.if_icmp .ne 31, 3) := by decide +kernel
theorem d_Ma_digestTop_126 : decode b_Ma_digestTop 126 = .ok (.aload_n 0, 1) := by decide +kernel
theorem d_Ma_digestTop_127 : decode b_Ma_digestTop 127 = .ok (.getfield 14, 3) := by decide +kernel
theorem d_Ma_digestTop_130 : decode b_Ma_digestTop 130 = .ok (.aload_n 0, 1) := by decide +kernel
theorem d_Ma_digestTop_131 : decode b_Ma_digestTop 131 = .ok (.getfield 18, 3) := by decide +kernel
theorem d_Ma_digestTop_134 : decode b_Ma_digestTop 134 = .ok (.aload_n 0, 1) := by decide +kernel
theorem d_Ma_digestTop_135 : decode b_Ma_digestTop 135 = .ok (.getfield 76, 3) := by decide +kernel
theorem d_Ma_digestTop_138 : decode b_Ma_digestTop 138 = .ok (.bipush 32, 2) := by decide +kernel
theorem d_Ma_digestTop_140 : decode b_Ma_digestTop 140 = .ok (.aload_n 0, 1) := by decide +kernel
theorem d_Ma_digestTop_141 : decode b_Ma_digestTop 141 = .ok (.getfield 18, 3) := by decide +kernel
theorem d_Ma_digestTop_144 : decode b_Ma_digestTop 144 = .ok (.aload_n 0, 1) := by decide +kernel
theorem d_Ma_digestTop_145 : decode b_Ma_digestTop 145 = .ok (.getfield 76, 3) := by decide +kernel
theorem d_Ma_digestTop_148 : decode b_Ma_digestTop 148 = .ok (.invokevirtual 189, 3) := by decide +kernel
theorem d_Ma_digestTop_151 : decode b_Ma_digestTop 151 = .ok (.goto 35, 3) := by decide +kernel
theorem d_Ma_digestTop_154 : decode b_Ma_digestTop 154 = .ok (.iload_n 1, 1) := by decide +kernel
theorem d_Ma_digestTop_155 : decode b_Ma_digestTop 155 = .ok (.sipush 170, 3) := by decide +kernel
theorem d_Ma_digestTop_158 : decode b_Ma_digestTop 158 = .ok (.if_icmp .ne 28, 3) := by decide +kernel
theorem d_Ma_digestTop_161 : decode b_Ma_digestTop 161 = .ok (.aload_n 0, 1) := by decide +kernel
theorem d_Ma_digestTop_162 : decode b_Ma_digestTop 162 = .ok (.getfield 36, 3) := by decide +kernel
theorem d_Ma_digestTop_165 : decode b_Ma_digestTop 165 = .ok (.aload_n 0, 1) := by decide +kernel
theorem d_Ma_digestTop_166 : decode b_Ma_digestTop 166 = .ok (.getfield 18, 3) := by decide +kernel
theorem d_Ma_digestTop_169 : decode b_Ma_digestTop 169 = .ok (.aload_n 0, 1) := by decide +kernel
theorem d_Ma_digestTop_170 : decode b_Ma_digestTop 170 = .ok (.getfield 76, 3) := by decide +kernel
theorem d_Ma_digestTop_173 : decode b_Ma_digestTop 173 = .ok (.bipush 32, 2) := by decide +kernel
theorem d_Ma_digestTop_175 : decode b_Ma_digestTop 175 = .ok (.aload_n 0, 1) := by decide +kernel
theorem d_Ma_digestTop_176 : decode b_Ma_digestTop 176 = .ok (.getfield 18, 3) := by decide +kernel
theorem d_Ma_digestTop_179 : decode b_Ma_digestTop 179 = .ok (.aload_n 0, 1) := by decide +kernel
theorem d_Ma_digestTop_180 : decode b_Ma_digestTop 180 = .ok (.getfield 76, 3) := by decide +kernel
theorem d_Ma_digestTop_183 : decode b_Ma_digestTop 183 = .ok (.invokevirtual 193, 3) := by decide +kernel
theorem d_Ma_digestTop_186 : decode b_Ma_digestTop 186 = .ok (.iload_n 1, 1) := by decide +kernel
theorem d_Ma_digestTop_187 : decode b_Ma_digestTop 187 = .ok (.sipush 166, 3) := by decide +kernel
theorem d_Ma_digestTop_190 : decode b_Ma_digestTop 190 = .ok (.if_icmp .eq 10, 3) := by decide +kernel
theorem d_Ma_digestTop_193 : decode b_Ma_digestTop 193 = .ok (.iload_n 1, 1) := by decide +kernel
theorem d_Ma_digestTop_194 : decode b_Ma_digestTop 194 = .ok (.sipush 169, 3) := by decide +kernel
theorem d_Ma_digestTop_197 : decode b_Ma_digestTop 197 = .ok (.if_icmp .ne 8, 3) := by decide +kernel
theorem d_Ma_digestTop_200 : decode b_Ma_digestTop 200 = .ok (.bipush 20, 2) := by decide +kernel
theorem d_Ma_digestTop_202 : decode b_Ma_digestTop 202 = .ok (.goto 5, 3) := by decide +kernel
theorem d_Ma_digestTop_205 : decode b_Ma_digestTop 205 = .ok (.bipush 32, 2) := by decide +kernel
theorem d_Ma_digestTop_207 : decode b_Ma_digestTop 207 = .ok (.istore 4, 2) := by decide +kernel
theorem d_Ma_digestTop_209 : decode b_Ma_digestTop 209 = .ok (.aload_n 0, 1) := by decide +kernel
theorem d_Ma_digestTop_210 : decode b_Ma_digestTop 210 = .ok (.aload_n 0, 1) := by decide +kernel
theorem d_Ma_digestTop_211 : decode b_Ma_digestTop 211 = .ok (.getfield 76, 3) := by decide +kernel
theorem d_Ma_digestTop_214 : decode b_Ma_digestTop 214 = .ok (.bipush 8, 2) := by decide +kernel
theorem d_Ma_digestTop_216 : decode b_Ma_digestTop 216 = .ok (.ishl, 1) := by decide +kernel
theorem d_Ma_digestTop_217 : decode b_Ma_digestTop 217 = .ok (.iload 4, 2) := by decide +kernel
theorem d_Ma_digestTop_219 : decode b_Ma_digestTop 219 = .ok (.ior, 1) := by decide +kernel
theorem d_Ma_digestTop_220 : decode b_Ma_digestTop 220 = .ok (.invokevirtual 95, 3) := by decide +kernel
theorem d_Ma_digestTop_223 : decode b_Ma_digestTop 223 = .ok (.aload_n 0, 1) := by decide +kernel
theorem d_Ma_digestTop_224 : decode b_Ma_digestTop 224 = .ok (.dup, 1) := by decide +kernel
theorem d_Ma_digestTop_225 : decode b_Ma_digestTop 225 = .ok (.getfield 76, 3) := by decide +kernel
theorem d_Ma_digestTop_228 : decode b_Ma_digestTop 228 = .ok (.iload 4, 2) := by decide +kernel
theorem d_Ma_digestTop_230 : decode b_Ma_digestTop 230 = .ok (.iadd, 1) := by decide +kernel
theorem d_Ma_digestTop_231 : decode b_Ma_digestTop 231 = .ok (.putfield 76, 3) := by decide +kernel
theorem d_Ma_digestTop_234 : decode b_Ma_digestTop 234 = .ok (.iconst 1, 1) := by decide +kernel
theorem d_Ma_digestTop_235 : decode b_Ma_digestTop 235 = .ok (.ireturn, 1) := by decide +kernel
abbrev rm_Ma_digestTop : Room := { frames := 3, cells := 0, slots := 0, locals := 88 }
abbrev q_Ma_digestTop (D : va_G) (cy : Nat → ClassId) (A : Nat → Prop) (o : Nat) (r_signatures : Value) (v_a_scriptEnd : Value) (v_a_other : Value) (v_a_taken : Value) (r_layout : Value) (r_coin : Value) (o_sha : Nat) (a_sha_state : Nat) (a_sha_w : Nat) (a_sha_chunk : Nat) (o_ripemd : Nat) (a_ripemd_state : Nat) (a_ripemd_left : Nat) (a_ripemd_right : Nat) (a_ripemd_x : Nat) (a_data : Nat) (a_main : Nat) (i_otherHeight : Int32) (i_ops : Int32) (i_ifs : Int32) (i_ifsNotTaken : Int32) (i_tx : Int32) (i_in : Int32) (i_messageIsThere : Int32) (res : Int32 × Int32 × Int32 × Int32 × Int64 × (Nat → Int32) × (Nat → Int32) × (Nat → Int32) × (Nat → Int32) × (Nat → Int32) × (Nat → Int32) × (Nat → Int32) × (Nat → Int32) × (Nat → Int32)) : Array Value → State → Outcome → State → Prop := va_Qi (fun r' (_ : Unit) => r' = res.1) (fun _ t => Po D cy A [(o, .inr (6, [.ref o_sha, r_signatures, .ref o_ripemd, .ref a_data, v_a_scriptEnd, .ref a_main, v_a_other, v_a_taken, .int res.2.1, .int i_otherHeight, .int i_ops, .int i_ifs, .int i_ifsNotTaken, .int res.2.2.1, r_layout, .int i_tx, .int i_in, r_coin, .int i_messageIsThere])), (o_sha, .inr (9, [.ref a_sha_state, .ref a_sha_w, .ref a_sha_chunk, .int res.2.2.2.1, .long res.2.2.2.2.1])), (a_sha_state, .inl (cy 1, 8, .inl res.2.2.2.2.2.1)), (a_sha_w, .inl (cy 1, 64, .inl res.2.2.2.2.2.2.1)), (a_sha_chunk, .inl (cy 0, 64, .inl res.2.2.2.2.2.2.2.1)), (o_ripemd, .inr (8, [.ref a_ripemd_state, .ref a_ripemd_left, .ref a_ripemd_right, .ref a_ripemd_x])), (a_ripemd_state, .inl (cy 1, 5, .inl res.2.2.2.2.2.2.2.2.1)), (a_ripemd_left, .inl (cy 1, 5, .inl res.2.2.2.2.2.2.2.2.2.1)), (a_ripemd_right, .inl (cy 1, 5, .inl res.2.2.2.2.2.2.2.2.2.2.1)), (a_ripemd_x, .inl (cy 1, 16, .inl res.2.2.2.2.2.2.2.2.2.2.2.1)), (a_data, .inl (cy 0, 14928, .inl res.2.2.2.2.2.2.2.2.2.2.2.2.1)), (a_main, .inl (cy 1, 204, .inl res.2.2.2.2.2.2.2.2.2.2.2.2.2))] t) A
def I_Ma_digestTop_207 (p : Program) (l : Launch) (e : Env) (s : State) (m : MethodId) (args : Array Value) (below : List Frame) (meth : Method) (c : Code) (D : va_G) (cy : Nat → ClassId) (A : Nat → Prop) (ad : Nat → Nat) (o : Nat) (r_signatures : Value) (v_a_scriptEnd : Value) (v_a_other : Value) (v_a_taken : Value) (r_layout : Value) (r_coin : Value) (o_sha : Nat) (a_sha_state : Nat) (a_sha_w : Nat) (a_sha_chunk : Nat) (o_ripemd : Nat) (a_ripemd_state : Nat) (a_ripemd_left : Nat) (a_ripemd_right : Nat) (a_ripemd_x : Nat) (a_data : Nat) (a_main : Nat) (i_otherHeight : Int32) (i_ops : Int32) (i_ifs : Int32) (i_ifsNotTaken : Int32) (i_tx : Int32) (i_in : Int32) (i_messageIsThere : Int32) (k : Int32 → Int32 → Int32 → Int32 → Int64 → (Nat → Int32) → (Nat → Int32) → (Nat → Int32) → (Nat → Int32) → (Nat → Int32) → (Nat → Int32) → (Nat → Int32) → (Nat → Int32) → (Nat → Int32) → Option (Int32 × Int32 × Int32 × Int32 × Int64 × (Nat → Int32) × (Nat → Int32) × (Nat → Int32) × (Nat → Int32) × (Nat → Int32) × (Nat → Int32) × (Nat → Int32) × (Nat → Int32) × (Nat → Int32))) : Prop :=
  ∀ (y0 : Int32) (u0 : Int32) (u1 : Int32) (u2 : Int32) (u3 : Int64) (u4 : Nat → Int32) (u5 : Nat → Int32) (u6 : Nat → Int32) (u7 : Nat → Int32) (u8 : Nat → Int32) (u9 : Nat → Int32) (u10 : Nat → Int32) (u11 : Nat → Int32) (u12 : Nat → Int32) (res : Int32 × Int32 × Int32 × Int32 × Int64 × (Nat → Int32) × (Nat → Int32) × (Nat → Int32) × (Nat → Int32) × (Nat → Int32) × (Nat → Int32) × (Nat → Int32) × (Nat → Int32) × (Nat → Int32)), k y0 u0 u1 u2 u3 u4 u5 u6 u7 u8 u9 u10 u11 u12 = some res → ∀ (H : Heap) (locs : List Loc) (ls : Array Slot), va_P D classes [(o, .inr (6, [.ref o_sha, r_signatures, .ref o_ripemd, .ref a_data, v_a_scriptEnd, .ref a_main, v_a_other, v_a_taken, .int u0, .int i_otherHeight, .int i_ops, .int i_ifs, .int i_ifsNotTaken, .int u1, r_layout, .int i_tx, .int i_in, r_coin, .int i_messageIsThere])), (o_sha, .inr (9, [.ref a_sha_state, .ref a_sha_w, .ref a_sha_chunk, .int u2, .long u3])), (a_sha_state, .inl (cy 1, 8, .inl u4)), (a_sha_w, .inl (cy 1, 64, .inl u5)), (a_sha_chunk, .inl (cy 0, 64, .inl u6)), (o_ripemd, .inr (8, [.ref a_ripemd_state, .ref a_ripemd_left, .ref a_ripemd_right, .ref a_ripemd_x])), (a_ripemd_state, .inl (cy 1, 5, .inl u7)), (a_ripemd_left, .inl (cy 1, 5, .inl u8)), (a_ripemd_right, .inl (cy 1, 5, .inl u9)), (a_ripemd_x, .inl (cy 1, 16, .inl u10)), (a_data, .inl (cy 0, 14928, .inl u11)), (a_main, .inl (cy 1, 204, .inl u12))] H → va_D A [(o, .inr (6, [.ref o_sha, r_signatures, .ref o_ripemd, .ref a_data, v_a_scriptEnd, .ref a_main, v_a_other, v_a_taken, .int u0, .int i_otherHeight, .int i_ops, .int i_ifs, .int i_ifsNotTaken, .int u1, r_layout, .int i_tx, .int i_in, r_coin, .int i_messageIsThere])), (o_sha, .inr (9, [.ref a_sha_state, .ref a_sha_w, .ref a_sha_chunk, .int u2, .long u3])), (a_sha_state, .inl (cy 1, 8, .inl u4)), (a_sha_w, .inl (cy 1, 64, .inl u5)), (a_sha_chunk, .inl (cy 0, 64, .inl u6)), (o_ripemd, .inr (8, [.ref a_ripemd_state, .ref a_ripemd_left, .ref a_ripemd_right, .ref a_ripemd_x])), (a_ripemd_state, .inl (cy 1, 5, .inl u7)), (a_ripemd_left, .inl (cy 1, 5, .inl u8)), (a_ripemd_right, .inl (cy 1, 5, .inl u9)), (a_ripemd_x, .inl (cy 1, 16, .inl u10)), (a_data, .inl (cy 0, 14928, .inl u11)), (a_main, .inl (cy 1, 204, .inl u12))] → va_S A s.heap H locs → lv_has ls 5 [(0, .ref o)] → W p l e rm_Ma_digestTop s m args below meth c H locs 0 0 (MQ below (q_Ma_digestTop D cy A o r_signatures v_a_scriptEnd v_a_other v_a_taken r_layout r_coin o_sha a_sha_state a_sha_w a_sha_chunk o_ripemd a_ripemd_state a_ripemd_left a_ripemd_right a_ripemd_x a_data a_main i_otherHeight i_ops i_ifs i_ifsNotTaken i_tx i_in i_messageIsThere res) args s 0 0 A) (F0 m 207 ls [.int y0])
def I_Ma_digestTop_200 (p : Program) (l : Launch) (e : Env) (s : State) (m : MethodId) (args : Array Value) (below : List Frame) (meth : Method) (c : Code) (D : va_G) (cy : Nat → ClassId) (A : Nat → Prop) (ad : Nat → Nat) (o : Nat) (r_signatures : Value) (v_a_scriptEnd : Value) (v_a_other : Value) (v_a_taken : Value) (r_layout : Value) (r_coin : Value) (o_sha : Nat) (a_sha_state : Nat) (a_sha_w : Nat) (a_sha_chunk : Nat) (o_ripemd : Nat) (a_ripemd_state : Nat) (a_ripemd_left : Nat) (a_ripemd_right : Nat) (a_ripemd_x : Nat) (a_data : Nat) (a_main : Nat) (i_otherHeight : Int32) (i_ops : Int32) (i_ifs : Int32) (i_ifsNotTaken : Int32) (i_tx : Int32) (i_in : Int32) (i_messageIsThere : Int32) (k : Int32 → Int32 → Int32 → Int64 → (Nat → Int32) → (Nat → Int32) → (Nat → Int32) → (Nat → Int32) → (Nat → Int32) → (Nat → Int32) → (Nat → Int32) → (Nat → Int32) → (Nat → Int32) → Option (Int32 × Int32 × Int32 × Int32 × Int64 × (Nat → Int32) × (Nat → Int32) × (Nat → Int32) × (Nat → Int32) × (Nat → Int32) × (Nat → Int32) × (Nat → Int32) × (Nat → Int32) × (Nat → Int32))) : Prop :=
  ∀ (u0 : Int32) (u1 : Int32) (u2 : Int32) (u3 : Int64) (u4 : Nat → Int32) (u5 : Nat → Int32) (u6 : Nat → Int32) (u7 : Nat → Int32) (u8 : Nat → Int32) (u9 : Nat → Int32) (u10 : Nat → Int32) (u11 : Nat → Int32) (u12 : Nat → Int32) (res : Int32 × Int32 × Int32 × Int32 × Int64 × (Nat → Int32) × (Nat → Int32) × (Nat → Int32) × (Nat → Int32) × (Nat → Int32) × (Nat → Int32) × (Nat → Int32) × (Nat → Int32) × (Nat → Int32)), k u0 u1 u2 u3 u4 u5 u6 u7 u8 u9 u10 u11 u12 = some res → ∀ (H : Heap) (locs : List Loc) (ls : Array Slot), va_P D classes [(o, .inr (6, [.ref o_sha, r_signatures, .ref o_ripemd, .ref a_data, v_a_scriptEnd, .ref a_main, v_a_other, v_a_taken, .int u0, .int i_otherHeight, .int i_ops, .int i_ifs, .int i_ifsNotTaken, .int u1, r_layout, .int i_tx, .int i_in, r_coin, .int i_messageIsThere])), (o_sha, .inr (9, [.ref a_sha_state, .ref a_sha_w, .ref a_sha_chunk, .int u2, .long u3])), (a_sha_state, .inl (cy 1, 8, .inl u4)), (a_sha_w, .inl (cy 1, 64, .inl u5)), (a_sha_chunk, .inl (cy 0, 64, .inl u6)), (o_ripemd, .inr (8, [.ref a_ripemd_state, .ref a_ripemd_left, .ref a_ripemd_right, .ref a_ripemd_x])), (a_ripemd_state, .inl (cy 1, 5, .inl u7)), (a_ripemd_left, .inl (cy 1, 5, .inl u8)), (a_ripemd_right, .inl (cy 1, 5, .inl u9)), (a_ripemd_x, .inl (cy 1, 16, .inl u10)), (a_data, .inl (cy 0, 14928, .inl u11)), (a_main, .inl (cy 1, 204, .inl u12))] H → va_D A [(o, .inr (6, [.ref o_sha, r_signatures, .ref o_ripemd, .ref a_data, v_a_scriptEnd, .ref a_main, v_a_other, v_a_taken, .int u0, .int i_otherHeight, .int i_ops, .int i_ifs, .int i_ifsNotTaken, .int u1, r_layout, .int i_tx, .int i_in, r_coin, .int i_messageIsThere])), (o_sha, .inr (9, [.ref a_sha_state, .ref a_sha_w, .ref a_sha_chunk, .int u2, .long u3])), (a_sha_state, .inl (cy 1, 8, .inl u4)), (a_sha_w, .inl (cy 1, 64, .inl u5)), (a_sha_chunk, .inl (cy 0, 64, .inl u6)), (o_ripemd, .inr (8, [.ref a_ripemd_state, .ref a_ripemd_left, .ref a_ripemd_right, .ref a_ripemd_x])), (a_ripemd_state, .inl (cy 1, 5, .inl u7)), (a_ripemd_left, .inl (cy 1, 5, .inl u8)), (a_ripemd_right, .inl (cy 1, 5, .inl u9)), (a_ripemd_x, .inl (cy 1, 16, .inl u10)), (a_data, .inl (cy 0, 14928, .inl u11)), (a_main, .inl (cy 1, 204, .inl u12))] → va_S A s.heap H locs → lv_has ls 5 [(0, .ref o)] → W p l e rm_Ma_digestTop s m args below meth c H locs 0 0 (MQ below (q_Ma_digestTop D cy A o r_signatures v_a_scriptEnd v_a_other v_a_taken r_layout r_coin o_sha a_sha_state a_sha_w a_sha_chunk o_ripemd a_ripemd_state a_ripemd_left a_ripemd_right a_ripemd_x a_data a_main i_otherHeight i_ops i_ifs i_ifsNotTaken i_tx i_in i_messageIsThere res) args s 0 0 A) (F0 m 200 ls [])
def I_Ma_digestTop_186 (p : Program) (l : Launch) (e : Env) (s : State) (m : MethodId) (args : Array Value) (below : List Frame) (meth : Method) (c : Code) (D : va_G) (cy : Nat → ClassId) (A : Nat → Prop) (ad : Nat → Nat) (o : Nat) (r_signatures : Value) (v_a_scriptEnd : Value) (v_a_other : Value) (v_a_taken : Value) (r_layout : Value) (r_coin : Value) (o_sha : Nat) (a_sha_state : Nat) (a_sha_w : Nat) (a_sha_chunk : Nat) (o_ripemd : Nat) (a_ripemd_state : Nat) (a_ripemd_left : Nat) (a_ripemd_right : Nat) (a_ripemd_x : Nat) (a_data : Nat) (a_main : Nat) (i_otherHeight : Int32) (i_ops : Int32) (i_ifs : Int32) (i_ifsNotTaken : Int32) (i_tx : Int32) (i_in : Int32) (i_messageIsThere : Int32) (k : Int32 → Int32 → Int32 → Int32 → Int64 → (Nat → Int32) → (Nat → Int32) → (Nat → Int32) → (Nat → Int32) → (Nat → Int32) → (Nat → Int32) → (Nat → Int32) → (Nat → Int32) → (Nat → Int32) → Option (Int32 × Int32 × Int32 × Int32 × Int64 × (Nat → Int32) × (Nat → Int32) × (Nat → Int32) × (Nat → Int32) × (Nat → Int32) × (Nat → Int32) × (Nat → Int32) × (Nat → Int32) × (Nat → Int32))) : Prop :=
  ∀ (x1 : Int32) (u0 : Int32) (u1 : Int32) (u2 : Int32) (u3 : Int64) (u4 : Nat → Int32) (u5 : Nat → Int32) (u6 : Nat → Int32) (u7 : Nat → Int32) (u8 : Nat → Int32) (u9 : Nat → Int32) (u10 : Nat → Int32) (u11 : Nat → Int32) (u12 : Nat → Int32) (res : Int32 × Int32 × Int32 × Int32 × Int64 × (Nat → Int32) × (Nat → Int32) × (Nat → Int32) × (Nat → Int32) × (Nat → Int32) × (Nat → Int32) × (Nat → Int32) × (Nat → Int32) × (Nat → Int32)), k x1 u0 u1 u2 u3 u4 u5 u6 u7 u8 u9 u10 u11 u12 = some res → ∀ (H : Heap) (locs : List Loc) (ls : Array Slot), va_P D classes [(o, .inr (6, [.ref o_sha, r_signatures, .ref o_ripemd, .ref a_data, v_a_scriptEnd, .ref a_main, v_a_other, v_a_taken, .int u0, .int i_otherHeight, .int i_ops, .int i_ifs, .int i_ifsNotTaken, .int u1, r_layout, .int i_tx, .int i_in, r_coin, .int i_messageIsThere])), (o_sha, .inr (9, [.ref a_sha_state, .ref a_sha_w, .ref a_sha_chunk, .int u2, .long u3])), (a_sha_state, .inl (cy 1, 8, .inl u4)), (a_sha_w, .inl (cy 1, 64, .inl u5)), (a_sha_chunk, .inl (cy 0, 64, .inl u6)), (o_ripemd, .inr (8, [.ref a_ripemd_state, .ref a_ripemd_left, .ref a_ripemd_right, .ref a_ripemd_x])), (a_ripemd_state, .inl (cy 1, 5, .inl u7)), (a_ripemd_left, .inl (cy 1, 5, .inl u8)), (a_ripemd_right, .inl (cy 1, 5, .inl u9)), (a_ripemd_x, .inl (cy 1, 16, .inl u10)), (a_data, .inl (cy 0, 14928, .inl u11)), (a_main, .inl (cy 1, 204, .inl u12))] H → va_D A [(o, .inr (6, [.ref o_sha, r_signatures, .ref o_ripemd, .ref a_data, v_a_scriptEnd, .ref a_main, v_a_other, v_a_taken, .int u0, .int i_otherHeight, .int i_ops, .int i_ifs, .int i_ifsNotTaken, .int u1, r_layout, .int i_tx, .int i_in, r_coin, .int i_messageIsThere])), (o_sha, .inr (9, [.ref a_sha_state, .ref a_sha_w, .ref a_sha_chunk, .int u2, .long u3])), (a_sha_state, .inl (cy 1, 8, .inl u4)), (a_sha_w, .inl (cy 1, 64, .inl u5)), (a_sha_chunk, .inl (cy 0, 64, .inl u6)), (o_ripemd, .inr (8, [.ref a_ripemd_state, .ref a_ripemd_left, .ref a_ripemd_right, .ref a_ripemd_x])), (a_ripemd_state, .inl (cy 1, 5, .inl u7)), (a_ripemd_left, .inl (cy 1, 5, .inl u8)), (a_ripemd_right, .inl (cy 1, 5, .inl u9)), (a_ripemd_x, .inl (cy 1, 16, .inl u10)), (a_data, .inl (cy 0, 14928, .inl u11)), (a_main, .inl (cy 1, 204, .inl u12))] → va_S A s.heap H locs → lv_has ls 5 [(0, .ref o), (1, .int x1)] → W p l e rm_Ma_digestTop s m args below meth c H locs 0 0 (MQ below (q_Ma_digestTop D cy A o r_signatures v_a_scriptEnd v_a_other v_a_taken r_layout r_coin o_sha a_sha_state a_sha_w a_sha_chunk o_ripemd a_ripemd_state a_ripemd_left a_ripemd_right a_ripemd_x a_data a_main i_otherHeight i_ops i_ifs i_ifsNotTaken i_tx i_in i_messageIsThere res) args s 0 0 A) (F0 m 186 ls [])
def I_Ma_digestTop_119 (p : Program) (l : Launch) (e : Env) (s : State) (m : MethodId) (args : Array Value) (below : List Frame) (meth : Method) (c : Code) (D : va_G) (cy : Nat → ClassId) (A : Nat → Prop) (ad : Nat → Nat) (o : Nat) (r_signatures : Value) (v_a_scriptEnd : Value) (v_a_other : Value) (v_a_taken : Value) (r_layout : Value) (r_coin : Value) (o_sha : Nat) (a_sha_state : Nat) (a_sha_w : Nat) (a_sha_chunk : Nat) (o_ripemd : Nat) (a_ripemd_state : Nat) (a_ripemd_left : Nat) (a_ripemd_right : Nat) (a_ripemd_x : Nat) (a_data : Nat) (a_main : Nat) (i_otherHeight : Int32) (i_ops : Int32) (i_ifs : Int32) (i_ifsNotTaken : Int32) (i_tx : Int32) (i_in : Int32) (i_messageIsThere : Int32) (k : Int32 → Int32 → Int32 → Int32 → Int64 → (Nat → Int32) → (Nat → Int32) → (Nat → Int32) → (Nat → Int32) → (Nat → Int32) → (Nat → Int32) → (Nat → Int32) → (Nat → Int32) → (Nat → Int32) → Option (Int32 × Int32 × Int32 × Int32 × Int64 × (Nat → Int32) × (Nat → Int32) × (Nat → Int32) × (Nat → Int32) × (Nat → Int32) × (Nat → Int32) × (Nat → Int32) × (Nat → Int32) × (Nat → Int32))) : Prop :=
  ∀ (x1 : Int32) (u0 : Int32) (u1 : Int32) (u2 : Int32) (u3 : Int64) (u4 : Nat → Int32) (u5 : Nat → Int32) (u6 : Nat → Int32) (u7 : Nat → Int32) (u8 : Nat → Int32) (u9 : Nat → Int32) (u10 : Nat → Int32) (u11 : Nat → Int32) (u12 : Nat → Int32) (res : Int32 × Int32 × Int32 × Int32 × Int64 × (Nat → Int32) × (Nat → Int32) × (Nat → Int32) × (Nat → Int32) × (Nat → Int32) × (Nat → Int32) × (Nat → Int32) × (Nat → Int32) × (Nat → Int32)), k x1 u0 u1 u2 u3 u4 u5 u6 u7 u8 u9 u10 u11 u12 = some res → ∀ (H : Heap) (locs : List Loc) (ls : Array Slot), va_P D classes [(o, .inr (6, [.ref o_sha, r_signatures, .ref o_ripemd, .ref a_data, v_a_scriptEnd, .ref a_main, v_a_other, v_a_taken, .int u0, .int i_otherHeight, .int i_ops, .int i_ifs, .int i_ifsNotTaken, .int u1, r_layout, .int i_tx, .int i_in, r_coin, .int i_messageIsThere])), (o_sha, .inr (9, [.ref a_sha_state, .ref a_sha_w, .ref a_sha_chunk, .int u2, .long u3])), (a_sha_state, .inl (cy 1, 8, .inl u4)), (a_sha_w, .inl (cy 1, 64, .inl u5)), (a_sha_chunk, .inl (cy 0, 64, .inl u6)), (o_ripemd, .inr (8, [.ref a_ripemd_state, .ref a_ripemd_left, .ref a_ripemd_right, .ref a_ripemd_x])), (a_ripemd_state, .inl (cy 1, 5, .inl u7)), (a_ripemd_left, .inl (cy 1, 5, .inl u8)), (a_ripemd_right, .inl (cy 1, 5, .inl u9)), (a_ripemd_x, .inl (cy 1, 16, .inl u10)), (a_data, .inl (cy 0, 14928, .inl u11)), (a_main, .inl (cy 1, 204, .inl u12))] H → va_D A [(o, .inr (6, [.ref o_sha, r_signatures, .ref o_ripemd, .ref a_data, v_a_scriptEnd, .ref a_main, v_a_other, v_a_taken, .int u0, .int i_otherHeight, .int i_ops, .int i_ifs, .int i_ifsNotTaken, .int u1, r_layout, .int i_tx, .int i_in, r_coin, .int i_messageIsThere])), (o_sha, .inr (9, [.ref a_sha_state, .ref a_sha_w, .ref a_sha_chunk, .int u2, .long u3])), (a_sha_state, .inl (cy 1, 8, .inl u4)), (a_sha_w, .inl (cy 1, 64, .inl u5)), (a_sha_chunk, .inl (cy 0, 64, .inl u6)), (o_ripemd, .inr (8, [.ref a_ripemd_state, .ref a_ripemd_left, .ref a_ripemd_right, .ref a_ripemd_x])), (a_ripemd_state, .inl (cy 1, 5, .inl u7)), (a_ripemd_left, .inl (cy 1, 5, .inl u8)), (a_ripemd_right, .inl (cy 1, 5, .inl u9)), (a_ripemd_x, .inl (cy 1, 16, .inl u10)), (a_data, .inl (cy 0, 14928, .inl u11)), (a_main, .inl (cy 1, 204, .inl u12))] → va_S A s.heap H locs → lv_has ls 5 [(0, .ref o), (1, .int x1)] → W p l e rm_Ma_digestTop s m args below meth c H locs 0 0 (MQ below (q_Ma_digestTop D cy A o r_signatures v_a_scriptEnd v_a_other v_a_taken r_layout r_coin o_sha a_sha_state a_sha_w a_sha_chunk o_ripemd a_ripemd_state a_ripemd_left a_ripemd_right a_ripemd_x a_data a_main i_otherHeight i_ops i_ifs i_ifsNotTaken i_tx i_in i_messageIsThere res) args s 0 0 A) (F0 m 119 ls [])
def I_Ma_digestTop_31 (p : Program) (l : Launch) (e : Env) (s : State) (m : MethodId) (args : Array Value) (below : List Frame) (meth : Method) (c : Code) (D : va_G) (cy : Nat → ClassId) (A : Nat → Prop) (ad : Nat → Nat) (o : Nat) (r_signatures : Value) (v_a_scriptEnd : Value) (v_a_other : Value) (v_a_taken : Value) (r_layout : Value) (r_coin : Value) (o_sha : Nat) (a_sha_state : Nat) (a_sha_w : Nat) (a_sha_chunk : Nat) (o_ripemd : Nat) (a_ripemd_state : Nat) (a_ripemd_left : Nat) (a_ripemd_right : Nat) (a_ripemd_x : Nat) (a_data : Nat) (a_main : Nat) (i_otherHeight : Int32) (i_ops : Int32) (i_ifs : Int32) (i_ifsNotTaken : Int32) (i_tx : Int32) (i_in : Int32) (i_messageIsThere : Int32) (k : Int32 → Int32 → Int32 → Int32 → Int64 → (Nat → Int32) → (Nat → Int32) → (Nat → Int32) → (Nat → Int32) → (Nat → Int32) → (Nat → Int32) → (Nat → Int32) → (Nat → Int32) → (Nat → Int32) → Option (Int32 × Int32 × Int32 × Int32 × Int64 × (Nat → Int32) × (Nat → Int32) × (Nat → Int32) × (Nat → Int32) × (Nat → Int32) × (Nat → Int32) × (Nat → Int32) × (Nat → Int32) × (Nat → Int32))) : Prop :=
  ∀ (x1 : Int32) (u0 : Int32) (u1 : Int32) (u2 : Int32) (u3 : Int64) (u4 : Nat → Int32) (u5 : Nat → Int32) (u6 : Nat → Int32) (u7 : Nat → Int32) (u8 : Nat → Int32) (u9 : Nat → Int32) (u10 : Nat → Int32) (u11 : Nat → Int32) (u12 : Nat → Int32) (res : Int32 × Int32 × Int32 × Int32 × Int64 × (Nat → Int32) × (Nat → Int32) × (Nat → Int32) × (Nat → Int32) × (Nat → Int32) × (Nat → Int32) × (Nat → Int32) × (Nat → Int32) × (Nat → Int32)), k x1 u0 u1 u2 u3 u4 u5 u6 u7 u8 u9 u10 u11 u12 = some res → ∀ (H : Heap) (locs : List Loc) (ls : Array Slot), va_P D classes [(o, .inr (6, [.ref o_sha, r_signatures, .ref o_ripemd, .ref a_data, v_a_scriptEnd, .ref a_main, v_a_other, v_a_taken, .int u0, .int i_otherHeight, .int i_ops, .int i_ifs, .int i_ifsNotTaken, .int u1, r_layout, .int i_tx, .int i_in, r_coin, .int i_messageIsThere])), (o_sha, .inr (9, [.ref a_sha_state, .ref a_sha_w, .ref a_sha_chunk, .int u2, .long u3])), (a_sha_state, .inl (cy 1, 8, .inl u4)), (a_sha_w, .inl (cy 1, 64, .inl u5)), (a_sha_chunk, .inl (cy 0, 64, .inl u6)), (o_ripemd, .inr (8, [.ref a_ripemd_state, .ref a_ripemd_left, .ref a_ripemd_right, .ref a_ripemd_x])), (a_ripemd_state, .inl (cy 1, 5, .inl u7)), (a_ripemd_left, .inl (cy 1, 5, .inl u8)), (a_ripemd_right, .inl (cy 1, 5, .inl u9)), (a_ripemd_x, .inl (cy 1, 16, .inl u10)), (a_data, .inl (cy 0, 14928, .inl u11)), (a_main, .inl (cy 1, 204, .inl u12))] H → va_D A [(o, .inr (6, [.ref o_sha, r_signatures, .ref o_ripemd, .ref a_data, v_a_scriptEnd, .ref a_main, v_a_other, v_a_taken, .int u0, .int i_otherHeight, .int i_ops, .int i_ifs, .int i_ifsNotTaken, .int u1, r_layout, .int i_tx, .int i_in, r_coin, .int i_messageIsThere])), (o_sha, .inr (9, [.ref a_sha_state, .ref a_sha_w, .ref a_sha_chunk, .int u2, .long u3])), (a_sha_state, .inl (cy 1, 8, .inl u4)), (a_sha_w, .inl (cy 1, 64, .inl u5)), (a_sha_chunk, .inl (cy 0, 64, .inl u6)), (o_ripemd, .inr (8, [.ref a_ripemd_state, .ref a_ripemd_left, .ref a_ripemd_right, .ref a_ripemd_x])), (a_ripemd_state, .inl (cy 1, 5, .inl u7)), (a_ripemd_left, .inl (cy 1, 5, .inl u8)), (a_ripemd_right, .inl (cy 1, 5, .inl u9)), (a_ripemd_x, .inl (cy 1, 16, .inl u10)), (a_data, .inl (cy 0, 14928, .inl u11)), (a_main, .inl (cy 1, 204, .inl u12))] → va_S A s.heap H locs → lv_has ls 5 [(0, .ref o), (1, .int x1)] → W p l e rm_Ma_digestTop s m args below meth c H locs 0 0 (MQ below (q_Ma_digestTop D cy A o r_signatures v_a_scriptEnd v_a_other v_a_taken r_layout r_coin o_sha a_sha_state a_sha_w a_sha_chunk o_ripemd a_ripemd_state a_ripemd_left a_ripemd_right a_ripemd_x a_data a_main i_otherHeight i_ops i_ifs i_ifsNotTaken i_tx i_in i_messageIsThere res) args s 0 0 A) (F0 m 31 ls [])
def I_Ma_digestTop_e (p : Program) (l : Launch) (e : Env) (s : State) (m : MethodId) (args : Array Value) (below : List Frame) (meth : Method) (c : Code) (D : va_G) (cy : Nat → ClassId) (A : Nat → Prop) (ad : Nat → Nat) (o : Nat) (r_signatures : Value) (v_a_scriptEnd : Value) (v_a_other : Value) (v_a_taken : Value) (r_layout : Value) (r_coin : Value) (o_sha : Nat) (a_sha_state : Nat) (a_sha_w : Nat) (a_sha_chunk : Nat) (o_ripemd : Nat) (a_ripemd_state : Nat) (a_ripemd_left : Nat) (a_ripemd_right : Nat) (a_ripemd_x : Nat) (a_data : Nat) (a_main : Nat) (i_otherHeight : Int32) (i_ops : Int32) (i_ifs : Int32) (i_ifsNotTaken : Int32) (i_tx : Int32) (i_in : Int32) (i_messageIsThere : Int32) (k : Int32 → Int32 → Int32 → Int32 → Int64 → (Nat → Int32) → (Nat → Int32) → (Nat → Int32) → (Nat → Int32) → (Nat → Int32) → (Nat → Int32) → (Nat → Int32) → (Nat → Int32) → (Nat → Int32) → Option (Int32 × Int32 × Int32 × Int32 × Int64 × (Nat → Int32) × (Nat → Int32) × (Nat → Int32) × (Nat → Int32) × (Nat → Int32) × (Nat → Int32) × (Nat → Int32) × (Nat → Int32) × (Nat → Int32))) : Prop :=
  ∀ (a1 : Int32) (u0 : Int32) (u1 : Int32) (u2 : Int32) (u3 : Int64) (u4 : Nat → Int32) (u5 : Nat → Int32) (u6 : Nat → Int32) (u7 : Nat → Int32) (u8 : Nat → Int32) (u9 : Nat → Int32) (u10 : Nat → Int32) (u11 : Nat → Int32) (u12 : Nat → Int32) (res : Int32 × Int32 × Int32 × Int32 × Int64 × (Nat → Int32) × (Nat → Int32) × (Nat → Int32) × (Nat → Int32) × (Nat → Int32) × (Nat → Int32) × (Nat → Int32) × (Nat → Int32) × (Nat → Int32)), k a1 u0 u1 u2 u3 u4 u5 u6 u7 u8 u9 u10 u11 u12 = some res → ∀ (H : Heap) (locs : List Loc) (ls : Array Slot), va_P D classes [(o, .inr (6, [.ref o_sha, r_signatures, .ref o_ripemd, .ref a_data, v_a_scriptEnd, .ref a_main, v_a_other, v_a_taken, .int u0, .int i_otherHeight, .int i_ops, .int i_ifs, .int i_ifsNotTaken, .int u1, r_layout, .int i_tx, .int i_in, r_coin, .int i_messageIsThere])), (o_sha, .inr (9, [.ref a_sha_state, .ref a_sha_w, .ref a_sha_chunk, .int u2, .long u3])), (a_sha_state, .inl (cy 1, 8, .inl u4)), (a_sha_w, .inl (cy 1, 64, .inl u5)), (a_sha_chunk, .inl (cy 0, 64, .inl u6)), (o_ripemd, .inr (8, [.ref a_ripemd_state, .ref a_ripemd_left, .ref a_ripemd_right, .ref a_ripemd_x])), (a_ripemd_state, .inl (cy 1, 5, .inl u7)), (a_ripemd_left, .inl (cy 1, 5, .inl u8)), (a_ripemd_right, .inl (cy 1, 5, .inl u9)), (a_ripemd_x, .inl (cy 1, 16, .inl u10)), (a_data, .inl (cy 0, 14928, .inl u11)), (a_main, .inl (cy 1, 204, .inl u12))] H → va_D A [(o, .inr (6, [.ref o_sha, r_signatures, .ref o_ripemd, .ref a_data, v_a_scriptEnd, .ref a_main, v_a_other, v_a_taken, .int u0, .int i_otherHeight, .int i_ops, .int i_ifs, .int i_ifsNotTaken, .int u1, r_layout, .int i_tx, .int i_in, r_coin, .int i_messageIsThere])), (o_sha, .inr (9, [.ref a_sha_state, .ref a_sha_w, .ref a_sha_chunk, .int u2, .long u3])), (a_sha_state, .inl (cy 1, 8, .inl u4)), (a_sha_w, .inl (cy 1, 64, .inl u5)), (a_sha_chunk, .inl (cy 0, 64, .inl u6)), (o_ripemd, .inr (8, [.ref a_ripemd_state, .ref a_ripemd_left, .ref a_ripemd_right, .ref a_ripemd_x])), (a_ripemd_state, .inl (cy 1, 5, .inl u7)), (a_ripemd_left, .inl (cy 1, 5, .inl u8)), (a_ripemd_right, .inl (cy 1, 5, .inl u9)), (a_ripemd_x, .inl (cy 1, 16, .inl u10)), (a_data, .inl (cy 0, 14928, .inl u11)), (a_main, .inl (cy 1, 204, .inl u12))] → va_S A s.heap H locs → lv_has ls 5 [(0, .ref o), (1, .int a1)] → W p l e rm_Ma_digestTop s m args below meth c H locs 0 0 (MQ below (q_Ma_digestTop D cy A o r_signatures v_a_scriptEnd v_a_other v_a_taken r_layout r_coin o_sha a_sha_state a_sha_w a_sha_chunk o_ripemd a_ripemd_state a_ripemd_left a_ripemd_right a_ripemd_x a_data a_main i_otherHeight i_ops i_ifs i_ifsNotTaken i_tx i_in i_messageIsThere res) args s 0 0 A) (F0 m 0 ls [])
theorem hdc_42 : ({ cls := "CoinKeeper$Machine", name := "push", desc := "(I)V" } : Jvm.MethodName).cls ≠ "java/lang/invoke/MethodHandle" ∧ ({ cls := "CoinKeeper$Machine", name := "push", desc := "(I)V" } : Jvm.MethodName).cls ≠ "java/lang/invoke/VarHandle" ∧ (parseMethodDescriptor ({ cls := "CoinKeeper$Machine", name := "push", desc := "(I)V" } : Jvm.MethodName).desc).map (fun d => d.parameters.length) = some 1 := by decide +kernel
set_option maxHeartbeats 8000000 in
set_option maxRecDepth 100000 in
theorem wb_Ma_digestTop_207 {p : Program} {l : Launch} {e : Env} {s : State} {m : MethodId} {args : Array Value} {below : List Frame} {meth : Method} {c : Code} {D : va_G} {cy : Nat → ClassId} {A : Nat → Prop} {ad : Nat → Nat} {o : Nat} {r_signatures : Value} {v_a_scriptEnd : Value} {v_a_other : Value} {v_a_taken : Value} {r_layout : Value} {r_coin : Value} {o_sha : Nat} {a_sha_state : Nat} {a_sha_w : Nat} {a_sha_chunk : Nat} {o_ripemd : Nat} {a_ripemd_state : Nat} {a_ripemd_left : Nat} {a_ripemd_right : Nat} {a_ripemd_x : Nat} {a_data : Nat} {a_main : Nat} {i_otherHeight : Int32} {i_ops : Int32} {i_ifs : Int32} {i_ifsNotTaken : Int32} {i_tx : Int32} {i_in : Int32} {i_messageIsThere : Int32} {fu : Nat} (F : Fx p s m args meth c b_Ma_digestTop 5 "CoinKeeper$Machine" "digestTop" (some .boolean) D cy ad A) : I_Ma_digestTop_207 p l e s m args below meth c D cy A ad o r_signatures v_a_scriptEnd v_a_other v_a_taken r_layout r_coin o_sha a_sha_state a_sha_w a_sha_chunk o_ripemd a_ripemd_state a_ripemd_left a_ripemd_right a_ripemd_x a_data a_main i_otherHeight i_ops i_ifs i_ifsNotTaken i_tx i_in i_messageIsThere (xb_Ma_digestTop_207 fu i_otherHeight i_ops i_ifs i_ifsNotTaken i_tx i_in i_messageIsThere) := by
  obtain ⟨hx, hb, hr, hml, hown, hts, hlocks, hK, hA, hSt, hnm, hex⟩ := id F
  intro y0 u0 u1 u2 u3 u4 u5 u6 u7 u8 u9 u10 u11 u12 res hf H locs ls hP hD hS hl
  unfold xb_Ma_digestTop_207 at hf
  refine lv_istore (lv' := [(4, .int y0), (0, .ref o)]) hx hb d_Ma_digestTop_207 hl (by decide) rfl (fun ls hl => ?_)
  refine lv_aload_n hx hb d_Ma_digestTop_209 rfl (lv_at hl 1 rfl) ?_
  refine lv_aload_n hx hb d_Ma_digestTop_210 rfl (lv_at hl 1 rfl) ?_
  refine va_get (D := D) (ci := 6) (v := .int u1) (C := "CoinKeeper$Machine") (T := F_6) (N := 19) hx hb hts i_6 hown hK hP 0 rfl rfl 13 (by decide) (hts _ gw_217) (fun _ h9 => h9) rfl d_Ma_digestTop_211 ?_
  refine lv_bipush (v := 8) hx hb d_Ma_digestTop_214 (by decide) ?_
  refine lv_ishl hx hb d_Ma_digestTop_216 ?_
  refine lv_topi (fun v1 ev => ?_)
  have hf := bn ev hf
  clear ev
  refine lv_iload hx hb d_Ma_digestTop_217 (lv_at hl 0 rfl) ?_
  refine lv_ior hx hb d_Ma_digestTop_219 ?_
  refine lv_topi (fun v2 ev => ?_)
  have hf := bn ev hf
  clear ev
  obtain ⟨e3, f4, hc, hf⟩ := bdp2 hf
  refine q_av (wr := [(o_sha, .inr (9, [.ref a_sha_state, .ref a_sha_w, .ref a_sha_chunk, .int u2, .long u3])), (a_sha_state, .inl (cy 1, 8, .inl u4)), (a_sha_w, .inl (cy 1, 64, .inl u5)), (a_sha_chunk, .inl (cy 0, 64, .inl u6)), (o_ripemd, .inr (8, [.ref a_ripemd_state, .ref a_ripemd_left, .ref a_ripemd_right, .ref a_ripemd_x])), (a_ripemd_state, .inl (cy 1, 5, .inl u7)), (a_ripemd_left, .inl (cy 1, 5, .inl u8)), (a_ripemd_right, .inl (cy 1, 5, .inl u9)), (a_ripemd_x, .inl (cy 1, 16, .inl u10)), (a_data, .inl (cy 0, 14928, .inl u11))]) (va_runV (C := "CoinKeeper$Machine") (As := [.int v2]) (rest := []) ⟨hx, hb, hml, hown, hts⟩ (c_Ma_push l D cy ad fu o (.ref o_sha) r_signatures (.ref o_ripemd) (.ref a_data) v_a_scriptEnd v_a_other v_a_taken r_layout r_coin a_main i_otherHeight i_ops i_ifs i_ifsNotTaken u1 i_tx i_in i_messageIsThere v2 u0 u12 _ hc H.size) ⟨q_cB hts gw_988 gw_6 gw_985 hdc_42 ⟨by decide, by decide⟩, hts _ gw_987, hts _ gs_28⟩ (q_preV (q_pre (hP.sub [0, 11] rfl) (hD.sub [0, 11] (by decide) rfl) hK hSt hS (va_free hD hS hA [0, 11] rfl) _) (va_recv hK (hP.sub [0, 11] rfl) (ci := 6) (q0 := 0) rfl rfl)) rfl rfl hl.1 rfl (lv_room (Nat.le_of_ble_eq_true rfl)) d_Ma_digestTop_220 ⟨Nat.le_of_ble_eq_true rfl, Nat.le_of_ble_eq_true rfl⟩) hP hD hS hA [0, 11] [1, 2, 3, 4, 5, 6, 7, 8, 9, 10] rfl rfl (by decide) (by decide) (fun H locs hP hD hS => ?_)
  clear hc
  have hP : va_P D classes [(o_sha, .inr (9, [.ref a_sha_state, .ref a_sha_w, .ref a_sha_chunk, .int u2, .long u3])), (a_sha_state, .inl (cy 1, 8, .inl u4)), (a_sha_w, .inl (cy 1, 64, .inl u5)), (a_sha_chunk, .inl (cy 0, 64, .inl u6)), (o_ripemd, .inr (8, [.ref a_ripemd_state, .ref a_ripemd_left, .ref a_ripemd_right, .ref a_ripemd_x])), (a_ripemd_state, .inl (cy 1, 5, .inl u7)), (a_ripemd_left, .inl (cy 1, 5, .inl u8)), (a_ripemd_right, .inl (cy 1, 5, .inl u9)), (a_ripemd_x, .inl (cy 1, 16, .inl u10)), (a_data, .inl (cy 0, 14928, .inl u11)), (o, .inr (6, [.ref o_sha, r_signatures, .ref o_ripemd, .ref a_data, v_a_scriptEnd, .ref a_main, v_a_other, v_a_taken, .int e3, .int i_otherHeight, .int i_ops, .int i_ifs, .int i_ifsNotTaken, .int u1, r_layout, .int i_tx, .int i_in, r_coin, .int i_messageIsThere])), (a_main, .inl (cy 1, 204, .inl f4))] H := hP
  have hD : va_D A [(o_sha, .inr (9, [.ref a_sha_state, .ref a_sha_w, .ref a_sha_chunk, .int u2, .long u3])), (a_sha_state, .inl (cy 1, 8, .inl u4)), (a_sha_w, .inl (cy 1, 64, .inl u5)), (a_sha_chunk, .inl (cy 0, 64, .inl u6)), (o_ripemd, .inr (8, [.ref a_ripemd_state, .ref a_ripemd_left, .ref a_ripemd_right, .ref a_ripemd_x])), (a_ripemd_state, .inl (cy 1, 5, .inl u7)), (a_ripemd_left, .inl (cy 1, 5, .inl u8)), (a_ripemd_right, .inl (cy 1, 5, .inl u9)), (a_ripemd_x, .inl (cy 1, 16, .inl u10)), (a_data, .inl (cy 0, 14928, .inl u11)), (o, .inr (6, [.ref o_sha, r_signatures, .ref o_ripemd, .ref a_data, v_a_scriptEnd, .ref a_main, v_a_other, v_a_taken, .int e3, .int i_otherHeight, .int i_ops, .int i_ifs, .int i_ifsNotTaken, .int u1, r_layout, .int i_tx, .int i_in, r_coin, .int i_messageIsThere])), (a_main, .inl (cy 1, 204, .inl f4))] := hD
  refine lv_aload_n hx hb d_Ma_digestTop_223 rfl (lv_at hl 1 rfl) ?_
  refine lv_dup hx hb d_Ma_digestTop_224 rfl ?_
  refine va_get (D := D) (ci := 6) (v := .int u1) (C := "CoinKeeper$Machine") (T := F_6) (N := 19) hx hb hts i_6 hown hK hP 10 rfl rfl 13 (by decide) (hts _ gw_217) (fun _ h9 => h9) rfl d_Ma_digestTop_225 ?_
  refine lv_iload hx hb d_Ma_digestTop_228 (lv_at hl 0 rfl) ?_
  refine lv_iadd hx hb d_Ma_digestTop_230 ?_
  refine lv_topi (fun v5 ev => ?_)
  have hf := bn ev hf
  clear ev
  refine va_put (D := D) (ci := 6) (v := .int v5) (ty := .int) (C := "CoinKeeper$Machine") (T := F_6) (N := 19) hx hb hts i_6 t_6 t_6_ok n_6 hown hK hP hD hS 10 rfl rfl 13 (by decide) (hts _ gw_217) (fun _ h9 => h9) rfl (by decide +kernel) rfl rfl (Nat.le_of_ble_eq_true rfl) d_Ma_digestTop_231 (fun H locs hP hD hS => ?_)
  have hP : va_P D classes [(o_sha, .inr (9, [.ref a_sha_state, .ref a_sha_w, .ref a_sha_chunk, .int u2, .long u3])), (a_sha_state, .inl (cy 1, 8, .inl u4)), (a_sha_w, .inl (cy 1, 64, .inl u5)), (a_sha_chunk, .inl (cy 0, 64, .inl u6)), (o_ripemd, .inr (8, [.ref a_ripemd_state, .ref a_ripemd_left, .ref a_ripemd_right, .ref a_ripemd_x])), (a_ripemd_state, .inl (cy 1, 5, .inl u7)), (a_ripemd_left, .inl (cy 1, 5, .inl u8)), (a_ripemd_right, .inl (cy 1, 5, .inl u9)), (a_ripemd_x, .inl (cy 1, 16, .inl u10)), (a_data, .inl (cy 0, 14928, .inl u11)), (o, .inr (6, [.ref o_sha, r_signatures, .ref o_ripemd, .ref a_data, v_a_scriptEnd, .ref a_main, v_a_other, v_a_taken, .int e3, .int i_otherHeight, .int i_ops, .int i_ifs, .int i_ifsNotTaken, .int v5, r_layout, .int i_tx, .int i_in, r_coin, .int i_messageIsThere])), (a_main, .inl (cy 1, 204, .inl f4))] H := hP
  have hD : va_D A [(o_sha, .inr (9, [.ref a_sha_state, .ref a_sha_w, .ref a_sha_chunk, .int u2, .long u3])), (a_sha_state, .inl (cy 1, 8, .inl u4)), (a_sha_w, .inl (cy 1, 64, .inl u5)), (a_sha_chunk, .inl (cy 0, 64, .inl u6)), (o_ripemd, .inr (8, [.ref a_ripemd_state, .ref a_ripemd_left, .ref a_ripemd_right, .ref a_ripemd_x])), (a_ripemd_state, .inl (cy 1, 5, .inl u7)), (a_ripemd_left, .inl (cy 1, 5, .inl u8)), (a_ripemd_right, .inl (cy 1, 5, .inl u9)), (a_ripemd_x, .inl (cy 1, 16, .inl u10)), (a_data, .inl (cy 0, 14928, .inl u11)), (o, .inr (6, [.ref o_sha, r_signatures, .ref o_ripemd, .ref a_data, v_a_scriptEnd, .ref a_main, v_a_other, v_a_taken, .int e3, .int i_otherHeight, .int i_ops, .int i_ifs, .int i_ifsNotTaken, .int v5, r_layout, .int i_tx, .int i_in, r_coin, .int i_messageIsThere])), (a_main, .inl (cy 1, 204, .inl f4))] := hD
  refine lv_iconst (v := 1) hx hb d_Ma_digestTop_234 (by decide) ?_
  obtain rfl := Option.some.inj hf
  exact q_rz hx hb hr hlocks hK (hP.sub [10, 0, 1, 2, 3, 4, 5, 6, 7, 8, 9, 11] rfl) (hD.sub [10, 0, 1, 2, 3, 4, 5, 6, 7, 8, 9, 11] (by decide) rfl) hS (isb_n (v := 1) (by decide)) d_Ma_digestTop_235
set_option maxHeartbeats 8000000 in
set_option maxRecDepth 100000 in
theorem wb_Ma_digestTop_200 {p : Program} {l : Launch} {e : Env} {s : State} {m : MethodId} {args : Array Value} {below : List Frame} {meth : Method} {c : Code} {D : va_G} {cy : Nat → ClassId} {A : Nat → Prop} {ad : Nat → Nat} {o : Nat} {r_signatures : Value} {v_a_scriptEnd : Value} {v_a_other : Value} {v_a_taken : Value} {r_layout : Value} {r_coin : Value} {o_sha : Nat} {a_sha_state : Nat} {a_sha_w : Nat} {a_sha_chunk : Nat} {o_ripemd : Nat} {a_ripemd_state : Nat} {a_ripemd_left : Nat} {a_ripemd_right : Nat} {a_ripemd_x : Nat} {a_data : Nat} {a_main : Nat} {i_otherHeight : Int32} {i_ops : Int32} {i_ifs : Int32} {i_ifsNotTaken : Int32} {i_tx : Int32} {i_in : Int32} {i_messageIsThere : Int32} {fu : Nat} (F : Fx p s m args meth c b_Ma_digestTop 5 "CoinKeeper$Machine" "digestTop" (some .boolean) D cy ad A) : I_Ma_digestTop_200 p l e s m args below meth c D cy A ad o r_signatures v_a_scriptEnd v_a_other v_a_taken r_layout r_coin o_sha a_sha_state a_sha_w a_sha_chunk o_ripemd a_ripemd_state a_ripemd_left a_ripemd_right a_ripemd_x a_data a_main i_otherHeight i_ops i_ifs i_ifsNotTaken i_tx i_in i_messageIsThere (xb_Ma_digestTop_200 fu i_otherHeight i_ops i_ifs i_ifsNotTaken i_tx i_in i_messageIsThere) := by
  obtain ⟨hx, hb, hr, hml, hown, hts, hlocks, hK, hA, hSt, hnm, hex⟩ := id F
  intro u0 u1 u2 u3 u4 u5 u6 u7 u8 u9 u10 u11 u12 res hf H locs ls hP hD hS hl
  unfold xb_Ma_digestTop_200 at hf
  refine lv_bipush (v := 20) hx hb d_Ma_digestTop_200 (by decide) ?_
  refine lv_goto (tgt := 207) hx hb d_Ma_digestTop_202 (by decide) ?_
  exact wb_Ma_digestTop_207 (fu := fu) F _ _ _ _ _ _ _ _ _ _ _ _ _ _ _ hf _ _ _ hP hD hS (lv_sub hl [0] rfl)
set_option maxHeartbeats 8000000 in
set_option maxRecDepth 100000 in
theorem wb_Ma_digestTop_186 {p : Program} {l : Launch} {e : Env} {s : State} {m : MethodId} {args : Array Value} {below : List Frame} {meth : Method} {c : Code} {D : va_G} {cy : Nat → ClassId} {A : Nat → Prop} {ad : Nat → Nat} {o : Nat} {r_signatures : Value} {v_a_scriptEnd : Value} {v_a_other : Value} {v_a_taken : Value} {r_layout : Value} {r_coin : Value} {o_sha : Nat} {a_sha_state : Nat} {a_sha_w : Nat} {a_sha_chunk : Nat} {o_ripemd : Nat} {a_ripemd_state : Nat} {a_ripemd_left : Nat} {a_ripemd_right : Nat} {a_ripemd_x : Nat} {a_data : Nat} {a_main : Nat} {i_otherHeight : Int32} {i_ops : Int32} {i_ifs : Int32} {i_ifsNotTaken : Int32} {i_tx : Int32} {i_in : Int32} {i_messageIsThere : Int32} {fu : Nat} (F : Fx p s m args meth c b_Ma_digestTop 5 "CoinKeeper$Machine" "digestTop" (some .boolean) D cy ad A) : I_Ma_digestTop_186 p l e s m args below meth c D cy A ad o r_signatures v_a_scriptEnd v_a_other v_a_taken r_layout r_coin o_sha a_sha_state a_sha_w a_sha_chunk o_ripemd a_ripemd_state a_ripemd_left a_ripemd_right a_ripemd_x a_data a_main i_otherHeight i_ops i_ifs i_ifsNotTaken i_tx i_in i_messageIsThere (xb_Ma_digestTop_186 fu i_otherHeight i_ops i_ifs i_ifsNotTaken i_tx i_in i_messageIsThere) := by
  obtain ⟨hx, hb, hr, hml, hown, hts, hlocks, hK, hA, hSt, hnm, hex⟩ := id F
  intro x1 u0 u1 u2 u3 u4 u5 u6 u7 u8 u9 u10 u11 u12 res hf H locs ls hP hD hS hl
  unfold xb_Ma_digestTop_186 at hf
  refine lv_iload_n hx hb d_Ma_digestTop_186 rfl (lv_at hl 1 rfl) ?_
  refine lv_sipush (v := 166) hx hb d_Ma_digestTop_187 (by decide) ?_
  refine lv_icmp_eq (tgt := 200) hx hb d_Ma_digestTop_190 (by decide) (fun cx => ?_) (fun cx => ?_)
  · have hf := ifp cx hf
    exact wb_Ma_digestTop_200 (fu := fu) F _ _ _ _ _ _ _ _ _ _ _ _ _ _ hf _ _ _ hP hD hS (lv_sub hl [0] rfl)
  · have hf := ifn cx hf
    refine lv_iload_n hx hb d_Ma_digestTop_193 rfl (lv_at hl 1 rfl) ?_
    refine lv_sipush (v := 169) hx hb d_Ma_digestTop_194 (by decide) ?_
    refine lv_icmp_ne (tgt := 205) hx hb d_Ma_digestTop_197 (by decide) (fun cx => ?_) (fun cx => ?_)
    · have hf := ifn cx hf
      refine lv_bipush (v := 32) hx hb d_Ma_digestTop_205 (by decide) ?_
      exact wb_Ma_digestTop_207 (fu := fu) F _ _ _ _ _ _ _ _ _ _ _ _ _ _ _ hf _ _ _ hP hD hS (lv_sub hl [0] rfl)
    · have hf := ifp cx hf
      exact wb_Ma_digestTop_200 (fu := fu) F _ _ _ _ _ _ _ _ _ _ _ _ _ _ hf _ _ _ hP hD hS (lv_sub hl [0] rfl)
theorem hdc_43 : ({ cls := "CoinKeeper$Ripemd160", name := "once", desc := "([BII[BI)V" } : Jvm.MethodName).cls ≠ "java/lang/invoke/MethodHandle" ∧ ({ cls := "CoinKeeper$Ripemd160", name := "once", desc := "([BII[BI)V" } : Jvm.MethodName).cls ≠ "java/lang/invoke/VarHandle" ∧ (parseMethodDescriptor ({ cls := "CoinKeeper$Ripemd160", name := "once", desc := "([BII[BI)V" } : Jvm.MethodName).desc).map (fun d => d.parameters.length) = some 5 := by decide +kernel
set_option maxHeartbeats 8000000 in
set_option maxRecDepth 100000 in
theorem wb_Ma_digestTop_119 {p : Program} {l : Launch} {e : Env} {s : State} {m : MethodId} {args : Array Value} {below : List Frame} {meth : Method} {c : Code} {D : va_G} {cy : Nat → ClassId} {A : Nat → Prop} {ad : Nat → Nat} {o : Nat} {r_signatures : Value} {v_a_scriptEnd : Value} {v_a_other : Value} {v_a_taken : Value} {r_layout : Value} {r_coin : Value} {o_sha : Nat} {a_sha_state : Nat} {a_sha_w : Nat} {a_sha_chunk : Nat} {o_ripemd : Nat} {a_ripemd_state : Nat} {a_ripemd_left : Nat} {a_ripemd_right : Nat} {a_ripemd_x : Nat} {a_data : Nat} {a_main : Nat} {i_otherHeight : Int32} {i_ops : Int32} {i_ifs : Int32} {i_ifsNotTaken : Int32} {i_tx : Int32} {i_in : Int32} {i_messageIsThere : Int32} {fu : Nat} (F : Fx p s m args meth c b_Ma_digestTop 5 "CoinKeeper$Machine" "digestTop" (some .boolean) D cy ad A) : I_Ma_digestTop_119 p l e s m args below meth c D cy A ad o r_signatures v_a_scriptEnd v_a_other v_a_taken r_layout r_coin o_sha a_sha_state a_sha_w a_sha_chunk o_ripemd a_ripemd_state a_ripemd_left a_ripemd_right a_ripemd_x a_data a_main i_otherHeight i_ops i_ifs i_ifsNotTaken i_tx i_in i_messageIsThere (xb_Ma_digestTop_119 fu i_otherHeight i_ops i_ifs i_ifsNotTaken i_tx i_in i_messageIsThere) := by
  obtain ⟨hx, hb, hr, hml, hown, hts, hlocks, hK, hA, hSt, hnm, hex⟩ := id F
  intro x1 u0 u1 u2 u3 u4 u5 u6 u7 u8 u9 u10 u11 u12 res hf H locs ls hP hD hS hl
  unfold xb_Ma_digestTop_119 at hf
  refine lv_iload_n hx hb d_Ma_digestTop_119 rfl (lv_at hl 1 rfl) ?_
  refine lv_sipush (v := 169) hx hb d_Ma_digestTop_120 (by decide) ?_
  refine lv_icmp_ne (tgt := 154) hx hb d_Ma_digestTop_123 (by decide) (fun cx => ?_) (fun cx => ?_)
  · have hf := ifn cx hf
    refine lv_iload_n hx hb d_Ma_digestTop_154 rfl (lv_at hl 1 rfl) ?_
    refine lv_sipush (v := 170) hx hb d_Ma_digestTop_155 (by decide) ?_
    refine lv_icmp_ne (tgt := 186) hx hb d_Ma_digestTop_158 (by decide) (fun cx => ?_) (fun cx => ?_)
    · have hf := ifn cx hf
      exact wb_Ma_digestTop_186 (fu := fu) F _ _ _ _ _ _ _ _ _ _ _ _ _ _ _ hf _ _ _ hP hD hS (lv_sub hl [0, 1] rfl)
    · have hf := ifp cx hf
      refine lv_aload_n hx hb d_Ma_digestTop_161 rfl (lv_at hl 0 rfl) ?_
      refine va_get (D := D) (ci := 6) (v := .ref o_sha) (C := "CoinKeeper$Machine") (T := F_6) (N := 19) hx hb hts i_6 hown hK hP 0 rfl rfl 0 (by decide) (hts _ gw_204) (fun _ h9 => h9) rfl d_Ma_digestTop_162 ?_
      refine lv_aload_n hx hb d_Ma_digestTop_165 rfl (lv_at hl 0 rfl) ?_
      refine va_get (D := D) (ci := 6) (v := .ref a_data) (C := "CoinKeeper$Machine") (T := F_6) (N := 19) hx hb hts i_6 hown hK hP 0 rfl rfl 3 (by decide) (hts _ gw_207) (fun _ h9 => h9) rfl d_Ma_digestTop_166 ?_
      refine lv_aload_n hx hb d_Ma_digestTop_169 rfl (lv_at hl 0 rfl) ?_
      refine va_get (D := D) (ci := 6) (v := .int u1) (C := "CoinKeeper$Machine") (T := F_6) (N := 19) hx hb hts i_6 hown hK hP 0 rfl rfl 13 (by decide) (hts _ gw_217) (fun _ h9 => h9) rfl d_Ma_digestTop_170 ?_
      refine lv_bipush (v := 32) hx hb d_Ma_digestTop_173 (by decide) ?_
      refine lv_aload_n hx hb d_Ma_digestTop_175 rfl (lv_at hl 0 rfl) ?_
      refine va_get (D := D) (ci := 6) (v := .ref a_data) (C := "CoinKeeper$Machine") (T := F_6) (N := 19) hx hb hts i_6 hown hK hP 0 rfl rfl 3 (by decide) (hts _ gw_207) (fun _ h9 => h9) rfl d_Ma_digestTop_176 ?_
      refine lv_aload_n hx hb d_Ma_digestTop_179 rfl (lv_at hl 0 rfl) ?_
      refine va_get (D := D) (ci := 6) (v := .int u1) (C := "CoinKeeper$Machine") (T := F_6) (N := 19) hx hb hts i_6 hown hK hP 0 rfl rfl 13 (by decide) (hts _ gw_217) (fun _ h9 => h9) rfl d_Ma_digestTop_180 ?_
      obtain ⟨e1, e2, f3, f4, f5, f6, hc, hf⟩ := bdp6 hf
      refine q_av (wr := [(o, .inr (6, [.ref o_sha, r_signatures, .ref o_ripemd, .ref a_data, v_a_scriptEnd, .ref a_main, v_a_other, v_a_taken, .int u0, .int i_otherHeight, .int i_ops, .int i_ifs, .int i_ifsNotTaken, .int u1, r_layout, .int i_tx, .int i_in, r_coin, .int i_messageIsThere])), (o_ripemd, .inr (8, [.ref a_ripemd_state, .ref a_ripemd_left, .ref a_ripemd_right, .ref a_ripemd_x])), (a_ripemd_state, .inl (cy 1, 5, .inl u7)), (a_ripemd_left, .inl (cy 1, 5, .inl u8)), (a_ripemd_right, .inl (cy 1, 5, .inl u9)), (a_ripemd_x, .inl (cy 1, 16, .inl u10)), (a_main, .inl (cy 1, 204, .inl u12))]) (va_runV (C := "CoinKeeper$Sha256") (As := [.ref a_data, .int u1, .int (32 : Int32), .ref a_data, .int u1]) (rest := []) ⟨hx, hb, hml, hown, hts⟩ (c_Sh_once_e41 l D cy ad fu o_sha a_sha_state a_sha_w a_sha_chunk a_data 14928 u1 (32 : Int32) u1 u2 u3 u4 u5 u6 u11 _ hc H.size) ⟨q_cB hts gw_711 gw_2 gw_1267 hdc_8 ⟨by decide, by decide⟩, hts _ gw_709, hts _ gw_710⟩ (q_preV (q_pre (hP.sub [1, 2, 3, 4, 10] rfl) (hD.sub [1, 2, 3, 4, 10] (by decide) rfl) hK hSt hS (va_free hD hS hA [1, 2, 3, 4, 10] rfl) _) (va_recv hK (hP.sub [1, 2, 3, 4, 10] rfl) (ci := 9) (q0 := 0) rfl rfl)) rfl rfl hl.1 rfl (lv_room (Nat.le_of_ble_eq_true rfl)) d_Ma_digestTop_183 ⟨Nat.le_of_ble_eq_true rfl, Nat.le_of_ble_eq_true rfl⟩) hP hD hS hA [1, 2, 3, 4, 10] [0, 5, 6, 7, 8, 9, 11] rfl rfl (by decide) (by decide) (fun H locs hP hD hS => ?_)
      clear hc
      have hP : va_P D classes [(o, .inr (6, [.ref o_sha, r_signatures, .ref o_ripemd, .ref a_data, v_a_scriptEnd, .ref a_main, v_a_other, v_a_taken, .int u0, .int i_otherHeight, .int i_ops, .int i_ifs, .int i_ifsNotTaken, .int u1, r_layout, .int i_tx, .int i_in, r_coin, .int i_messageIsThere])), (o_ripemd, .inr (8, [.ref a_ripemd_state, .ref a_ripemd_left, .ref a_ripemd_right, .ref a_ripemd_x])), (a_ripemd_state, .inl (cy 1, 5, .inl u7)), (a_ripemd_left, .inl (cy 1, 5, .inl u8)), (a_ripemd_right, .inl (cy 1, 5, .inl u9)), (a_ripemd_x, .inl (cy 1, 16, .inl u10)), (a_main, .inl (cy 1, 204, .inl u12)), (o_sha, .inr (9, [.ref a_sha_state, .ref a_sha_w, .ref a_sha_chunk, .int e1, .long e2])), (a_sha_state, .inl (cy 1, 8, .inl f3)), (a_sha_w, .inl (cy 1, 64, .inl f4)), (a_sha_chunk, .inl (cy 0, 64, .inl f5)), (a_data, .inl (cy 0, 14928, .inl f6))] H := hP
      have hD : va_D A [(o, .inr (6, [.ref o_sha, r_signatures, .ref o_ripemd, .ref a_data, v_a_scriptEnd, .ref a_main, v_a_other, v_a_taken, .int u0, .int i_otherHeight, .int i_ops, .int i_ifs, .int i_ifsNotTaken, .int u1, r_layout, .int i_tx, .int i_in, r_coin, .int i_messageIsThere])), (o_ripemd, .inr (8, [.ref a_ripemd_state, .ref a_ripemd_left, .ref a_ripemd_right, .ref a_ripemd_x])), (a_ripemd_state, .inl (cy 1, 5, .inl u7)), (a_ripemd_left, .inl (cy 1, 5, .inl u8)), (a_ripemd_right, .inl (cy 1, 5, .inl u9)), (a_ripemd_x, .inl (cy 1, 16, .inl u10)), (a_main, .inl (cy 1, 204, .inl u12)), (o_sha, .inr (9, [.ref a_sha_state, .ref a_sha_w, .ref a_sha_chunk, .int e1, .long e2])), (a_sha_state, .inl (cy 1, 8, .inl f3)), (a_sha_w, .inl (cy 1, 64, .inl f4)), (a_sha_chunk, .inl (cy 0, 64, .inl f5)), (a_data, .inl (cy 0, 14928, .inl f6))] := hD
      exact wb_Ma_digestTop_186 (fu := fu) F _ _ _ _ _ _ _ _ _ _ _ _ _ _ _ hf _ _ _ (hP.sub (ws' := [(o, .inr (6, [.ref o_sha, r_signatures, .ref o_ripemd, .ref a_data, v_a_scriptEnd, .ref a_main, v_a_other, v_a_taken, .int u0, .int i_otherHeight, .int i_ops, .int i_ifs, .int i_ifsNotTaken, .int u1, r_layout, .int i_tx, .int i_in, r_coin, .int i_messageIsThere])), (o_sha, .inr (9, [.ref a_sha_state, .ref a_sha_w, .ref a_sha_chunk, .int e1, .long e2])), (a_sha_state, .inl (cy 1, 8, .inl f3)), (a_sha_w, .inl (cy 1, 64, .inl f4)), (a_sha_chunk, .inl (cy 0, 64, .inl f5)), (o_ripemd, .inr (8, [.ref a_ripemd_state, .ref a_ripemd_left, .ref a_ripemd_right, .ref a_ripemd_x])), (a_ripemd_state, .inl (cy 1, 5, .inl u7)), (a_ripemd_left, .inl (cy 1, 5, .inl u8)), (a_ripemd_right, .inl (cy 1, 5, .inl u9)), (a_ripemd_x, .inl (cy 1, 16, .inl u10)), (a_data, .inl (cy 0, 14928, .inl f6)), (a_main, .inl (cy 1, 204, .inl u12))]) [0, 7, 8, 9, 10, 1, 2, 3, 4, 5, 11, 6] rfl) (hD.sub (ws' := [(o, .inr (6, [.ref o_sha, r_signatures, .ref o_ripemd, .ref a_data, v_a_scriptEnd, .ref a_main, v_a_other, v_a_taken, .int u0, .int i_otherHeight, .int i_ops, .int i_ifs, .int i_ifsNotTaken, .int u1, r_layout, .int i_tx, .int i_in, r_coin, .int i_messageIsThere])), (o_sha, .inr (9, [.ref a_sha_state, .ref a_sha_w, .ref a_sha_chunk, .int e1, .long e2])), (a_sha_state, .inl (cy 1, 8, .inl f3)), (a_sha_w, .inl (cy 1, 64, .inl f4)), (a_sha_chunk, .inl (cy 0, 64, .inl f5)), (o_ripemd, .inr (8, [.ref a_ripemd_state, .ref a_ripemd_left, .ref a_ripemd_right, .ref a_ripemd_x])), (a_ripemd_state, .inl (cy 1, 5, .inl u7)), (a_ripemd_left, .inl (cy 1, 5, .inl u8)), (a_ripemd_right, .inl (cy 1, 5, .inl u9)), (a_ripemd_x, .inl (cy 1, 16, .inl u10)), (a_data, .inl (cy 0, 14928, .inl f6)), (a_main, .inl (cy 1, 204, .inl u12))]) [0, 7, 8, 9, 10, 1, 2, 3, 4, 5, 11, 6] (by decide) rfl) hS (lv_sub hl [0, 1] rfl)
  · have hf := ifp cx hf
    refine lv_aload_n hx hb d_Ma_digestTop_126 rfl (lv_at hl 0 rfl) ?_
    refine va_get (D := D) (ci := 6) (v := .ref o_ripemd) (C := "CoinKeeper$Machine") (T := F_6) (N := 19) hx hb hts i_6 hown hK hP 0 rfl rfl 2 (by decide) (hts _ gw_206) (fun _ h9 => h9) rfl d_Ma_digestTop_127 ?_
    refine lv_aload_n hx hb d_Ma_digestTop_130 rfl (lv_at hl 0 rfl) ?_
    refine va_get (D := D) (ci := 6) (v := .ref a_data) (C := "CoinKeeper$Machine") (T := F_6) (N := 19) hx hb hts i_6 hown hK hP 0 rfl rfl 3 (by decide) (hts _ gw_207) (fun _ h9 => h9) rfl d_Ma_digestTop_131 ?_
    refine lv_aload_n hx hb d_Ma_digestTop_134 rfl (lv_at hl 0 rfl) ?_
    refine va_get (D := D) (ci := 6) (v := .int u1) (C := "CoinKeeper$Machine") (T := F_6) (N := 19) hx hb hts i_6 hown hK hP 0 rfl rfl 13 (by decide) (hts _ gw_217) (fun _ h9 => h9) rfl d_Ma_digestTop_135 ?_
    refine lv_bipush (v := 32) hx hb d_Ma_digestTop_138 (by decide) ?_
    refine lv_aload_n hx hb d_Ma_digestTop_140 rfl (lv_at hl 0 rfl) ?_
    refine va_get (D := D) (ci := 6) (v := .ref a_data) (C := "CoinKeeper$Machine") (T := F_6) (N := 19) hx hb hts i_6 hown hK hP 0 rfl rfl 3 (by decide) (hts _ gw_207) (fun _ h9 => h9) rfl d_Ma_digestTop_141 ?_
    refine lv_aload_n hx hb d_Ma_digestTop_144 rfl (lv_at hl 0 rfl) ?_
    refine va_get (D := D) (ci := 6) (v := .int u1) (C := "CoinKeeper$Machine") (T := F_6) (N := 19) hx hb hts i_6 hown hK hP 0 rfl rfl 13 (by decide) (hts _ gw_217) (fun _ h9 => h9) rfl d_Ma_digestTop_145 ?_
    obtain ⟨f7, f8, f9, f10, f11, hc, hf⟩ := bdp5 hf
    refine q_av (wr := [(o, .inr (6, [.ref o_sha, r_signatures, .ref o_ripemd, .ref a_data, v_a_scriptEnd, .ref a_main, v_a_other, v_a_taken, .int u0, .int i_otherHeight, .int i_ops, .int i_ifs, .int i_ifsNotTaken, .int u1, r_layout, .int i_tx, .int i_in, r_coin, .int i_messageIsThere])), (o_sha, .inr (9, [.ref a_sha_state, .ref a_sha_w, .ref a_sha_chunk, .int u2, .long u3])), (a_sha_state, .inl (cy 1, 8, .inl u4)), (a_sha_w, .inl (cy 1, 64, .inl u5)), (a_sha_chunk, .inl (cy 0, 64, .inl u6)), (a_main, .inl (cy 1, 204, .inl u12))]) (va_runV (C := "CoinKeeper$Ripemd160") (As := [.ref a_data, .int u1, .int (32 : Int32), .ref a_data, .int u1]) (rest := []) ⟨hx, hb, hml, hown, hts⟩ (c_Ri_once_e41 l D cy ad fu o_ripemd a_ripemd_state a_ripemd_left a_ripemd_right a_ripemd_x a_data 14928 u1 (32 : Int32) u1 u7 u8 u9 u10 u11 _ hc H.size) ⟨q_cB hts gw_1239 gw_7 gw_1236 hdc_43 ⟨by decide, by decide⟩, hts _ gw_1237, hts _ gw_1238⟩ (q_preV (q_pre (hP.sub [5, 6, 7, 8, 9, 10] rfl) (hD.sub [5, 6, 7, 8, 9, 10] (by decide) rfl) hK hSt hS (va_free hD hS hA [5, 6, 7, 8, 9, 10] rfl) _) (va_recv hK (hP.sub [5, 6, 7, 8, 9, 10] rfl) (ci := 8) (q0 := 0) rfl rfl)) rfl rfl hl.1 rfl (lv_room (Nat.le_of_ble_eq_true rfl)) d_Ma_digestTop_148 ⟨Nat.le_of_ble_eq_true rfl, Nat.le_of_ble_eq_true rfl⟩) hP hD hS hA [5, 6, 7, 8, 9, 10] [0, 1, 2, 3, 4, 11] rfl rfl (by decide) (by decide) (fun H locs hP hD hS => ?_)
    clear hc
    have hP : va_P D classes [(o, .inr (6, [.ref o_sha, r_signatures, .ref o_ripemd, .ref a_data, v_a_scriptEnd, .ref a_main, v_a_other, v_a_taken, .int u0, .int i_otherHeight, .int i_ops, .int i_ifs, .int i_ifsNotTaken, .int u1, r_layout, .int i_tx, .int i_in, r_coin, .int i_messageIsThere])), (o_sha, .inr (9, [.ref a_sha_state, .ref a_sha_w, .ref a_sha_chunk, .int u2, .long u3])), (a_sha_state, .inl (cy 1, 8, .inl u4)), (a_sha_w, .inl (cy 1, 64, .inl u5)), (a_sha_chunk, .inl (cy 0, 64, .inl u6)), (a_main, .inl (cy 1, 204, .inl u12)), (o_ripemd, .inr (8, [.ref a_ripemd_state, .ref a_ripemd_left, .ref a_ripemd_right, .ref a_ripemd_x])), (a_ripemd_state, .inl (cy 1, 5, .inl f7)), (a_ripemd_left, .inl (cy 1, 5, .inl f8)), (a_ripemd_right, .inl (cy 1, 5, .inl f9)), (a_ripemd_x, .inl (cy 1, 16, .inl f10)), (a_data, .inl (cy 0, 14928, .inl f11))] H := hP
    have hD : va_D A [(o, .inr (6, [.ref o_sha, r_signatures, .ref o_ripemd, .ref a_data, v_a_scriptEnd, .ref a_main, v_a_other, v_a_taken, .int u0, .int i_otherHeight, .int i_ops, .int i_ifs, .int i_ifsNotTaken, .int u1, r_layout, .int i_tx, .int i_in, r_coin, .int i_messageIsThere])), (o_sha, .inr (9, [.ref a_sha_state, .ref a_sha_w, .ref a_sha_chunk, .int u2, .long u3])), (a_sha_state, .inl (cy 1, 8, .inl u4)), (a_sha_w, .inl (cy 1, 64, .inl u5)), (a_sha_chunk, .inl (cy 0, 64, .inl u6)), (a_main, .inl (cy 1, 204, .inl u12)), (o_ripemd, .inr (8, [.ref a_ripemd_state, .ref a_ripemd_left, .ref a_ripemd_right, .ref a_ripemd_x])), (a_ripemd_state, .inl (cy 1, 5, .inl f7)), (a_ripemd_left, .inl (cy 1, 5, .inl f8)), (a_ripemd_right, .inl (cy 1, 5, .inl f9)), (a_ripemd_x, .inl (cy 1, 16, .inl f10)), (a_data, .inl (cy 0, 14928, .inl f11))] := hD
    refine lv_goto (tgt := 186) hx hb d_Ma_digestTop_151 (by decide) ?_
    exact wb_Ma_digestTop_186 (fu := fu) F _ _ _ _ _ _ _ _ _ _ _ _ _ _ _ hf _ _ _ (hP.sub (ws' := [(o, .inr (6, [.ref o_sha, r_signatures, .ref o_ripemd, .ref a_data, v_a_scriptEnd, .ref a_main, v_a_other, v_a_taken, .int u0, .int i_otherHeight, .int i_ops, .int i_ifs, .int i_ifsNotTaken, .int u1, r_layout, .int i_tx, .int i_in, r_coin, .int i_messageIsThere])), (o_sha, .inr (9, [.ref a_sha_state, .ref a_sha_w, .ref a_sha_chunk, .int u2, .long u3])), (a_sha_state, .inl (cy 1, 8, .inl u4)), (a_sha_w, .inl (cy 1, 64, .inl u5)), (a_sha_chunk, .inl (cy 0, 64, .inl u6)), (o_ripemd, .inr (8, [.ref a_ripemd_state, .ref a_ripemd_left, .ref a_ripemd_right, .ref a_ripemd_x])), (a_ripemd_state, .inl (cy 1, 5, .inl f7)), (a_ripemd_left, .inl (cy 1, 5, .inl f8)), (a_ripemd_right, .inl (cy 1, 5, .inl f9)), (a_ripemd_x, .inl (cy 1, 16, .inl f10)), (a_data, .inl (cy 0, 14928, .inl f11)), (a_main, .inl (cy 1, 204, .inl u12))]) [0, 1, 2, 3, 4, 6, 7, 8, 9, 10, 11, 5] rfl) (hD.sub (ws' := [(o, .inr (6, [.ref o_sha, r_signatures, .ref o_ripemd, .ref a_data, v_a_scriptEnd, .ref a_main, v_a_other, v_a_taken, .int u0, .int i_otherHeight, .int i_ops, .int i_ifs, .int i_ifsNotTaken, .int u1, r_layout, .int i_tx, .int i_in, r_coin, .int i_messageIsThere])), (o_sha, .inr (9, [.ref a_sha_state, .ref a_sha_w, .ref a_sha_chunk, .int u2, .long u3])), (a_sha_state, .inl (cy 1, 8, .inl u4)), (a_sha_w, .inl (cy 1, 64, .inl u5)), (a_sha_chunk, .inl (cy 0, 64, .inl u6)), (o_ripemd, .inr (8, [.ref a_ripemd_state, .ref a_ripemd_left, .ref a_ripemd_right, .ref a_ripemd_x])), (a_ripemd_state, .inl (cy 1, 5, .inl f7)), (a_ripemd_left, .inl (cy 1, 5, .inl f8)), (a_ripemd_right, .inl (cy 1, 5, .inl f9)), (a_ripemd_x, .inl (cy 1, 16, .inl f10)), (a_data, .inl (cy 0, 14928, .inl f11)), (a_main, .inl (cy 1, 204, .inl u12))]) [0, 1, 2, 3, 4, 6, 7, 8, 9, 10, 11, 5] (by decide) rfl) hS (lv_sub hl [0, 1] rfl)
set_option maxHeartbeats 8000000 in
set_option maxRecDepth 100000 in
theorem wb_Ma_digestTop_31 {p : Program} {l : Launch} {e : Env} {s : State} {m : MethodId} {args : Array Value} {below : List Frame} {meth : Method} {c : Code} {D : va_G} {cy : Nat → ClassId} {A : Nat → Prop} {ad : Nat → Nat} {o : Nat} {r_signatures : Value} {v_a_scriptEnd : Value} {v_a_other : Value} {v_a_taken : Value} {r_layout : Value} {r_coin : Value} {o_sha : Nat} {a_sha_state : Nat} {a_sha_w : Nat} {a_sha_chunk : Nat} {o_ripemd : Nat} {a_ripemd_state : Nat} {a_ripemd_left : Nat} {a_ripemd_right : Nat} {a_ripemd_x : Nat} {a_data : Nat} {a_main : Nat} {i_otherHeight : Int32} {i_ops : Int32} {i_ifs : Int32} {i_ifsNotTaken : Int32} {i_tx : Int32} {i_in : Int32} {i_messageIsThere : Int32} {fu : Nat} (F : Fx p s m args meth c b_Ma_digestTop 5 "CoinKeeper$Machine" "digestTop" (some .boolean) D cy ad A) : I_Ma_digestTop_31 p l e s m args below meth c D cy A ad o r_signatures v_a_scriptEnd v_a_other v_a_taken r_layout r_coin o_sha a_sha_state a_sha_w a_sha_chunk o_ripemd a_ripemd_state a_ripemd_left a_ripemd_right a_ripemd_x a_data a_main i_otherHeight i_ops i_ifs i_ifsNotTaken i_tx i_in i_messageIsThere (xb_Ma_digestTop_31 fu i_otherHeight i_ops i_ifs i_ifsNotTaken i_tx i_in i_messageIsThere) := by
  obtain ⟨hx, hb, hr, hml, hown, hts, hlocks, hK, hA, hSt, hnm, hex⟩ := id F
  intro x1 u0 u1 u2 u3 u4 u5 u6 u7 u8 u9 u10 u11 u12 res hf H locs ls hP hD hS hl
  unfold xb_Ma_digestTop_31 at hf
  refine lv_aload_n hx hb d_Ma_digestTop_31 rfl (lv_at hl 0 rfl) ?_
  refine lv_dup hx hb d_Ma_digestTop_32 rfl ?_
  refine va_get (D := D) (ci := 6) (v := .int u0) (C := "CoinKeeper$Machine") (T := F_6) (N := 19) hx hb hts i_6 hown hK hP 0 rfl rfl 8 (by decide) (hts _ gw_212) (fun _ h9 => h9) rfl d_Ma_digestTop_33 ?_
  refine lv_iconst (v := 1) hx hb d_Ma_digestTop_36 (by decide) ?_
  refine lv_isub hx hb d_Ma_digestTop_37 ?_
  refine lv_topi (fun v1 ev => ?_)
  have hf := bn ev hf
  clear ev
  refine va_put (D := D) (ci := 6) (v := .int v1) (ty := .int) (C := "CoinKeeper$Machine") (T := F_6) (N := 19) hx hb hts i_6 t_6 t_6_ok n_6 hown hK hP hD hS 0 rfl rfl 8 (by decide) (hts _ gw_212) (fun _ h9 => h9) rfl (by decide +kernel) rfl rfl (Nat.le_of_ble_eq_true rfl) d_Ma_digestTop_38 (fun H locs hP hD hS => ?_)
  have hP : va_P D classes [(o, .inr (6, [.ref o_sha, r_signatures, .ref o_ripemd, .ref a_data, v_a_scriptEnd, .ref a_main, v_a_other, v_a_taken, .int v1, .int i_otherHeight, .int i_ops, .int i_ifs, .int i_ifsNotTaken, .int u1, r_layout, .int i_tx, .int i_in, r_coin, .int i_messageIsThere])), (o_sha, .inr (9, [.ref a_sha_state, .ref a_sha_w, .ref a_sha_chunk, .int u2, .long u3])), (a_sha_state, .inl (cy 1, 8, .inl u4)), (a_sha_w, .inl (cy 1, 64, .inl u5)), (a_sha_chunk, .inl (cy 0, 64, .inl u6)), (o_ripemd, .inr (8, [.ref a_ripemd_state, .ref a_ripemd_left, .ref a_ripemd_right, .ref a_ripemd_x])), (a_ripemd_state, .inl (cy 1, 5, .inl u7)), (a_ripemd_left, .inl (cy 1, 5, .inl u8)), (a_ripemd_right, .inl (cy 1, 5, .inl u9)), (a_ripemd_x, .inl (cy 1, 16, .inl u10)), (a_data, .inl (cy 0, 14928, .inl u11)), (a_main, .inl (cy 1, 204, .inl u12))] H := hP
  have hD : va_D A [(o, .inr (6, [.ref o_sha, r_signatures, .ref o_ripemd, .ref a_data, v_a_scriptEnd, .ref a_main, v_a_other, v_a_taken, .int v1, .int i_otherHeight, .int i_ops, .int i_ifs, .int i_ifsNotTaken, .int u1, r_layout, .int i_tx, .int i_in, r_coin, .int i_messageIsThere])), (o_sha, .inr (9, [.ref a_sha_state, .ref a_sha_w, .ref a_sha_chunk, .int u2, .long u3])), (a_sha_state, .inl (cy 1, 8, .inl u4)), (a_sha_w, .inl (cy 1, 64, .inl u5)), (a_sha_chunk, .inl (cy 0, 64, .inl u6)), (o_ripemd, .inr (8, [.ref a_ripemd_state, .ref a_ripemd_left, .ref a_ripemd_right, .ref a_ripemd_x])), (a_ripemd_state, .inl (cy 1, 5, .inl u7)), (a_ripemd_left, .inl (cy 1, 5, .inl u8)), (a_ripemd_right, .inl (cy 1, 5, .inl u9)), (a_ripemd_x, .inl (cy 1, 16, .inl u10)), (a_data, .inl (cy 0, 14928, .inl u11)), (a_main, .inl (cy 1, 204, .inl u12))] := hD
  refine lv_aload_n hx hb d_Ma_digestTop_41 rfl (lv_at hl 0 rfl) ?_
  refine va_get (D := D) (ci := 6) (v := .ref a_main) (C := "CoinKeeper$Machine") (T := F_6) (N := 19) hx hb hts i_6 hown hK hP 0 rfl rfl 5 (by decide) (hts _ gw_209) (fun _ h9 => h9) rfl d_Ma_digestTop_42 ?_
  refine lv_aload_n hx hb d_Ma_digestTop_45 rfl (lv_at hl 0 rfl) ?_
  refine va_get (D := D) (ci := 6) (v := .int v1) (C := "CoinKeeper$Machine") (T := F_6) (N := 19) hx hb hts i_6 hown hK hP 0 rfl rfl 8 (by decide) (hts _ gw_212) (fun _ h9 => h9) rfl d_Ma_digestTop_46 ?_
  obtain ⟨hg, hf⟩ := gdp hf
  refine va_iald hx hb hK hP 11 1 rfl rfl (inb_in hg) d_Ma_digestTop_49 ?_
  refine lv_topi (fun v2 ev => ?_)
  have hf := bn ev hf
  clear ev
  obtain ⟨v3, hc, hf⟩ := bdp1 hf
  refine q_ai (wr := [(o, .inr (6, [.ref o_sha, r_signatures, .ref o_ripemd, .ref a_data, v_a_scriptEnd, .ref a_main, v_a_other, v_a_taken, .int v1, .int i_otherHeight, .int i_ops, .int i_ifs, .int i_ifsNotTaken, .int u1, r_layout, .int i_tx, .int i_in, r_coin, .int i_messageIsThere])), (o_sha, .inr (9, [.ref a_sha_state, .ref a_sha_w, .ref a_sha_chunk, .int u2, .long u3])), (a_sha_state, .inl (cy 1, 8, .inl u4)), (a_sha_w, .inl (cy 1, 64, .inl u5)), (a_sha_chunk, .inl (cy 0, 64, .inl u6)), (o_ripemd, .inr (8, [.ref a_ripemd_state, .ref a_ripemd_left, .ref a_ripemd_right, .ref a_ripemd_x])), (a_ripemd_state, .inl (cy 1, 5, .inl u7)), (a_ripemd_left, .inl (cy 1, 5, .inl u8)), (a_ripemd_right, .inl (cy 1, 5, .inl u9)), (a_ripemd_x, .inl (cy 1, 16, .inl u10)), (a_data, .inl (cy 0, 14928, .inl u11)), (a_main, .inl (cy 1, 204, .inl u12))]) (va_runS (As := [.int v2]) (rest := []) ⟨hx, hb, hml, hown, hts⟩ (c_Ma_placeOf l D cy ad fu v2 _ hc H.size) ⟨q_cB hts gw_999 gw_6 gw_997 hdc_39 ⟨by decide, by decide⟩, hts _ gw_998⟩ (q_pre (hP.sub [] rfl) (hD.sub [] (by decide) rfl) hK hSt hS (va_free hD hS hA [] rfl) _) rfl rfl hl.1 rfl (lv_room (Nat.le_of_ble_eq_true rfl)) d_Ma_digestTop_50 ⟨Nat.le_of_ble_eq_true rfl, Nat.le_of_ble_eq_true rfl⟩) hP hD hS hA [] [0, 1, 2, 3, 4, 5, 6, 7, 8, 9, 10, 11] rfl rfl (by decide) (by decide) (fun H locs hP hD hS => ?_)
  clear hc
  have hP : va_P D classes [(o, .inr (6, [.ref o_sha, r_signatures, .ref o_ripemd, .ref a_data, v_a_scriptEnd, .ref a_main, v_a_other, v_a_taken, .int v1, .int i_otherHeight, .int i_ops, .int i_ifs, .int i_ifsNotTaken, .int u1, r_layout, .int i_tx, .int i_in, r_coin, .int i_messageIsThere])), (o_sha, .inr (9, [.ref a_sha_state, .ref a_sha_w, .ref a_sha_chunk, .int u2, .long u3])), (a_sha_state, .inl (cy 1, 8, .inl u4)), (a_sha_w, .inl (cy 1, 64, .inl u5)), (a_sha_chunk, .inl (cy 0, 64, .inl u6)), (o_ripemd, .inr (8, [.ref a_ripemd_state, .ref a_ripemd_left, .ref a_ripemd_right, .ref a_ripemd_x])), (a_ripemd_state, .inl (cy 1, 5, .inl u7)), (a_ripemd_left, .inl (cy 1, 5, .inl u8)), (a_ripemd_right, .inl (cy 1, 5, .inl u9)), (a_ripemd_x, .inl (cy 1, 16, .inl u10)), (a_data, .inl (cy 0, 14928, .inl u11)), (a_main, .inl (cy 1, 204, .inl u12))] H := hP
  have hD : va_D A [(o, .inr (6, [.ref o_sha, r_signatures, .ref o_ripemd, .ref a_data, v_a_scriptEnd, .ref a_main, v_a_other, v_a_taken, .int v1, .int i_otherHeight, .int i_ops, .int i_ifs, .int i_ifsNotTaken, .int u1, r_layout, .int i_tx, .int i_in, r_coin, .int i_messageIsThere])), (o_sha, .inr (9, [.ref a_sha_state, .ref a_sha_w, .ref a_sha_chunk, .int u2, .long u3])), (a_sha_state, .inl (cy 1, 8, .inl u4)), (a_sha_w, .inl (cy 1, 64, .inl u5)), (a_sha_chunk, .inl (cy 0, 64, .inl u6)), (o_ripemd, .inr (8, [.ref a_ripemd_state, .ref a_ripemd_left, .ref a_ripemd_right, .ref a_ripemd_x])), (a_ripemd_state, .inl (cy 1, 5, .inl u7)), (a_ripemd_left, .inl (cy 1, 5, .inl u8)), (a_ripemd_right, .inl (cy 1, 5, .inl u9)), (a_ripemd_x, .inl (cy 1, 16, .inl u10)), (a_data, .inl (cy 0, 14928, .inl u11)), (a_main, .inl (cy 1, 204, .inl u12))] := hD
  refine lv_istore_n (lv' := [(2, .int v3), (0, .ref o), (1, .int x1)]) hx hb d_Ma_digestTop_53 rfl hl (by decide) rfl (fun ls hl => ?_)
  refine lv_aload_n hx hb d_Ma_digestTop_54 rfl (lv_at hl 1 rfl) ?_
  refine va_get (D := D) (ci := 6) (v := .ref a_main) (C := "CoinKeeper$Machine") (T := F_6) (N := 19) hx hb hts i_6 hown hK hP 0 rfl rfl 5 (by decide) (hts _ gw_209) (fun _ h9 => h9) rfl d_Ma_digestTop_55 ?_
  refine lv_aload_n hx hb d_Ma_digestTop_58 rfl (lv_at hl 1 rfl) ?_
  refine va_get (D := D) (ci := 6) (v := .int v1) (C := "CoinKeeper$Machine") (T := F_6) (N := 19) hx hb hts i_6 hown hK hP 0 rfl rfl 8 (by decide) (hts _ gw_212) (fun _ h9 => h9) rfl d_Ma_digestTop_59 ?_
  obtain ⟨hg, hf⟩ := gdp hf
  refine va_iald hx hb hK hP 11 1 rfl rfl (inb_in hg) d_Ma_digestTop_62 ?_
  refine lv_topi (fun v4 ev => ?_)
  have hf := bn ev hf
  clear ev
  obtain ⟨v5, hc, hf⟩ := bdp1 hf
  refine q_ai (wr := [(o, .inr (6, [.ref o_sha, r_signatures, .ref o_ripemd, .ref a_data, v_a_scriptEnd, .ref a_main, v_a_other, v_a_taken, .int v1, .int i_otherHeight, .int i_ops, .int i_ifs, .int i_ifsNotTaken, .int u1, r_layout, .int i_tx, .int i_in, r_coin, .int i_messageIsThere])), (o_sha, .inr (9, [.ref a_sha_state, .ref a_sha_w, .ref a_sha_chunk, .int u2, .long u3])), (a_sha_state, .inl (cy 1, 8, .inl u4)), (a_sha_w, .inl (cy 1, 64, .inl u5)), (a_sha_chunk, .inl (cy 0, 64, .inl u6)), (o_ripemd, .inr (8, [.ref a_ripemd_state, .ref a_ripemd_left, .ref a_ripemd_right, .ref a_ripemd_x])), (a_ripemd_state, .inl (cy 1, 5, .inl u7)), (a_ripemd_left, .inl (cy 1, 5, .inl u8)), (a_ripemd_right, .inl (cy 1, 5, .inl u9)), (a_ripemd_x, .inl (cy 1, 16, .inl u10)), (a_data, .inl (cy 0, 14928, .inl u11)), (a_main, .inl (cy 1, 204, .inl u12))]) (va_runS (As := [.int v4]) (rest := []) ⟨hx, hb, hml, hown, hts⟩ (c_Ma_lengthOf l D cy ad fu v4 _ hc H.size) ⟨q_cB hts gw_1002 gw_6 gw_1000 hdc_40 ⟨by decide, by decide⟩, hts _ gw_1001⟩ (q_pre (hP.sub [] rfl) (hD.sub [] (by decide) rfl) hK hSt hS (va_free hD hS hA [] rfl) _) rfl rfl hl.1 rfl (lv_room (Nat.le_of_ble_eq_true rfl)) d_Ma_digestTop_63 ⟨Nat.le_of_ble_eq_true rfl, Nat.le_of_ble_eq_true rfl⟩) hP hD hS hA [] [0, 1, 2, 3, 4, 5, 6, 7, 8, 9, 10, 11] rfl rfl (by decide) (by decide) (fun H locs hP hD hS => ?_)
  clear hc
  have hP : va_P D classes [(o, .inr (6, [.ref o_sha, r_signatures, .ref o_ripemd, .ref a_data, v_a_scriptEnd, .ref a_main, v_a_other, v_a_taken, .int v1, .int i_otherHeight, .int i_ops, .int i_ifs, .int i_ifsNotTaken, .int u1, r_layout, .int i_tx, .int i_in, r_coin, .int i_messageIsThere])), (o_sha, .inr (9, [.ref a_sha_state, .ref a_sha_w, .ref a_sha_chunk, .int u2, .long u3])), (a_sha_state, .inl (cy 1, 8, .inl u4)), (a_sha_w, .inl (cy 1, 64, .inl u5)), (a_sha_chunk, .inl (cy 0, 64, .inl u6)), (o_ripemd, .inr (8, [.ref a_ripemd_state, .ref a_ripemd_left, .ref a_ripemd_right, .ref a_ripemd_x])), (a_ripemd_state, .inl (cy 1, 5, .inl u7)), (a_ripemd_left, .inl (cy 1, 5, .inl u8)), (a_ripemd_right, .inl (cy 1, 5, .inl u9)), (a_ripemd_x, .inl (cy 1, 16, .inl u10)), (a_data, .inl (cy 0, 14928, .inl u11)), (a_main, .inl (cy 1, 204, .inl u12))] H := hP
  have hD : va_D A [(o, .inr (6, [.ref o_sha, r_signatures, .ref o_ripemd, .ref a_data, v_a_scriptEnd, .ref a_main, v_a_other, v_a_taken, .int v1, .int i_otherHeight, .int i_ops, .int i_ifs, .int i_ifsNotTaken, .int u1, r_layout, .int i_tx, .int i_in, r_coin, .int i_messageIsThere])), (o_sha, .inr (9, [.ref a_sha_state, .ref a_sha_w, .ref a_sha_chunk, .int u2, .long u3])), (a_sha_state, .inl (cy 1, 8, .inl u4)), (a_sha_w, .inl (cy 1, 64, .inl u5)), (a_sha_chunk, .inl (cy 0, 64, .inl u6)), (o_ripemd, .inr (8, [.ref a_ripemd_state, .ref a_ripemd_left, .ref a_ripemd_right, .ref a_ripemd_x])), (a_ripemd_state, .inl (cy 1, 5, .inl u7)), (a_ripemd_left, .inl (cy 1, 5, .inl u8)), (a_ripemd_right, .inl (cy 1, 5, .inl u9)), (a_ripemd_x, .inl (cy 1, 16, .inl u10)), (a_data, .inl (cy 0, 14928, .inl u11)), (a_main, .inl (cy 1, 204, .inl u12))] := hD
  refine lv_istore_n (lv' := [(3, .int v5), (2, .int v3), (0, .ref o), (1, .int x1)]) hx hb d_Ma_digestTop_66 rfl hl (by decide) rfl (fun ls hl => ?_)
  refine lv_iload_n hx hb d_Ma_digestTop_67 rfl (lv_at hl 3 rfl) ?_
  refine lv_sipush (v := 166) hx hb d_Ma_digestTop_68 (by decide) ?_
  refine lv_icmp_ne (tgt := 98) hx hb d_Ma_digestTop_71 (by decide) (fun cx => ?_) (fun cx => ?_)
  · have hf := ifn cx hf
    refine lv_aload_n hx hb d_Ma_digestTop_98 rfl (lv_at hl 2 rfl) ?_
    refine va_get (D := D) (ci := 6) (v := .ref o_sha) (C := "CoinKeeper$Machine") (T := F_6) (N := 19) hx hb hts i_6 hown hK hP 0 rfl rfl 0 (by decide) (hts _ gw_204) (fun _ h9 => h9) rfl d_Ma_digestTop_99 ?_
    refine lv_aload_n hx hb d_Ma_digestTop_102 rfl (lv_at hl 2 rfl) ?_
    refine va_get (D := D) (ci := 6) (v := .ref a_data) (C := "CoinKeeper$Machine") (T := F_6) (N := 19) hx hb hts i_6 hown hK hP 0 rfl rfl 3 (by decide) (hts _ gw_207) (fun _ h9 => h9) rfl d_Ma_digestTop_103 ?_
    refine lv_iload_n hx hb d_Ma_digestTop_106 rfl (lv_at hl 1 rfl) ?_
    refine lv_iload_n hx hb d_Ma_digestTop_107 rfl (lv_at hl 0 rfl) ?_
    refine lv_aload_n hx hb d_Ma_digestTop_108 rfl (lv_at hl 2 rfl) ?_
    refine va_get (D := D) (ci := 6) (v := .ref a_data) (C := "CoinKeeper$Machine") (T := F_6) (N := 19) hx hb hts i_6 hown hK hP 0 rfl rfl 3 (by decide) (hts _ gw_207) (fun _ h9 => h9) rfl d_Ma_digestTop_109 ?_
    refine lv_aload_n hx hb d_Ma_digestTop_112 rfl (lv_at hl 2 rfl) ?_
    refine va_get (D := D) (ci := 6) (v := .int u1) (C := "CoinKeeper$Machine") (T := F_6) (N := 19) hx hb hts i_6 hown hK hP 0 rfl rfl 13 (by decide) (hts _ gw_217) (fun _ h9 => h9) rfl d_Ma_digestTop_113 ?_
    obtain ⟨e6, e7, f8, f9, f10, f11, hc, hf⟩ := bdp6 hf
    refine q_av (wr := [(o, .inr (6, [.ref o_sha, r_signatures, .ref o_ripemd, .ref a_data, v_a_scriptEnd, .ref a_main, v_a_other, v_a_taken, .int v1, .int i_otherHeight, .int i_ops, .int i_ifs, .int i_ifsNotTaken, .int u1, r_layout, .int i_tx, .int i_in, r_coin, .int i_messageIsThere])), (o_ripemd, .inr (8, [.ref a_ripemd_state, .ref a_ripemd_left, .ref a_ripemd_right, .ref a_ripemd_x])), (a_ripemd_state, .inl (cy 1, 5, .inl u7)), (a_ripemd_left, .inl (cy 1, 5, .inl u8)), (a_ripemd_right, .inl (cy 1, 5, .inl u9)), (a_ripemd_x, .inl (cy 1, 16, .inl u10)), (a_main, .inl (cy 1, 204, .inl u12))]) (va_runV (C := "CoinKeeper$Sha256") (As := [.ref a_data, .int v3, .int v5, .ref a_data, .int u1]) (rest := []) ⟨hx, hb, hml, hown, hts⟩ (c_Sh_once_e41 l D cy ad fu o_sha a_sha_state a_sha_w a_sha_chunk a_data 14928 v3 v5 u1 u2 u3 u4 u5 u6 u11 _ hc H.size) ⟨q_cB hts gw_711 gw_2 gw_1267 hdc_8 ⟨by decide, by decide⟩, hts _ gw_709, hts _ gw_710⟩ (q_preV (q_pre (hP.sub [1, 2, 3, 4, 10] rfl) (hD.sub [1, 2, 3, 4, 10] (by decide) rfl) hK hSt hS (va_free hD hS hA [1, 2, 3, 4, 10] rfl) _) (va_recv hK (hP.sub [1, 2, 3, 4, 10] rfl) (ci := 9) (q0 := 0) rfl rfl)) rfl rfl hl.1 rfl (lv_room (Nat.le_of_ble_eq_true rfl)) d_Ma_digestTop_116 ⟨Nat.le_of_ble_eq_true rfl, Nat.le_of_ble_eq_true rfl⟩) hP hD hS hA [1, 2, 3, 4, 10] [0, 5, 6, 7, 8, 9, 11] rfl rfl (by decide) (by decide) (fun H locs hP hD hS => ?_)
    clear hc
    have hP : va_P D classes [(o, .inr (6, [.ref o_sha, r_signatures, .ref o_ripemd, .ref a_data, v_a_scriptEnd, .ref a_main, v_a_other, v_a_taken, .int v1, .int i_otherHeight, .int i_ops, .int i_ifs, .int i_ifsNotTaken, .int u1, r_layout, .int i_tx, .int i_in, r_coin, .int i_messageIsThere])), (o_ripemd, .inr (8, [.ref a_ripemd_state, .ref a_ripemd_left, .ref a_ripemd_right, .ref a_ripemd_x])), (a_ripemd_state, .inl (cy 1, 5, .inl u7)), (a_ripemd_left, .inl (cy 1, 5, .inl u8)), (a_ripemd_right, .inl (cy 1, 5, .inl u9)), (a_ripemd_x, .inl (cy 1, 16, .inl u10)), (a_main, .inl (cy 1, 204, .inl u12)), (o_sha, .inr (9, [.ref a_sha_state, .ref a_sha_w, .ref a_sha_chunk, .int e6, .long e7])), (a_sha_state, .inl (cy 1, 8, .inl f8)), (a_sha_w, .inl (cy 1, 64, .inl f9)), (a_sha_chunk, .inl (cy 0, 64, .inl f10)), (a_data, .inl (cy 0, 14928, .inl f11))] H := hP
    have hD : va_D A [(o, .inr (6, [.ref o_sha, r_signatures, .ref o_ripemd, .ref a_data, v_a_scriptEnd, .ref a_main, v_a_other, v_a_taken, .int v1, .int i_otherHeight, .int i_ops, .int i_ifs, .int i_ifsNotTaken, .int u1, r_layout, .int i_tx, .int i_in, r_coin, .int i_messageIsThere])), (o_ripemd, .inr (8, [.ref a_ripemd_state, .ref a_ripemd_left, .ref a_ripemd_right, .ref a_ripemd_x])), (a_ripemd_state, .inl (cy 1, 5, .inl u7)), (a_ripemd_left, .inl (cy 1, 5, .inl u8)), (a_ripemd_right, .inl (cy 1, 5, .inl u9)), (a_ripemd_x, .inl (cy 1, 16, .inl u10)), (a_main, .inl (cy 1, 204, .inl u12)), (o_sha, .inr (9, [.ref a_sha_state, .ref a_sha_w, .ref a_sha_chunk, .int e6, .long e7])), (a_sha_state, .inl (cy 1, 8, .inl f8)), (a_sha_w, .inl (cy 1, 64, .inl f9)), (a_sha_chunk, .inl (cy 0, 64, .inl f10)), (a_data, .inl (cy 0, 14928, .inl f11))] := hD
    exact wb_Ma_digestTop_119 (fu := fu) F _ _ _ _ _ _ _ _ _ _ _ _ _ _ _ hf _ _ _ (hP.sub (ws' := [(o, .inr (6, [.ref o_sha, r_signatures, .ref o_ripemd, .ref a_data, v_a_scriptEnd, .ref a_main, v_a_other, v_a_taken, .int v1, .int i_otherHeight, .int i_ops, .int i_ifs, .int i_ifsNotTaken, .int u1, r_layout, .int i_tx, .int i_in, r_coin, .int i_messageIsThere])), (o_sha, .inr (9, [.ref a_sha_state, .ref a_sha_w, .ref a_sha_chunk, .int e6, .long e7])), (a_sha_state, .inl (cy 1, 8, .inl f8)), (a_sha_w, .inl (cy 1, 64, .inl f9)), (a_sha_chunk, .inl (cy 0, 64, .inl f10)), (o_ripemd, .inr (8, [.ref a_ripemd_state, .ref a_ripemd_left, .ref a_ripemd_right, .ref a_ripemd_x])), (a_ripemd_state, .inl (cy 1, 5, .inl u7)), (a_ripemd_left, .inl (cy 1, 5, .inl u8)), (a_ripemd_right, .inl (cy 1, 5, .inl u9)), (a_ripemd_x, .inl (cy 1, 16, .inl u10)), (a_data, .inl (cy 0, 14928, .inl f11)), (a_main, .inl (cy 1, 204, .inl u12))]) [0, 7, 8, 9, 10, 1, 2, 3, 4, 5, 11, 6] rfl) (hD.sub (ws' := [(o, .inr (6, [.ref o_sha, r_signatures, .ref o_ripemd, .ref a_data, v_a_scriptEnd, .ref a_main, v_a_other, v_a_taken, .int v1, .int i_otherHeight, .int i_ops, .int i_ifs, .int i_ifsNotTaken, .int u1, r_layout, .int i_tx, .int i_in, r_coin, .int i_messageIsThere])), (o_sha, .inr (9, [.ref a_sha_state, .ref a_sha_w, .ref a_sha_chunk, .int e6, .long e7])), (a_sha_state, .inl (cy 1, 8, .inl f8)), (a_sha_w, .inl (cy 1, 64, .inl f9)), (a_sha_chunk, .inl (cy 0, 64, .inl f10)), (o_ripemd, .inr (8, [.ref a_ripemd_state, .ref a_ripemd_left, .ref a_ripemd_right, .ref a_ripemd_x])), (a_ripemd_state, .inl (cy 1, 5, .inl u7)), (a_ripemd_left, .inl (cy 1, 5, .inl u8)), (a_ripemd_right, .inl (cy 1, 5, .inl u9)), (a_ripemd_x, .inl (cy 1, 16, .inl u10)), (a_data, .inl (cy 0, 14928, .inl f11)), (a_main, .inl (cy 1, 204, .inl u12))]) [0, 7, 8, 9, 10, 1, 2, 3, 4, 5, 11, 6] (by decide) rfl) hS (lv_sub hl [2, 3] rfl)
  · have hf := ifp cx hf
    refine lv_aload_n hx hb d_Ma_digestTop_74 rfl (lv_at hl 2 rfl) ?_
    refine va_get (D := D) (ci := 6) (v := .ref o_ripemd) (C := "CoinKeeper$Machine") (T := F_6) (N := 19) hx hb hts i_6 hown hK hP 0 rfl rfl 2 (by decide) (hts _ gw_206) (fun _ h9 => h9) rfl d_Ma_digestTop_75 ?_
    refine lv_aload_n hx hb d_Ma_digestTop_78 rfl (lv_at hl 2 rfl) ?_
    refine va_get (D := D) (ci := 6) (v := .ref a_data) (C := "CoinKeeper$Machine") (T := F_6) (N := 19) hx hb hts i_6 hown hK hP 0 rfl rfl 3 (by decide) (hts _ gw_207) (fun _ h9 => h9) rfl d_Ma_digestTop_79 ?_
    refine lv_iload_n hx hb d_Ma_digestTop_82 rfl (lv_at hl 1 rfl) ?_
    refine lv_iload_n hx hb d_Ma_digestTop_83 rfl (lv_at hl 0 rfl) ?_
    refine lv_aload_n hx hb d_Ma_digestTop_84 rfl (lv_at hl 2 rfl) ?_
    refine va_get (D := D) (ci := 6) (v := .ref a_data) (C := "CoinKeeper$Machine") (T := F_6) (N := 19) hx hb hts i_6 hown hK hP 0 rfl rfl 3 (by decide) (hts _ gw_207) (fun _ h9 => h9) rfl d_Ma_digestTop_85 ?_
    refine lv_aload_n hx hb d_Ma_digestTop_88 rfl (lv_at hl 2 rfl) ?_
    refine va_get (D := D) (ci := 6) (v := .int u1) (C := "CoinKeeper$Machine") (T := F_6) (N := 19) hx hb hts i_6 hown hK hP 0 rfl rfl 13 (by decide) (hts _ gw_217) (fun _ h9 => h9) rfl d_Ma_digestTop_89 ?_
    obtain ⟨f12, f13, f14, f15, f16, hc, hf⟩ := bdp5 hf
    refine q_av (wr := [(o, .inr (6, [.ref o_sha, r_signatures, .ref o_ripemd, .ref a_data, v_a_scriptEnd, .ref a_main, v_a_other, v_a_taken, .int v1, .int i_otherHeight, .int i_ops, .int i_ifs, .int i_ifsNotTaken, .int u1, r_layout, .int i_tx, .int i_in, r_coin, .int i_messageIsThere])), (o_sha, .inr (9, [.ref a_sha_state, .ref a_sha_w, .ref a_sha_chunk, .int u2, .long u3])), (a_sha_state, .inl (cy 1, 8, .inl u4)), (a_sha_w, .inl (cy 1, 64, .inl u5)), (a_sha_chunk, .inl (cy 0, 64, .inl u6)), (a_main, .inl (cy 1, 204, .inl u12))]) (va_runV (C := "CoinKeeper$Ripemd160") (As := [.ref a_data, .int v3, .int v5, .ref a_data, .int u1]) (rest := []) ⟨hx, hb, hml, hown, hts⟩ (c_Ri_once_e41 l D cy ad fu o_ripemd a_ripemd_state a_ripemd_left a_ripemd_right a_ripemd_x a_data 14928 v3 v5 u1 u7 u8 u9 u10 u11 _ hc H.size) ⟨q_cB hts gw_1239 gw_7 gw_1236 hdc_43 ⟨by decide, by decide⟩, hts _ gw_1237, hts _ gw_1238⟩ (q_preV (q_pre (hP.sub [5, 6, 7, 8, 9, 10] rfl) (hD.sub [5, 6, 7, 8, 9, 10] (by decide) rfl) hK hSt hS (va_free hD hS hA [5, 6, 7, 8, 9, 10] rfl) _) (va_recv hK (hP.sub [5, 6, 7, 8, 9, 10] rfl) (ci := 8) (q0 := 0) rfl rfl)) rfl rfl hl.1 rfl (lv_room (Nat.le_of_ble_eq_true rfl)) d_Ma_digestTop_92 ⟨Nat.le_of_ble_eq_true rfl, Nat.le_of_ble_eq_true rfl⟩) hP hD hS hA [5, 6, 7, 8, 9, 10] [0, 1, 2, 3, 4, 11] rfl rfl (by decide) (by decide) (fun H locs hP hD hS => ?_)
    clear hc
    have hP : va_P D classes [(o, .inr (6, [.ref o_sha, r_signatures, .ref o_ripemd, .ref a_data, v_a_scriptEnd, .ref a_main, v_a_other, v_a_taken, .int v1, .int i_otherHeight, .int i_ops, .int i_ifs, .int i_ifsNotTaken, .int u1, r_layout, .int i_tx, .int i_in, r_coin, .int i_messageIsThere])), (o_sha, .inr (9, [.ref a_sha_state, .ref a_sha_w, .ref a_sha_chunk, .int u2, .long u3])), (a_sha_state, .inl (cy 1, 8, .inl u4)), (a_sha_w, .inl (cy 1, 64, .inl u5)), (a_sha_chunk, .inl (cy 0, 64, .inl u6)), (a_main, .inl (cy 1, 204, .inl u12)), (o_ripemd, .inr (8, [.ref a_ripemd_state, .ref a_ripemd_left, .ref a_ripemd_right, .ref a_ripemd_x])), (a_ripemd_state, .inl (cy 1, 5, .inl f12)), (a_ripemd_left, .inl (cy 1, 5, .inl f13)), (a_ripemd_right, .inl (cy 1, 5, .inl f14)), (a_ripemd_x, .inl (cy 1, 16, .inl f15)), (a_data, .inl (cy 0, 14928, .inl f16))] H := hP
    have hD : va_D A [(o, .inr (6, [.ref o_sha, r_signatures, .ref o_ripemd, .ref a_data, v_a_scriptEnd, .ref a_main, v_a_other, v_a_taken, .int v1, .int i_otherHeight, .int i_ops, .int i_ifs, .int i_ifsNotTaken, .int u1, r_layout, .int i_tx, .int i_in, r_coin, .int i_messageIsThere])), (o_sha, .inr (9, [.ref a_sha_state, .ref a_sha_w, .ref a_sha_chunk, .int u2, .long u3])), (a_sha_state, .inl (cy 1, 8, .inl u4)), (a_sha_w, .inl (cy 1, 64, .inl u5)), (a_sha_chunk, .inl (cy 0, 64, .inl u6)), (a_main, .inl (cy 1, 204, .inl u12)), (o_ripemd, .inr (8, [.ref a_ripemd_state, .ref a_ripemd_left, .ref a_ripemd_right, .ref a_ripemd_x])), (a_ripemd_state, .inl (cy 1, 5, .inl f12)), (a_ripemd_left, .inl (cy 1, 5, .inl f13)), (a_ripemd_right, .inl (cy 1, 5, .inl f14)), (a_ripemd_x, .inl (cy 1, 16, .inl f15)), (a_data, .inl (cy 0, 14928, .inl f16))] := hD
    refine lv_goto (tgt := 119) hx hb d_Ma_digestTop_95 (by decide) ?_
    exact wb_Ma_digestTop_119 (fu := fu) F _ _ _ _ _ _ _ _ _ _ _ _ _ _ _ hf _ _ _ (hP.sub (ws' := [(o, .inr (6, [.ref o_sha, r_signatures, .ref o_ripemd, .ref a_data, v_a_scriptEnd, .ref a_main, v_a_other, v_a_taken, .int v1, .int i_otherHeight, .int i_ops, .int i_ifs, .int i_ifsNotTaken, .int u1, r_layout, .int i_tx, .int i_in, r_coin, .int i_messageIsThere])), (o_sha, .inr (9, [.ref a_sha_state, .ref a_sha_w, .ref a_sha_chunk, .int u2, .long u3])), (a_sha_state, .inl (cy 1, 8, .inl u4)), (a_sha_w, .inl (cy 1, 64, .inl u5)), (a_sha_chunk, .inl (cy 0, 64, .inl u6)), (o_ripemd, .inr (8, [.ref a_ripemd_state, .ref a_ripemd_left, .ref a_ripemd_right, .ref a_ripemd_x])), (a_ripemd_state, .inl (cy 1, 5, .inl f12)), (a_ripemd_left, .inl (cy 1, 5, .inl f13)), (a_ripemd_right, .inl (cy 1, 5, .inl f14)), (a_ripemd_x, .inl (cy 1, 16, .inl f15)), (a_data, .inl (cy 0, 14928, .inl f16)), (a_main, .inl (cy 1, 204, .inl u12))]) [0, 1, 2, 3, 4, 6, 7, 8, 9, 10, 11, 5] rfl) (hD.sub (ws' := [(o, .inr (6, [.ref o_sha, r_signatures, .ref o_ripemd, .ref a_data, v_a_scriptEnd, .ref a_main, v_a_other, v_a_taken, .int v1, .int i_otherHeight, .int i_ops, .int i_ifs, .int i_ifsNotTaken, .int u1, r_layout, .int i_tx, .int i_in, r_coin, .int i_messageIsThere])), (o_sha, .inr (9, [.ref a_sha_state, .ref a_sha_w, .ref a_sha_chunk, .int u2, .long u3])), (a_sha_state, .inl (cy 1, 8, .inl u4)), (a_sha_w, .inl (cy 1, 64, .inl u5)), (a_sha_chunk, .inl (cy 0, 64, .inl u6)), (o_ripemd, .inr (8, [.ref a_ripemd_state, .ref a_ripemd_left, .ref a_ripemd_right, .ref a_ripemd_x])), (a_ripemd_state, .inl (cy 1, 5, .inl f12)), (a_ripemd_left, .inl (cy 1, 5, .inl f13)), (a_ripemd_right, .inl (cy 1, 5, .inl f14)), (a_ripemd_x, .inl (cy 1, 16, .inl f15)), (a_data, .inl (cy 0, 14928, .inl f16)), (a_main, .inl (cy 1, 204, .inl u12))]) [0, 1, 2, 3, 4, 6, 7, 8, 9, 10, 11, 5] (by decide) rfl) hS (lv_sub hl [2, 3] rfl)
set_option maxHeartbeats 8000000 in
set_option maxRecDepth 100000 in
theorem we_Ma_digestTop {p : Program} {l : Launch} {e : Env} {s : State} {m : MethodId} {args : Array Value} {below : List Frame} {meth : Method} {c : Code} {D : va_G} {cy : Nat → ClassId} {A : Nat → Prop} {ad : Nat → Nat} {o : Nat} {r_signatures : Value} {v_a_scriptEnd : Value} {v_a_other : Value} {v_a_taken : Value} {r_layout : Value} {r_coin : Value} {o_sha : Nat} {a_sha_state : Nat} {a_sha_w : Nat} {a_sha_chunk : Nat} {o_ripemd : Nat} {a_ripemd_state : Nat} {a_ripemd_left : Nat} {a_ripemd_right : Nat} {a_ripemd_x : Nat} {a_data : Nat} {a_main : Nat} {i_otherHeight : Int32} {i_ops : Int32} {i_ifs : Int32} {i_ifsNotTaken : Int32} {i_tx : Int32} {i_in : Int32} {i_messageIsThere : Int32} {fu : Nat} (F : Fx p s m args meth c b_Ma_digestTop 5 "CoinKeeper$Machine" "digestTop" (some .boolean) D cy ad A) : I_Ma_digestTop_e p l e s m args below meth c D cy A ad o r_signatures v_a_scriptEnd v_a_other v_a_taken r_layout r_coin o_sha a_sha_state a_sha_w a_sha_chunk o_ripemd a_ripemd_state a_ripemd_left a_ripemd_right a_ripemd_x a_data a_main i_otherHeight i_ops i_ifs i_ifsNotTaken i_tx i_in i_messageIsThere (x_Ma_digestTop fu i_otherHeight i_ops i_ifs i_ifsNotTaken i_tx i_in i_messageIsThere) := by
  obtain ⟨hx, hb, hr, hml, hown, hts, hlocks, hK, hA, hSt, hnm, hex⟩ := id F
  intro a1 u0 u1 u2 u3 u4 u5 u6 u7 u8 u9 u10 u11 u12 res hf H locs ls hP hD hS hl
  unfold x_Ma_digestTop at hf
  refine lv_aload_n hx hb d_Ma_digestTop_0 rfl (lv_at hl 0 rfl) ?_
  refine va_get (D := D) (ci := 6) (v := .int u0) (C := "CoinKeeper$Machine") (T := F_6) (N := 19) hx hb hts i_6 hown hK hP 0 rfl rfl 8 (by decide) (hts _ gw_212) (fun _ h9 => h9) rfl d_Ma_digestTop_1 ?_
  refine lv_iconst (v := 1) hx hb d_Ma_digestTop_4 (by decide) ?_
  refine lv_icmp_lt (tgt := 29) hx hb d_Ma_digestTop_5 (by decide) (fun cx => ?_) (fun cx => ?_)
  · have hf := ifp cx hf
    refine lv_iconst (v := 0) hx hb d_Ma_digestTop_29 (by decide) ?_
    obtain rfl := Option.some.inj hf
    exact q_rz hx hb hr hlocks hK hP hD hS (isb_n (v := 0) (by decide)) d_Ma_digestTop_30
  · have hf := ifn cx hf
    refine lv_iload_n hx hb d_Ma_digestTop_8 rfl (lv_at hl 1 rfl) ?_
    refine lv_sipush (v := 166) hx hb d_Ma_digestTop_9 (by decide) ?_
    refine lv_icmp_eq (tgt := 31) hx hb d_Ma_digestTop_12 (by decide) (fun cx => ?_) (fun cx => ?_)
    · have hf := ifp cx hf
      exact wb_Ma_digestTop_31 (fu := fu) F _ _ _ _ _ _ _ _ _ _ _ _ _ _ _ hf _ _ _ hP hD hS (lv_sub hl [0, 1] rfl)
    · have hf := ifn cx hf
      refine lv_iload_n hx hb d_Ma_digestTop_15 rfl (lv_at hl 1 rfl) ?_
      refine lv_sipush (v := 168) hx hb d_Ma_digestTop_16 (by decide) ?_
      refine lv_icmp_lt (tgt := 29) hx hb d_Ma_digestTop_19 (by decide) (fun cx => ?_) (fun cx => ?_)
      · have hf := ifp cx hf
        refine lv_iconst (v := 0) hx hb d_Ma_digestTop_29 (by decide) ?_
        obtain rfl := Option.some.inj hf
        exact q_rz hx hb hr hlocks hK hP hD hS (isb_n (v := 0) (by decide)) d_Ma_digestTop_30
      · have hf := ifn cx hf
        refine lv_iload_n hx hb d_Ma_digestTop_22 rfl (lv_at hl 1 rfl) ?_
        refine lv_sipush (v := 170) hx hb d_Ma_digestTop_23 (by decide) ?_
        refine lv_icmp_le (tgt := 31) hx hb d_Ma_digestTop_26 (by decide) (fun cx => ?_) (fun cx => ?_)
        · have hf := ifp cx hf
          exact wb_Ma_digestTop_31 (fu := fu) F _ _ _ _ _ _ _ _ _ _ _ _ _ _ _ hf _ _ _ hP hD hS (lv_sub hl [0, 1] rfl)
        · have hf := ifn cx hf
          refine lv_iconst (v := 0) hx hb d_Ma_digestTop_29 (by decide) ?_
          obtain rfl := Option.some.inj hf
          exact q_rz hx hb hr hlocks hK hP hD hS (isb_n (v := 0) (by decide)) d_Ma_digestTop_30
theorem c_Ma_digestTop (l : Launch) (D : va_G) (cy : Nat → ClassId) (ad : Nat → Nat) (fu : Nat) (o : Nat) (r_signatures : Value) (v_a_scriptEnd : Value) (v_a_other : Value) (v_a_taken : Value) (r_layout : Value) (r_coin : Value) (o_sha : Nat) (a_sha_state : Nat) (a_sha_w : Nat) (a_sha_chunk : Nat) (o_ripemd : Nat) (a_ripemd_state : Nat) (a_ripemd_left : Nat) (a_ripemd_right : Nat) (a_ripemd_x : Nat) (a_data : Nat) (a_main : Nat) (i_otherHeight : Int32) (i_ops : Int32) (i_ifs : Int32) (i_ifsNotTaken : Int32) (i_tx : Int32) (i_in : Int32) (i_messageIsThere : Int32) (a1 : Int32) (u0 : Int32) (u1 : Int32) (u2 : Int32) (u3 : Int64) (u4 : Nat → Int32) (u5 : Nat → Int32) (u6 : Nat → Int32) (u7 : Nat → Int32) (u8 : Nat → Int32) (u9 : Nat → Int32) (u10 : Nat → Int32) (u11 : Nat → Int32) (u12 : Nat → Int32) (res : Int32 × Int32 × Int32 × Int32 × Int64 × (Nat → Int32) × (Nat → Int32) × (Nat → Int32) × (Nat → Int32) × (Nat → Int32) × (Nat → Int32) × (Nat → Int32) × (Nat → Int32) × (Nat → Int32)) (hf : x_Ma_digestTop fu i_otherHeight i_ops i_ifs i_ifsNotTaken i_tx i_in i_messageIsThere a1 u0 u1 u2 u3 u4 u5 u6 u7 u8 u9 u10 u11 u12 = some res) (sz : Nat) : Met l ({ cls := "CoinKeeper$Machine", name := "digestTop", desc := "(I)Z" } : Jvm.MethodName) (.code ({ cls := "CoinKeeper$Machine", name := "digestTop", desc := "(I)Z" } : Jvm.MethodName) b_Ma_digestTop 5 (some .boolean) :: gw) rm_Ma_digestTop (va_Pc [.ref o, .int a1] (Pr D cy ad [(o, .inr (6, [.ref o_sha, r_signatures, .ref o_ripemd, .ref a_data, v_a_scriptEnd, .ref a_main, v_a_other, v_a_taken, .int u0, .int i_otherHeight, .int i_ops, .int i_ifs, .int i_ifsNotTaken, .int u1, r_layout, .int i_tx, .int i_in, r_coin, .int i_messageIsThere])), (o_sha, .inr (9, [.ref a_sha_state, .ref a_sha_w, .ref a_sha_chunk, .int u2, .long u3])), (a_sha_state, .inl (cy 1, 8, .inl u4)), (a_sha_w, .inl (cy 1, 64, .inl u5)), (a_sha_chunk, .inl (cy 0, 64, .inl u6)), (o_ripemd, .inr (8, [.ref a_ripemd_state, .ref a_ripemd_left, .ref a_ripemd_right, .ref a_ripemd_x])), (a_ripemd_state, .inl (cy 1, 5, .inl u7)), (a_ripemd_left, .inl (cy 1, 5, .inl u8)), (a_ripemd_right, .inl (cy 1, 5, .inl u9)), (a_ripemd_x, .inl (cy 1, 16, .inl u10)), (a_data, .inl (cy 0, 14928, .inl u11)), (a_main, .inl (cy 1, 204, .inl u12))] sz)) (q_Ma_digestTop D cy (va_A [(o, .inr (6, [.ref o_sha, r_signatures, .ref o_ripemd, .ref a_data, v_a_scriptEnd, .ref a_main, v_a_other, v_a_taken, .int u0, .int i_otherHeight, .int i_ops, .int i_ifs, .int i_ifsNotTaken, .int u1, r_layout, .int i_tx, .int i_in, r_coin, .int i_messageIsThere])), (o_sha, .inr (9, [.ref a_sha_state, .ref a_sha_w, .ref a_sha_chunk, .int u2, .long u3])), (a_sha_state, .inl (cy 1, 8, .inl u4)), (a_sha_w, .inl (cy 1, 64, .inl u5)), (a_sha_chunk, .inl (cy 0, 64, .inl u6)), (o_ripemd, .inr (8, [.ref a_ripemd_state, .ref a_ripemd_left, .ref a_ripemd_right, .ref a_ripemd_x])), (a_ripemd_state, .inl (cy 1, 5, .inl u7)), (a_ripemd_left, .inl (cy 1, 5, .inl u8)), (a_ripemd_right, .inl (cy 1, 5, .inl u9)), (a_ripemd_x, .inl (cy 1, 16, .inl u10)), (a_data, .inl (cy 0, 14928, .inl u11)), (a_main, .inl (cy 1, 204, .inl u12))] sz) o r_signatures v_a_scriptEnd v_a_other v_a_taken r_layout r_coin o_sha a_sha_state a_sha_w a_sha_chunk o_ripemd a_ripemd_state a_ripemd_left a_ripemd_right a_ripemd_x a_data a_main i_otherHeight i_ops i_ifs i_ifsNotTaken i_tx i_in i_messageIsThere res) 0 0 (va_A [(o, .inr (6, [.ref o_sha, r_signatures, .ref o_ripemd, .ref a_data, v_a_scriptEnd, .ref a_main, v_a_other, v_a_taken, .int u0, .int i_otherHeight, .int i_ops, .int i_ifs, .int i_ifsNotTaken, .int u1, r_layout, .int i_tx, .int i_in, r_coin, .int i_messageIsThere])), (o_sha, .inr (9, [.ref a_sha_state, .ref a_sha_w, .ref a_sha_chunk, .int u2, .long u3])), (a_sha_state, .inl (cy 1, 8, .inl u4)), (a_sha_w, .inl (cy 1, 64, .inl u5)), (a_sha_chunk, .inl (cy 0, 64, .inl u6)), (o_ripemd, .inr (8, [.ref a_ripemd_state, .ref a_ripemd_left, .ref a_ripemd_right, .ref a_ripemd_x])), (a_ripemd_state, .inl (cy 1, 5, .inl u7)), (a_ripemd_left, .inl (cy 1, 5, .inl u8)), (a_ripemd_right, .inl (cy 1, 5, .inl u9)), (a_ripemd_x, .inl (cy 1, 16, .inl u10)), (a_data, .inl (cy 0, 14928, .inl u11)), (a_main, .inl (cy 1, 204, .inl u12))] sz) :=
  q_met (Qc := fun A => q_Ma_digestTop D cy A o r_signatures v_a_scriptEnd v_a_other v_a_taken r_layout r_coin o_sha a_sha_state a_sha_w a_sha_chunk o_ripemd a_ripemd_state a_ripemd_left a_ripemd_right a_ripemd_x a_data a_main i_otherHeight i_ops i_ifs i_ifsNotTaken i_tx i_in i_messageIsThere res) (by decide) rfl rfl (Nat.le_of_ble_eq_true rfl) (fun p e s m below meth c ls F hP hD hS hl => we_Ma_digestTop (fu := fu) F a1 u0 u1 u2 u3 u4 u5 u6 u7 u8 u9 u10 u11 u12 res hf _ _ _ hP hD hS hl) sz
abbrev b_Ma_isNumber : ByteArray := prog_7_method_12_code
theorem d_Ma_isNumber_0 : decode b_Ma_isNumber 0 = .ok (.iload_n 1, 1) := by decide +kernel
theorem d_Ma_isNumber_1 : decode b_Ma_isNumber 1 = .ok (.invokestatic 121, 3) := by decide +kernel
theorem d_Ma_isNumber_4 : decode b_Ma_isNumber 4 = .ok (.iconst 4, 1) := by decide +kernel
theorem d_Ma_isNumber_5 : decode b_Ma_isNumber 5 = .ok (.if_icmp .gt 7, 3) := by decide +kernel
theorem d_Ma_isNumber_8 : decode b_Ma_isNumber 8 = .ok (.iconst 1, 1) := by decide +kernel
theorem d_Ma_isNumber_9 : decode b_Ma_isNumber 9 = .ok (.goto 4, 3) := by decide +kernel
theorem d_Ma_isNumber_12 : decode b_Ma_isNumber 12 = .ok (.iconst 0, 1) := by decide +kernel
theorem d_Ma_isNumber_13 : decode b_Ma_isNumber 13 = .ok (.ireturn, 1) := by decide +kernel
abbrev rm_Ma_isNumber : Room := { frames := 1, cells := 0, slots := 0, locals := 20 }
abbrev q_Ma_isNumber (D : va_G) (cy : Nat → ClassId) (A : Nat → Prop) (o : Nat) (v_o_sha : Value) (r_signatures : Value) (v_o_ripemd : Value) (v_a_data : Value) (v_a_scriptEnd : Value) (v_a_main : Value) (v_a_other : Value) (v_a_taken : Value) (r_layout : Value) (r_coin : Value) (i_height : Int32) (i_otherHeight : Int32) (i_ops : Int32) (i_ifs : Int32) (i_ifsNotTaken : Int32) (i_free : Int32) (i_tx : Int32) (i_in : Int32) (i_messageIsThere : Int32) (res : Int32) : Array Value → State → Outcome → State → Prop := va_Qi (fun r' (_ : Unit) => r' = res) (fun _ t => Po D cy A [(o, .inr (6, [v_o_sha, r_signatures, v_o_ripemd, v_a_data, v_a_scriptEnd, v_a_main, v_a_other, v_a_taken, .int i_height, .int i_otherHeight, .int i_ops, .int i_ifs, .int i_ifsNotTaken, .int i_free, r_layout, .int i_tx, .int i_in, r_coin, .int i_messageIsThere]))] t) A
def I_Ma_isNumber_e (p : Program) (l : Launch) (e : Env) (s : State) (m : MethodId) (args : Array Value) (below : List Frame) (meth : Method) (c : Code) (D : va_G) (cy : Nat → ClassId) (A : Nat → Prop) (ad : Nat → Nat) (o : Nat) (v_o_sha : Value) (r_signatures : Value) (v_o_ripemd : Value) (v_a_data : Value) (v_a_scriptEnd : Value) (v_a_main : Value) (v_a_other : Value) (v_a_taken : Value) (r_layout : Value) (r_coin : Value) (i_height : Int32) (i_otherHeight : Int32) (i_ops : Int32) (i_ifs : Int32) (i_ifsNotTaken : Int32) (i_free : Int32) (i_tx : Int32) (i_in : Int32) (i_messageIsThere : Int32) (k : Int32 → Option (Int32)) : Prop :=
  ∀ (a1 : Int32) (res : Int32), k a1 = some res → ∀ (H : Heap) (locs : List Loc) (ls : Array Slot), va_P D classes [(o, .inr (6, [v_o_sha, r_signatures, v_o_ripemd, v_a_data, v_a_scriptEnd, v_a_main, v_a_other, v_a_taken, .int i_height, .int i_otherHeight, .int i_ops, .int i_ifs, .int i_ifsNotTaken, .int i_free, r_layout, .int i_tx, .int i_in, r_coin, .int i_messageIsThere]))] H → va_D A [(o, .inr (6, [v_o_sha, r_signatures, v_o_ripemd, v_a_data, v_a_scriptEnd, v_a_main, v_a_other, v_a_taken, .int i_height, .int i_otherHeight, .int i_ops, .int i_ifs, .int i_ifsNotTaken, .int i_free, r_layout, .int i_tx, .int i_in, r_coin, .int i_messageIsThere]))] → va_S A s.heap H locs → lv_has ls 2 [(0, .ref o), (1, .int a1)] → W p l e rm_Ma_isNumber s m args below meth c H locs 0 0 (MQ below (q_Ma_isNumber D cy A o v_o_sha r_signatures v_o_ripemd v_a_data v_a_scriptEnd v_a_main v_a_other v_a_taken r_layout r_coin i_height i_otherHeight i_ops i_ifs i_ifsNotTaken i_free i_tx i_in i_messageIsThere res) args s 0 0 A) (F0 m 0 ls [])
set_option maxHeartbeats 8000000 in
set_option maxRecDepth 100000 in
theorem we_Ma_isNumber {p : Program} {l : Launch} {e : Env} {s : State} {m : MethodId} {args : Array Value} {below : List Frame} {meth : Method} {c : Code} {D : va_G} {cy : Nat → ClassId} {A : Nat → Prop} {ad : Nat → Nat} {o : Nat} {v_o_sha : Value} {r_signatures : Value} {v_o_ripemd : Value} {v_a_data : Value} {v_a_scriptEnd : Value} {v_a_main : Value} {v_a_other : Value} {v_a_taken : Value} {r_layout : Value} {r_coin : Value} {i_height : Int32} {i_otherHeight : Int32} {i_ops : Int32} {i_ifs : Int32} {i_ifsNotTaken : Int32} {i_free : Int32} {i_tx : Int32} {i_in : Int32} {i_messageIsThere : Int32} {fu : Nat} (F : Fx p s m args meth c b_Ma_isNumber 2 "CoinKeeper$Machine" "isNumber" (some .boolean) D cy ad A) : I_Ma_isNumber_e p l e s m args below meth c D cy A ad o v_o_sha r_signatures v_o_ripemd v_a_data v_a_scriptEnd v_a_main v_a_other v_a_taken r_layout r_coin i_height i_otherHeight i_ops i_ifs i_ifsNotTaken i_free i_tx i_in i_messageIsThere (x_Ma_isNumber fu i_height i_otherHeight i_ops i_ifs i_ifsNotTaken i_free i_tx i_in i_messageIsThere) := by
  obtain ⟨hx, hb, hr, hml, hown, hts, hlocks, hK, hA, hSt, hnm, hex⟩ := id F
  intro a1 res hf H locs ls hP hD hS hl
  unfold x_Ma_isNumber at hf
  refine lv_iload_n hx hb d_Ma_isNumber_0 rfl (lv_at hl 1 rfl) ?_
  obtain ⟨v1, hc, hf⟩ := bdp1 hf
  refine q_ai (wr := [(o, .inr (6, [v_o_sha, r_signatures, v_o_ripemd, v_a_data, v_a_scriptEnd, v_a_main, v_a_other, v_a_taken, .int i_height, .int i_otherHeight, .int i_ops, .int i_ifs, .int i_ifsNotTaken, .int i_free, r_layout, .int i_tx, .int i_in, r_coin, .int i_messageIsThere]))]) (va_runS (As := [.int a1]) (rest := []) ⟨hx, hb, hml, hown, hts⟩ (c_Ma_lengthOf l D cy ad fu a1 _ hc H.size) ⟨q_cB hts gw_1002 gw_6 gw_1000 hdc_40 ⟨by decide, by decide⟩, hts _ gw_1001⟩ (q_pre (hP.sub [] rfl) (hD.sub [] (by decide) rfl) hK hSt hS (va_free hD hS hA [] rfl) _) rfl rfl hl.1 rfl (lv_room (Nat.le_of_ble_eq_true rfl)) d_Ma_isNumber_1 ⟨Nat.le_of_ble_eq_true rfl, Nat.le_of_ble_eq_true rfl⟩) hP hD hS hA [] [0] rfl rfl (by decide) (by decide) (fun H locs hP hD hS => ?_)
  clear hc
  have hP : va_P D classes [(o, .inr (6, [v_o_sha, r_signatures, v_o_ripemd, v_a_data, v_a_scriptEnd, v_a_main, v_a_other, v_a_taken, .int i_height, .int i_otherHeight, .int i_ops, .int i_ifs, .int i_ifsNotTaken, .int i_free, r_layout, .int i_tx, .int i_in, r_coin, .int i_messageIsThere]))] H := hP
  have hD : va_D A [(o, .inr (6, [v_o_sha, r_signatures, v_o_ripemd, v_a_data, v_a_scriptEnd, v_a_main, v_a_other, v_a_taken, .int i_height, .int i_otherHeight, .int i_ops, .int i_ifs, .int i_ifsNotTaken, .int i_free, r_layout, .int i_tx, .int i_in, r_coin, .int i_messageIsThere]))] := hD
  refine lv_iconst (v := 4) hx hb d_Ma_isNumber_4 (by decide) ?_
  refine lv_icmp_gt (tgt := 12) hx hb d_Ma_isNumber_5 (by decide) (fun cx => ?_) (fun cx => ?_)
  · have hf := ifp cx hf
    refine lv_iconst (v := 0) hx hb d_Ma_isNumber_12 (by decide) ?_
    obtain rfl := Option.some.inj hf
    exact q_rz hx hb hr hlocks hK hP hD hS (isb_n (v := 0) (by decide)) d_Ma_isNumber_13
  · have hf := ifn cx hf
    refine lv_iconst (v := 1) hx hb d_Ma_isNumber_8 (by decide) ?_
    refine lv_goto (tgt := 13) hx hb d_Ma_isNumber_9 (by decide) ?_
    obtain rfl := Option.some.inj hf
    exact q_rz hx hb hr hlocks hK hP hD hS (isb_n (v := 1) (by decide)) d_Ma_isNumber_13
theorem c_Ma_isNumber (l : Launch) (D : va_G) (cy : Nat → ClassId) (ad : Nat → Nat) (fu : Nat) (o : Nat) (v_o_sha : Value) (r_signatures : Value) (v_o_ripemd : Value) (v_a_data : Value) (v_a_scriptEnd : Value) (v_a_main : Value) (v_a_other : Value) (v_a_taken : Value) (r_layout : Value) (r_coin : Value) (i_height : Int32) (i_otherHeight : Int32) (i_ops : Int32) (i_ifs : Int32) (i_ifsNotTaken : Int32) (i_free : Int32) (i_tx : Int32) (i_in : Int32) (i_messageIsThere : Int32) (a1 : Int32) (res : Int32) (hf : x_Ma_isNumber fu i_height i_otherHeight i_ops i_ifs i_ifsNotTaken i_free i_tx i_in i_messageIsThere a1 = some res) (sz : Nat) : Met l ({ cls := "CoinKeeper$Machine", name := "isNumber", desc := "(I)Z" } : Jvm.MethodName) (.code ({ cls := "CoinKeeper$Machine", name := "isNumber", desc := "(I)Z" } : Jvm.MethodName) b_Ma_isNumber 2 (some .boolean) :: gw) rm_Ma_isNumber (va_Pc [.ref o, .int a1] (Pr D cy ad [(o, .inr (6, [v_o_sha, r_signatures, v_o_ripemd, v_a_data, v_a_scriptEnd, v_a_main, v_a_other, v_a_taken, .int i_height, .int i_otherHeight, .int i_ops, .int i_ifs, .int i_ifsNotTaken, .int i_free, r_layout, .int i_tx, .int i_in, r_coin, .int i_messageIsThere]))] sz)) (q_Ma_isNumber D cy (va_A [(o, .inr (6, [v_o_sha, r_signatures, v_o_ripemd, v_a_data, v_a_scriptEnd, v_a_main, v_a_other, v_a_taken, .int i_height, .int i_otherHeight, .int i_ops, .int i_ifs, .int i_ifsNotTaken, .int i_free, r_layout, .int i_tx, .int i_in, r_coin, .int i_messageIsThere]))] sz) o v_o_sha r_signatures v_o_ripemd v_a_data v_a_scriptEnd v_a_main v_a_other v_a_taken r_layout r_coin i_height i_otherHeight i_ops i_ifs i_ifsNotTaken i_free i_tx i_in i_messageIsThere res) 0 0 (va_A [(o, .inr (6, [v_o_sha, r_signatures, v_o_ripemd, v_a_data, v_a_scriptEnd, v_a_main, v_a_other, v_a_taken, .int i_height, .int i_otherHeight, .int i_ops, .int i_ifs, .int i_ifsNotTaken, .int i_free, r_layout, .int i_tx, .int i_in, r_coin, .int i_messageIsThere]))] sz) :=
  q_met (Qc := fun A => q_Ma_isNumber D cy A o v_o_sha r_signatures v_o_ripemd v_a_data v_a_scriptEnd v_a_main v_a_other v_a_taken r_layout r_coin i_height i_otherHeight i_ops i_ifs i_ifsNotTaken i_free i_tx i_in i_messageIsThere res) (by decide) rfl rfl (Nat.le_of_ble_eq_true rfl) (fun p e s m below meth c ls F hP hD hS hl => we_Ma_isNumber (fu := fu) F a1 res hf _ _ _ hP hD hS hl) sz
abbrev b_Ma_numberOf : ByteArray := prog_7_method_13_code
theorem d_Ma_numberOf_0 : decode b_Ma_numberOf 0 = .ok (.iload_n 1, 1) := by decide +kernel
theorem d_Ma_numberOf_1 : decode b_Ma_numberOf 1 = .ok (.invokestatic 121, 3) := by decide +kernel
theorem d_Ma_numberOf_4 : decode b_Ma_numberOf 4 = .ok (.istore_n 2, 1) := by decide +kernel
theorem d_Ma_numberOf_5 : decode b_Ma_numberOf 5 = .ok (.lconst 0, 1) := by decide +kernel
theorem d_Ma_numberOf_6 : decode b_Ma_numberOf 6 = .ok (.lstore_n 3, 1) := by decide +kernel
theorem d_Ma_numberOf_7 : decode b_Ma_numberOf 7 = .ok (.iload_n 2, 1) := by decide +kernel
theorem d_Ma_numberOf_8 : decode b_Ma_numberOf 8 = .ok (.iconst 1, 1) := by decide +kernel
theorem d_Ma_numberOf_9 : decode b_Ma_numberOf 9 = .ok (.isub, 1) := by decide +kernel
theorem d_Ma_numberOf_10 : decode b_Ma_numberOf 10 = .ok (.istore 5, 2) := by decide +kernel
theorem d_Ma_numberOf_12 : decode b_Ma_numberOf 12 = .ok (.iload 5, 2) := by decide +kernel
theorem d_Ma_numberOf_14 : decode b_Ma_numberOf 14 = .ok (.ifCond .lt 32, 3) := by decide +kernel
theorem d_Ma_numberOf_17 : decode b_Ma_numberOf 17 = .ok (.lload_n 3, 1) := by decide +kernel
theorem d_Ma_numberOf_18 : decode b_Ma_numberOf 18 = .ok (.bipush 8, 2) := by decide +kernel
theorem d_Ma_numberOf_20 : decode b_Ma_numberOf 20 = .ok (.lshl, 1) := by decide +kernel
theorem d_Ma_numberOf_21 : decode b_Ma_numberOf 21 = .ok (.aload_n 0, 1) := by decide +kernel
theorem d_Ma_numberOf_22 : decode b_Ma_numberOf 22 = .ok (.getfield 18, 3) := by decide +kernel
theorem d_Ma_numberOf_25 : decode b_Ma_numberOf 25 = .ok (.iload_n 1, 1) := by decide +kernel
theorem d_Ma_numberOf_26 : decode b_Ma_numberOf 26 = .ok (.invokestatic 117, 3) := by decide +kernel
theorem d_Ma_numberOf_29 : decode b_Ma_numberOf 29 = .ok (.iload 5, 2) := by decide +kernel
theorem d_Ma_numberOf_31 : decode b_Ma_numberOf 31 = .ok (.iadd, 1) := by decide +kernel
theorem d_Ma_numberOf_32 : decode b_Ma_numberOf 32 = .ok (.baload, 1) := by decide +kernel
theorem d_Ma_numberOf_33 : decode b_Ma_numberOf 33 = .ok (.sipush 255, 3) := by decide +kernel
theorem d_Ma_numberOf_36 : decode b_Ma_numberOf 36 = .ok (.iand, 1) := by decide +kernel
theorem d_Ma_numberOf_37 : decode b_Ma_numberOf 37 = .ok (.i2l, 1) := by decide +kernel
theorem d_Ma_numberOf_38 : decode b_Ma_numberOf 38 = .ok (.lor, 1) := by decide +kernel
theorem d_Ma_numberOf_39 : decode b_Ma_numberOf 39 = .ok (.lstore_n 3, 1) := by decide +kernel
theorem d_Ma_numberOf_40 : decode b_Ma_numberOf 40 = .ok (.iinc 5 (-1), 3) := by decide +kernel
theorem d_Ma_numberOf_43 : decode b_Ma_numberOf 43 = .ok (.goto (-31), 3) := by decide +kernel
theorem d_Ma_numberOf_46 : decode b_Ma_numberOf 46 = .ok (.iload_n 2, 1) := by decide +kernel
theorem d_Ma_numberOf_47 : decode b_Ma_numberOf 47 = .ok (.ifCond .ne 7, 3) := by decide +kernel
theorem d_Ma_numberOf_50 : decode b_Ma_numberOf 50 = .ok (.lconst 0, 1) := by decide +kernel
theorem d_Ma_numberOf_51 : decode b_Ma_numberOf 51 = .ok (.goto 13, 3) := by decide +kernel
theorem d_Ma_numberOf_54 : decode b_Ma_numberOf 54 = .ok (.ldc2_w 124, 3) := by decide +kernel
theorem d_Ma_numberOf_57 : decode b_Ma_numberOf 57 = .ok (.bipush 8, 2) := by decide +kernel
theorem d_Ma_numberOf_59 : decode b_Ma_numberOf 59 = .ok (.iload_n 2, 1) := by decide +kernel
theorem d_Ma_numberOf_60 : decode b_Ma_numberOf 60 = .ok (.iconst 1, 1) := by decide +kernel
theorem d_Ma_numberOf_61 : decode b_Ma_numberOf 61 = .ok (.isub, 1) := by decide +kernel
theorem d_Ma_numberOf_62 : decode b_Ma_numberOf 62 = .ok (.imul, 1) := by decide +kernel
theorem d_Ma_numberOf_63 : decode b_Ma_numberOf 63 = .ok (.lshl, 1) := by decide +kernel
theorem d_Ma_numberOf_64 : decode b_Ma_numberOf 64 = .ok (.lstore 5, 2) := by decide +kernel
theorem d_Ma_numberOf_66 : decode b_Ma_numberOf 66 = .ok (.lload_n 3, 1) := by decide +kernel
theorem d_Ma_numberOf_67 : decode b_Ma_numberOf 67 = .ok (.lload 5, 2) := by decide +kernel
theorem d_Ma_numberOf_69 : decode b_Ma_numberOf 69 = .ok (.land, 1) := by decide +kernel
theorem d_Ma_numberOf_70 : decode b_Ma_numberOf 70 = .ok (.lconst 0, 1) := by decide +kernel
theorem d_Ma_numberOf_71 : decode b_Ma_numberOf 71 = .ok (.lcmp, 1) := by decide +kernel
theorem d_Ma_numberOf_72 : decode b_Ma_numberOf 72 = .ok (.ifCond .ne 7, 3) := by decide +kernel
theorem d_Ma_numberOf_75 : decode b_Ma_numberOf 75 = .ok (.lload_n 3, 1) := by decide +kernel
theorem d_Ma_numberOf_76 : decode b_Ma_numberOf 76 = .ok (.goto 8, 3) := by decide +kernel
theorem d_Ma_numberOf_79 : decode b_Ma_numberOf 79 = .ok (.lload_n 3, 1) := by decide +kernel
theorem d_Ma_numberOf_80 : decode b_Ma_numberOf 80 = .ok (.lload 5, 2) := by decide +kernel
theorem d_Ma_numberOf_82 : decode b_Ma_numberOf 82 = .ok (.lsub, 1) := by decide +kernel
theorem d_Ma_numberOf_83 : decode b_Ma_numberOf 83 = .ok (.lneg, 1) := by decide +kernel
theorem d_Ma_numberOf_84 : decode b_Ma_numberOf 84 = .ok (.lreturn, 1) := by decide +kernel
abbrev rm_Ma_numberOf : Room := { frames := 1, cells := 0, slots := 0, locals := 20 }
abbrev q_Ma_numberOf (D : va_G) (cy : Nat → ClassId) (A : Nat → Prop) (o : Nat) (v_o_sha : Value) (r_signatures : Value) (v_o_ripemd : Value) (v_a_scriptEnd : Value) (v_a_main : Value) (v_a_other : Value) (v_a_taken : Value) (r_layout : Value) (r_coin : Value) (a_data : Nat) (i_height : Int32) (i_otherHeight : Int32) (i_ops : Int32) (i_ifs : Int32) (i_ifsNotTaken : Int32) (i_free : Int32) (i_tx : Int32) (i_in : Int32) (i_messageIsThere : Int32) (g_data : Nat → Int32) (res : Int64) : Array Value → State → Outcome → State → Prop := va_Ql (fun r' (_ : Unit) => r' = res) (fun _ t => Po D cy A [(o, .inr (6, [v_o_sha, r_signatures, v_o_ripemd, .ref a_data, v_a_scriptEnd, v_a_main, v_a_other, v_a_taken, .int i_height, .int i_otherHeight, .int i_ops, .int i_ifs, .int i_ifsNotTaken, .int i_free, r_layout, .int i_tx, .int i_in, r_coin, .int i_messageIsThere])), (a_data, .inl (cy 0, 14928, .inl g_data))] t) A
def I_Ma_numberOf_64 (p : Program) (l : Launch) (e : Env) (s : State) (m : MethodId) (args : Array Value) (below : List Frame) (meth : Method) (c : Code) (D : va_G) (cy : Nat → ClassId) (A : Nat → Prop) (ad : Nat → Nat) (o : Nat) (v_o_sha : Value) (r_signatures : Value) (v_o_ripemd : Value) (v_a_scriptEnd : Value) (v_a_main : Value) (v_a_other : Value) (v_a_taken : Value) (r_layout : Value) (r_coin : Value) (a_data : Nat) (i_height : Int32) (i_otherHeight : Int32) (i_ops : Int32) (i_ifs : Int32) (i_ifsNotTaken : Int32) (i_free : Int32) (i_tx : Int32) (i_in : Int32) (i_messageIsThere : Int32) (g_data : Nat → Int32) (k : Int64 → Int64 → Option (Int64)) : Prop :=
  ∀ (x3 : Int64) (y0 : Int64) (res : Int64), k x3 y0 = some res → ∀ (H : Heap) (locs : List Loc) (ls : Array Slot), va_P D classes [(o, .inr (6, [v_o_sha, r_signatures, v_o_ripemd, .ref a_data, v_a_scriptEnd, v_a_main, v_a_other, v_a_taken, .int i_height, .int i_otherHeight, .int i_ops, .int i_ifs, .int i_ifsNotTaken, .int i_free, r_layout, .int i_tx, .int i_in, r_coin, .int i_messageIsThere])), (a_data, .inl (cy 0, 14928, .inl g_data))] H → va_D A [(o, .inr (6, [v_o_sha, r_signatures, v_o_ripemd, .ref a_data, v_a_scriptEnd, v_a_main, v_a_other, v_a_taken, .int i_height, .int i_otherHeight, .int i_ops, .int i_ifs, .int i_ifsNotTaken, .int i_free, r_layout, .int i_tx, .int i_in, r_coin, .int i_messageIsThere])), (a_data, .inl (cy 0, 14928, .inl g_data))] → va_S A s.heap H locs → lv_has ls 7 [(3, .long x3)] → W p l e rm_Ma_numberOf s m args below meth c H locs 0 0 (MQ below (q_Ma_numberOf D cy A o v_o_sha r_signatures v_o_ripemd v_a_scriptEnd v_a_main v_a_other v_a_taken r_layout r_coin a_data i_height i_otherHeight i_ops i_ifs i_ifsNotTaken i_free i_tx i_in i_messageIsThere g_data res) args s 0 0 A) (F0 m 64 ls [.long y0])
def I_Ma_numberOf_12 (p : Program) (l : Launch) (e : Env) (s : State) (m : MethodId) (args : Array Value) (below : List Frame) (meth : Method) (c : Code) (D : va_G) (cy : Nat → ClassId) (A : Nat → Prop) (ad : Nat → Nat) (o : Nat) (v_o_sha : Value) (r_signatures : Value) (v_o_ripemd : Value) (v_a_scriptEnd : Value) (v_a_main : Value) (v_a_other : Value) (v_a_taken : Value) (r_layout : Value) (r_coin : Value) (a_data : Nat) (i_height : Int32) (i_otherHeight : Int32) (i_ops : Int32) (i_ifs : Int32) (i_ifsNotTaken : Int32) (i_free : Int32) (i_tx : Int32) (i_in : Int32) (i_messageIsThere : Int32) (g_data : Nat → Int32) (k : Int32 → Int32 → Int64 → Int32 → Option (Int64)) : Prop :=
  ∀ (x1 : Int32) (x2 : Int32) (x3 : Int64) (x5 : Int32) (res : Int64), k x1 x2 x3 x5 = some res → ∀ (H : Heap) (locs : List Loc) (ls : Array Slot), va_P D classes [(o, .inr (6, [v_o_sha, r_signatures, v_o_ripemd, .ref a_data, v_a_scriptEnd, v_a_main, v_a_other, v_a_taken, .int i_height, .int i_otherHeight, .int i_ops, .int i_ifs, .int i_ifsNotTaken, .int i_free, r_layout, .int i_tx, .int i_in, r_coin, .int i_messageIsThere])), (a_data, .inl (cy 0, 14928, .inl g_data))] H → va_D A [(o, .inr (6, [v_o_sha, r_signatures, v_o_ripemd, .ref a_data, v_a_scriptEnd, v_a_main, v_a_other, v_a_taken, .int i_height, .int i_otherHeight, .int i_ops, .int i_ifs, .int i_ifsNotTaken, .int i_free, r_layout, .int i_tx, .int i_in, r_coin, .int i_messageIsThere])), (a_data, .inl (cy 0, 14928, .inl g_data))] → va_S A s.heap H locs → lv_has ls 7 [(0, .ref o), (1, .int x1), (2, .int x2), (3, .long x3), (5, .int x5)] → W p l e rm_Ma_numberOf s m args below meth c H locs 0 0 (MQ below (q_Ma_numberOf D cy A o v_o_sha r_signatures v_o_ripemd v_a_scriptEnd v_a_main v_a_other v_a_taken r_layout r_coin a_data i_height i_otherHeight i_ops i_ifs i_ifsNotTaken i_free i_tx i_in i_messageIsThere g_data res) args s 0 0 A) (F0 m 12 ls [])
def I_Ma_numberOf_e (p : Program) (l : Launch) (e : Env) (s : State) (m : MethodId) (args : Array Value) (below : List Frame) (meth : Method) (c : Code) (D : va_G) (cy : Nat → ClassId) (A : Nat → Prop) (ad : Nat → Nat) (o : Nat) (v_o_sha : Value) (r_signatures : Value) (v_o_ripemd : Value) (v_a_scriptEnd : Value) (v_a_main : Value) (v_a_other : Value) (v_a_taken : Value) (r_layout : Value) (r_coin : Value) (a_data : Nat) (i_height : Int32) (i_otherHeight : Int32) (i_ops : Int32) (i_ifs : Int32) (i_ifsNotTaken : Int32) (i_free : Int32) (i_tx : Int32) (i_in : Int32) (i_messageIsThere : Int32) (g_data : Nat → Int32) (k : Int32 → Option (Int64)) : Prop :=
  ∀ (a1 : Int32) (res : Int64), k a1 = some res → ∀ (H : Heap) (locs : List Loc) (ls : Array Slot), va_P D classes [(o, .inr (6, [v_o_sha, r_signatures, v_o_ripemd, .ref a_data, v_a_scriptEnd, v_a_main, v_a_other, v_a_taken, .int i_height, .int i_otherHeight, .int i_ops, .int i_ifs, .int i_ifsNotTaken, .int i_free, r_layout, .int i_tx, .int i_in, r_coin, .int i_messageIsThere])), (a_data, .inl (cy 0, 14928, .inl g_data))] H → va_D A [(o, .inr (6, [v_o_sha, r_signatures, v_o_ripemd, .ref a_data, v_a_scriptEnd, v_a_main, v_a_other, v_a_taken, .int i_height, .int i_otherHeight, .int i_ops, .int i_ifs, .int i_ifsNotTaken, .int i_free, r_layout, .int i_tx, .int i_in, r_coin, .int i_messageIsThere])), (a_data, .inl (cy 0, 14928, .inl g_data))] → va_S A s.heap H locs → lv_has ls 7 [(0, .ref o), (1, .int a1)] → W p l e rm_Ma_numberOf s m args below meth c H locs 0 0 (MQ below (q_Ma_numberOf D cy A o v_o_sha r_signatures v_o_ripemd v_a_scriptEnd v_a_main v_a_other v_a_taken r_layout r_coin a_data i_height i_otherHeight i_ops i_ifs i_ifsNotTaken i_free i_tx i_in i_messageIsThere g_data res) args s 0 0 A) (F0 m 0 ls [])
set_option maxHeartbeats 8000000 in
set_option maxRecDepth 100000 in
theorem wb_Ma_numberOf_64 {p : Program} {l : Launch} {e : Env} {s : State} {m : MethodId} {args : Array Value} {below : List Frame} {meth : Method} {c : Code} {D : va_G} {cy : Nat → ClassId} {A : Nat → Prop} {ad : Nat → Nat} {o : Nat} {v_o_sha : Value} {r_signatures : Value} {v_o_ripemd : Value} {v_a_scriptEnd : Value} {v_a_main : Value} {v_a_other : Value} {v_a_taken : Value} {r_layout : Value} {r_coin : Value} {a_data : Nat} {i_height : Int32} {i_otherHeight : Int32} {i_ops : Int32} {i_ifs : Int32} {i_ifsNotTaken : Int32} {i_free : Int32} {i_tx : Int32} {i_in : Int32} {i_messageIsThere : Int32} {g_data : Nat → Int32} {fu : Nat} (F : Fx p s m args meth c b_Ma_numberOf 7 "CoinKeeper$Machine" "numberOf" (some .long) D cy ad A) : I_Ma_numberOf_64 p l e s m args below meth c D cy A ad o v_o_sha r_signatures v_o_ripemd v_a_scriptEnd v_a_main v_a_other v_a_taken r_layout r_coin a_data i_height i_otherHeight i_ops i_ifs i_ifsNotTaken i_free i_tx i_in i_messageIsThere g_data (xb_Ma_numberOf_64 fu i_height i_otherHeight i_ops i_ifs i_ifsNotTaken i_free i_tx i_in i_messageIsThere g_data) := by
  obtain ⟨hx, hb, hr, hml, hown, hts, hlocks, hK, hA, hSt, hnm, hex⟩ := id F
  intro x3 y0 res hf H locs ls hP hD hS hl
  unfold xb_Ma_numberOf_64 at hf
  refine lv_lstore (lv' := [(5, .long y0), (3, .long x3)]) hx hb d_Ma_numberOf_64 hl (by decide) rfl (fun ls hl => ?_)
  refine lv_lload_n hx hb d_Ma_numberOf_66 rfl (lv_at hl 1 rfl) ?_
  refine lv_lload hx hb d_Ma_numberOf_67 (lv_at hl 0 rfl) ?_
  refine lv_land hx hb d_Ma_numberOf_69 ?_
  refine lv_topl (fun v1 ev => ?_)
  have hf := bn ev hf
  clear ev
  refine lv_lconst (v := 0) hx hb d_Ma_numberOf_70 (by decide) ?_
  refine W.lcmp hx hb d_Ma_numberOf_71 ?_
  refine lv_if_ne (tgt := 79) hx hb d_Ma_numberOf_72 (by decide) (fun cx => ?_) (fun cx => ?_)
  · have hf := ifn cx hf
    refine lv_lload_n hx hb d_Ma_numberOf_79 rfl (lv_at hl 1 rfl) ?_
    refine lv_lload hx hb d_Ma_numberOf_80 (lv_at hl 0 rfl) ?_
    refine lv_lsub hx hb d_Ma_numberOf_82 ?_
    refine lv_lneg hx hb d_Ma_numberOf_83 ?_
    refine lv_topl (fun v2 ev => ?_)
    have hf := bn ev hf
    clear ev
    obtain rfl := Option.some.inj hf
    exact q_rl hx hb hr hlocks hK hP hD hS d_Ma_numberOf_84
  · have hf := ifp cx hf
    refine lv_lload_n hx hb d_Ma_numberOf_75 rfl (lv_at hl 1 rfl) ?_
    refine lv_goto (tgt := 84) hx hb d_Ma_numberOf_76 (by decide) ?_
    obtain rfl := Option.some.inj hf
    exact q_rl hx hb hr hlocks hK hP hD hS d_Ma_numberOf_84
set_option maxHeartbeats 8000000 in
set_option maxRecDepth 100000 in
theorem wb_Ma_numberOf_12 {p : Program} {l : Launch} {e : Env} {s : State} {m : MethodId} {args : Array Value} {below : List Frame} {meth : Method} {c : Code} {D : va_G} {cy : Nat → ClassId} {A : Nat → Prop} {ad : Nat → Nat} {o : Nat} {v_o_sha : Value} {r_signatures : Value} {v_o_ripemd : Value} {v_a_scriptEnd : Value} {v_a_main : Value} {v_a_other : Value} {v_a_taken : Value} {r_layout : Value} {r_coin : Value} {a_data : Nat} {i_height : Int32} {i_otherHeight : Int32} {i_ops : Int32} {i_ifs : Int32} {i_ifsNotTaken : Int32} {i_free : Int32} {i_tx : Int32} {i_in : Int32} {i_messageIsThere : Int32} {g_data : Nat → Int32} {fu : Nat} {k_12 : Int32 → Int32 → Int64 → Int32 → Option (Int64)} (F : Fx p s m args meth c b_Ma_numberOf 7 "CoinKeeper$Machine" "numberOf" (some .long) D cy ad A) (hk_12 : I_Ma_numberOf_12 p l e s m args below meth c D cy A ad o v_o_sha r_signatures v_o_ripemd v_a_scriptEnd v_a_main v_a_other v_a_taken r_layout r_coin a_data i_height i_otherHeight i_ops i_ifs i_ifsNotTaken i_free i_tx i_in i_messageIsThere g_data k_12) : I_Ma_numberOf_12 p l e s m args below meth c D cy A ad o v_o_sha r_signatures v_o_ripemd v_a_scriptEnd v_a_main v_a_other v_a_taken r_layout r_coin a_data i_height i_otherHeight i_ops i_ifs i_ifsNotTaken i_free i_tx i_in i_messageIsThere g_data (xb_Ma_numberOf_12 fu i_height i_otherHeight i_ops i_ifs i_ifsNotTaken i_free i_tx i_in i_messageIsThere g_data k_12) := by
  obtain ⟨hx, hb, hr, hml, hown, hts, hlocks, hK, hA, hSt, hnm, hex⟩ := id F
  intro x1 x2 x3 x5 res hf H locs ls hP hD hS hl
  unfold xb_Ma_numberOf_12 at hf
  refine lv_iload hx hb d_Ma_numberOf_12 (lv_at hl 4 rfl) ?_
  refine lv_if_lt (tgt := 46) hx hb d_Ma_numberOf_14 (by decide) (fun cx => ?_) (fun cx => ?_)
  · have hf := ifp cx hf
    refine lv_iload_n hx hb d_Ma_numberOf_46 rfl (lv_at hl 2 rfl) ?_
    refine lv_if_ne (tgt := 54) hx hb d_Ma_numberOf_47 (by decide) (fun cx => ?_) (fun cx => ?_)
    · have hf := ifn cx hf
      refine lv_ldc2 (v := 128) hx hb hown (hts _ gw_1019) d_Ma_numberOf_54 ?_
      refine lv_bipush (v := 8) hx hb d_Ma_numberOf_57 (by decide) ?_
      refine lv_iload_n hx hb d_Ma_numberOf_59 rfl (lv_at hl 2 rfl) ?_
      refine lv_iconst (v := 1) hx hb d_Ma_numberOf_60 (by decide) ?_
      refine lv_isub hx hb d_Ma_numberOf_61 ?_
      refine lv_imul hx hb d_Ma_numberOf_62 ?_
      refine lv_lshl hx hb d_Ma_numberOf_63 rfl ?_
      exact wb_Ma_numberOf_64 (fu := fu) F _ _ _ hf _ _ _ hP hD hS (lv_sub hl [3] rfl)
    · have hf := ifp cx hf
      refine lv_lconst (v := 0) hx hb d_Ma_numberOf_50 (by decide) ?_
      refine lv_goto (tgt := 64) hx hb d_Ma_numberOf_51 (by decide) ?_
      exact wb_Ma_numberOf_64 (fu := fu) F _ _ _ hf _ _ _ hP hD hS (lv_sub hl [3] rfl)
  · have hf := ifn cx hf
    refine lv_lload_n hx hb d_Ma_numberOf_17 rfl (lv_at hl 3 rfl) ?_
    refine lv_bipush (v := 8) hx hb d_Ma_numberOf_18 (by decide) ?_
    refine lv_lshl hx hb d_Ma_numberOf_20 rfl ?_
    refine lv_topl (fun v1 ev => ?_)
    have hf := bn ev hf
    clear ev
    refine lv_aload_n hx hb d_Ma_numberOf_21 rfl (lv_at hl 0 rfl) ?_
    refine va_get (D := D) (ci := 6) (v := .ref a_data) (C := "CoinKeeper$Machine") (T := F_6) (N := 19) hx hb hts i_6 hown hK hP 0 rfl rfl 3 (by decide) (hts _ gw_207) (fun _ h9 => h9) rfl d_Ma_numberOf_22 ?_
    refine lv_iload_n hx hb d_Ma_numberOf_25 rfl (lv_at hl 1 rfl) ?_
    obtain ⟨v2, hc, hf⟩ := bdp1 hf
    refine q_ai (wr := [(o, .inr (6, [v_o_sha, r_signatures, v_o_ripemd, .ref a_data, v_a_scriptEnd, v_a_main, v_a_other, v_a_taken, .int i_height, .int i_otherHeight, .int i_ops, .int i_ifs, .int i_ifsNotTaken, .int i_free, r_layout, .int i_tx, .int i_in, r_coin, .int i_messageIsThere])), (a_data, .inl (cy 0, 14928, .inl g_data))]) (va_runS (As := [.int x1]) (rest := [.ref a_data, .long v1]) ⟨hx, hb, hml, hown, hts⟩ (c_Ma_placeOf l D cy ad fu x1 _ hc H.size) ⟨q_cB hts gw_999 gw_6 gw_997 hdc_39 ⟨by decide, by decide⟩, hts _ gw_998⟩ (q_pre (hP.sub [] rfl) (hD.sub [] (by decide) rfl) hK hSt hS (va_free hD hS hA [] rfl) _) rfl rfl hl.1 rfl (lv_room (Nat.le_of_ble_eq_true rfl)) d_Ma_numberOf_26 ⟨Nat.le_of_ble_eq_true rfl, Nat.le_of_ble_eq_true rfl⟩) hP hD hS hA [] [0, 1] rfl rfl (by decide) (by decide) (fun H locs hP hD hS => ?_)
    clear hc
    have hP : va_P D classes [(o, .inr (6, [v_o_sha, r_signatures, v_o_ripemd, .ref a_data, v_a_scriptEnd, v_a_main, v_a_other, v_a_taken, .int i_height, .int i_otherHeight, .int i_ops, .int i_ifs, .int i_ifsNotTaken, .int i_free, r_layout, .int i_tx, .int i_in, r_coin, .int i_messageIsThere])), (a_data, .inl (cy 0, 14928, .inl g_data))] H := hP
    have hD : va_D A [(o, .inr (6, [v_o_sha, r_signatures, v_o_ripemd, .ref a_data, v_a_scriptEnd, v_a_main, v_a_other, v_a_taken, .int i_height, .int i_otherHeight, .int i_ops, .int i_ifs, .int i_ifsNotTaken, .int i_free, r_layout, .int i_tx, .int i_in, r_coin, .int i_messageIsThere])), (a_data, .inl (cy 0, 14928, .inl g_data))] := hD
    refine lv_iload hx hb d_Ma_numberOf_29 (lv_at hl 4 rfl) ?_
    refine lv_iadd hx hb d_Ma_numberOf_31 ?_
    refine lv_topi (fun v3 ev => ?_)
    have hf := bn ev hf
    clear ev
    obtain ⟨hg, hf⟩ := gdp hf
    refine va_bald hx hb hK hP 1 0 rfl rfl (inb_in hg) d_Ma_numberOf_32 ?_
    refine lv_topi (fun v4 ev => ?_)
    have hf := bn ev hf
    clear ev
    refine lv_sipush (v := 255) hx hb d_Ma_numberOf_33 (by decide) ?_
    refine lv_iand hx hb d_Ma_numberOf_36 ?_
    refine lv_i2l hx hb d_Ma_numberOf_37 rfl ?_
    refine lv_lor hx hb d_Ma_numberOf_38 ?_
    refine lv_topl (fun v5 ev => ?_)
    have hf := bn ev hf
    clear ev
    refine lv_lstore_n (lv' := [(3, .long v5), (0, .ref o), (1, .int x1), (2, .int x2), (5, .int x5)]) hx hb d_Ma_numberOf_39 rfl hl (by decide) rfl (fun ls hl => ?_)
    obtain ⟨v6, ev, hf⟩ := bne hf
    refine lv_iinc (v := v6) (lv' := [(5, .int v6), (3, .long v5), (0, .ref o), (1, .int x1), (2, .int x2)]) hx hb d_Ma_numberOf_40 hl (k := 4) rfl (by rw [ev]; rfl) (by decide) rfl (fun ls hl => ?_)
    clear ev
    refine lv_goto (tgt := 12) hx hb d_Ma_numberOf_43 (by decide) ?_
    exact hk_12 _ _ _ _ _ hf _ _ _ hP hD hS (lv_sub hl [2, 3, 4, 1, 0] rfl)
theorem w_Ma_numberOf_12 {p : Program} {l : Launch} {e : Env} {s : State} {m : MethodId} {args : Array Value} {below : List Frame} {meth : Method} {c : Code} {D : va_G} {cy : Nat → ClassId} {A : Nat → Prop} {ad : Nat → Nat} {o : Nat} {v_o_sha : Value} {r_signatures : Value} {v_o_ripemd : Value} {v_a_scriptEnd : Value} {v_a_main : Value} {v_a_other : Value} {v_a_taken : Value} {r_layout : Value} {r_coin : Value} {a_data : Nat} {i_height : Int32} {i_otherHeight : Int32} {i_ops : Int32} {i_ifs : Int32} {i_ifsNotTaken : Int32} {i_free : Int32} {i_tx : Int32} {i_in : Int32} {i_messageIsThere : Int32} {g_data : Nat → Int32} {fu : Nat} (F : Fx p s m args meth c b_Ma_numberOf 7 "CoinKeeper$Machine" "numberOf" (some .long) D cy ad A) : ∀ n : Nat, I_Ma_numberOf_12 p l e s m args below meth c D cy A ad o v_o_sha r_signatures v_o_ripemd v_a_scriptEnd v_a_main v_a_other v_a_taken r_layout r_coin a_data i_height i_otherHeight i_ops i_ifs i_ifsNotTaken i_free i_tx i_in i_messageIsThere g_data (x_Ma_numberOf_12 fu i_height i_otherHeight i_ops i_ifs i_ifsNotTaken i_free i_tx i_in i_messageIsThere g_data n)
  | 0 => fun _ _ _ _ _ hf => nomatch (show (none : Option (Int64)) = some _ from hf)
  | n + 1 => wb_Ma_numberOf_12 F (w_Ma_numberOf_12 F n)
set_option maxHeartbeats 8000000 in
set_option maxRecDepth 100000 in
theorem we_Ma_numberOf {p : Program} {l : Launch} {e : Env} {s : State} {m : MethodId} {args : Array Value} {below : List Frame} {meth : Method} {c : Code} {D : va_G} {cy : Nat → ClassId} {A : Nat → Prop} {ad : Nat → Nat} {o : Nat} {v_o_sha : Value} {r_signatures : Value} {v_o_ripemd : Value} {v_a_scriptEnd : Value} {v_a_main : Value} {v_a_other : Value} {v_a_taken : Value} {r_layout : Value} {r_coin : Value} {a_data : Nat} {i_height : Int32} {i_otherHeight : Int32} {i_ops : Int32} {i_ifs : Int32} {i_ifsNotTaken : Int32} {i_free : Int32} {i_tx : Int32} {i_in : Int32} {i_messageIsThere : Int32} {g_data : Nat → Int32} {fu : Nat} (F : Fx p s m args meth c b_Ma_numberOf 7 "CoinKeeper$Machine" "numberOf" (some .long) D cy ad A) : I_Ma_numberOf_e p l e s m args below meth c D cy A ad o v_o_sha r_signatures v_o_ripemd v_a_scriptEnd v_a_main v_a_other v_a_taken r_layout r_coin a_data i_height i_otherHeight i_ops i_ifs i_ifsNotTaken i_free i_tx i_in i_messageIsThere g_data (x_Ma_numberOf fu i_height i_otherHeight i_ops i_ifs i_ifsNotTaken i_free i_tx i_in i_messageIsThere g_data) := by
  obtain ⟨hx, hb, hr, hml, hown, hts, hlocks, hK, hA, hSt, hnm, hex⟩ := id F
  intro a1 res hf H locs ls hP hD hS hl
  unfold x_Ma_numberOf at hf
  refine lv_iload_n hx hb d_Ma_numberOf_0 rfl (lv_at hl 1 rfl) ?_
  obtain ⟨v1, hc, hf⟩ := bdp1 hf
  refine q_ai (wr := [(o, .inr (6, [v_o_sha, r_signatures, v_o_ripemd, .ref a_data, v_a_scriptEnd, v_a_main, v_a_other, v_a_taken, .int i_height, .int i_otherHeight, .int i_ops, .int i_ifs, .int i_ifsNotTaken, .int i_free, r_layout, .int i_tx, .int i_in, r_coin, .int i_messageIsThere])), (a_data, .inl (cy 0, 14928, .inl g_data))]) (va_runS (As := [.int a1]) (rest := []) ⟨hx, hb, hml, hown, hts⟩ (c_Ma_lengthOf l D cy ad fu a1 _ hc H.size) ⟨q_cB hts gw_1002 gw_6 gw_1000 hdc_40 ⟨by decide, by decide⟩, hts _ gw_1001⟩ (q_pre (hP.sub [] rfl) (hD.sub [] (by decide) rfl) hK hSt hS (va_free hD hS hA [] rfl) _) rfl rfl hl.1 rfl (lv_room (Nat.le_of_ble_eq_true rfl)) d_Ma_numberOf_1 ⟨Nat.le_of_ble_eq_true rfl, Nat.le_of_ble_eq_true rfl⟩) hP hD hS hA [] [0, 1] rfl rfl (by decide) (by decide) (fun H locs hP hD hS => ?_)
  clear hc
  have hP : va_P D classes [(o, .inr (6, [v_o_sha, r_signatures, v_o_ripemd, .ref a_data, v_a_scriptEnd, v_a_main, v_a_other, v_a_taken, .int i_height, .int i_otherHeight, .int i_ops, .int i_ifs, .int i_ifsNotTaken, .int i_free, r_layout, .int i_tx, .int i_in, r_coin, .int i_messageIsThere])), (a_data, .inl (cy 0, 14928, .inl g_data))] H := hP
  have hD : va_D A [(o, .inr (6, [v_o_sha, r_signatures, v_o_ripemd, .ref a_data, v_a_scriptEnd, v_a_main, v_a_other, v_a_taken, .int i_height, .int i_otherHeight, .int i_ops, .int i_ifs, .int i_ifsNotTaken, .int i_free, r_layout, .int i_tx, .int i_in, r_coin, .int i_messageIsThere])), (a_data, .inl (cy 0, 14928, .inl g_data))] := hD
  refine lv_istore_n (lv' := [(2, .int v1), (0, .ref o), (1, .int a1)]) hx hb d_Ma_numberOf_4 rfl hl (by decide) rfl (fun ls hl => ?_)
  refine lv_lconst (v := 0) hx hb d_Ma_numberOf_5 (by decide) ?_
  refine lv_lstore_n (lv' := [(3, .long (0 : Int64)), (2, .int v1), (0, .ref o), (1, .int a1)]) hx hb d_Ma_numberOf_6 rfl hl (by decide) rfl (fun ls hl => ?_)
  refine lv_iload_n hx hb d_Ma_numberOf_7 rfl (lv_at hl 1 rfl) ?_
  refine lv_iconst (v := 1) hx hb d_Ma_numberOf_8 (by decide) ?_
  refine lv_isub hx hb d_Ma_numberOf_9 ?_
  refine lv_topi (fun v2 ev => ?_)
  have hf := bn ev hf
  clear ev
  refine lv_istore (lv' := [(5, .int v2), (3, .long (0 : Int64)), (2, .int v1), (0, .ref o), (1, .int a1)]) hx hb d_Ma_numberOf_10 hl (by decide) rfl (fun ls hl => ?_)
  exact w_Ma_numberOf_12 F fu _ _ _ _ _ hf _ _ _ hP hD hS (lv_sub hl [3, 4, 2, 1, 0] rfl)
theorem c_Ma_numberOf (l : Launch) (D : va_G) (cy : Nat → ClassId) (ad : Nat → Nat) (fu : Nat) (o : Nat) (v_o_sha : Value) (r_signatures : Value) (v_o_ripemd : Value) (v_a_scriptEnd : Value) (v_a_main : Value) (v_a_other : Value) (v_a_taken : Value) (r_layout : Value) (r_coin : Value) (a_data : Nat) (i_height : Int32) (i_otherHeight : Int32) (i_ops : Int32) (i_ifs : Int32) (i_ifsNotTaken : Int32) (i_free : Int32) (i_tx : Int32) (i_in : Int32) (i_messageIsThere : Int32) (g_data : Nat → Int32) (a1 : Int32) (res : Int64) (hf : x_Ma_numberOf fu i_height i_otherHeight i_ops i_ifs i_ifsNotTaken i_free i_tx i_in i_messageIsThere g_data a1 = some res) (sz : Nat) : Met l ({ cls := "CoinKeeper$Machine", name := "numberOf", desc := "(I)J" } : Jvm.MethodName) (.code ({ cls := "CoinKeeper$Machine", name := "numberOf", desc := "(I)J" } : Jvm.MethodName) b_Ma_numberOf 7 (some .long) :: gw) rm_Ma_numberOf (va_Pc [.ref o, .int a1] (Pr D cy ad [(o, .inr (6, [v_o_sha, r_signatures, v_o_ripemd, .ref a_data, v_a_scriptEnd, v_a_main, v_a_other, v_a_taken, .int i_height, .int i_otherHeight, .int i_ops, .int i_ifs, .int i_ifsNotTaken, .int i_free, r_layout, .int i_tx, .int i_in, r_coin, .int i_messageIsThere])), (a_data, .inl (cy 0, 14928, .inl g_data))] sz)) (q_Ma_numberOf D cy (va_A [(o, .inr (6, [v_o_sha, r_signatures, v_o_ripemd, .ref a_data, v_a_scriptEnd, v_a_main, v_a_other, v_a_taken, .int i_height, .int i_otherHeight, .int i_ops, .int i_ifs, .int i_ifsNotTaken, .int i_free, r_layout, .int i_tx, .int i_in, r_coin, .int i_messageIsThere])), (a_data, .inl (cy 0, 14928, .inl g_data))] sz) o v_o_sha r_signatures v_o_ripemd v_a_scriptEnd v_a_main v_a_other v_a_taken r_layout r_coin a_data i_height i_otherHeight i_ops i_ifs i_ifsNotTaken i_free i_tx i_in i_messageIsThere g_data res) 0 0 (va_A [(o, .inr (6, [v_o_sha, r_signatures, v_o_ripemd, .ref a_data, v_a_scriptEnd, v_a_main, v_a_other, v_a_taken, .int i_height, .int i_otherHeight, .int i_ops, .int i_ifs, .int i_ifsNotTaken, .int i_free, r_layout, .int i_tx, .int i_in, r_coin, .int i_messageIsThere])), (a_data, .inl (cy 0, 14928, .inl g_data))] sz) :=
  q_met (Qc := fun A => q_Ma_numberOf D cy A o v_o_sha r_signatures v_o_ripemd v_a_scriptEnd v_a_main v_a_other v_a_taken r_layout r_coin a_data i_height i_otherHeight i_ops i_ifs i_ifsNotTaken i_free i_tx i_in i_messageIsThere g_data res) (by decide) rfl rfl (Nat.le_of_ble_eq_true rfl) (fun p e s m below meth c ls F hP hD hS hl => we_Ma_numberOf (fu := fu) F a1 res hf _ _ _ hP hD hS hl) sz
abbrev b_Ma_within : ByteArray := prog_7_method_27_code
theorem d_Ma_within_0 : decode b_Ma_within 0 = .ok (.aload_n 0, 1) := by decide +kernel
theorem d_Ma_within_1 : decode b_Ma_within 1 = .ok (.getfield 73, 3) := by decide +kernel
theorem d_Ma_within_4 : decode b_Ma_within 4 = .ok (.iconst 3, 1) := by decide +kernel
theorem d_Ma_within_5 : decode b_Ma_within 5 = .ok (.if_icmp .lt 57, 3) := by decide +kernel
theorem d_Ma_within_8 : decode b_Ma_within 8 = .ok (.aload_n 0, 1) := by decide +kernel
theorem d_Ma_within_9 : decode b_Ma_within 9 = .ok (.aload_n 0, 1) := by decide +kernel
theorem d_Ma_within_10 : decode b_Ma_within 10 = .ok (.getfield 26, 3) := by decide +kernel
theorem d_Ma_within_13 : decode b_Ma_within 13 = .ok (.aload_n 0, 1) := by decide +kernel
theorem d_Ma_within_14 : decode b_Ma_within 14 = .ok (.getfield 73, 3) := by decide +kernel
theorem d_Ma_within_17 : decode b_Ma_within 17 = .ok (.iconst 3, 1) := by decide +kernel
theorem d_Ma_within_18 : decode b_Ma_within 18 = .ok (.isub, 1) := by decide +kernel
theorem d_Ma_within_19 : decode b_Ma_within 19 = .ok (.iaload, 1) := by decide +kernel
theorem d_Ma_within_20 : decode b_Ma_within 20 = .ok (.invokevirtual 167, 3) := by decide +kernel
theorem d_Ma_within_23 : decode b_Ma_within 23 = .ok (.ifCond .eq 39, 3) := by decide +kernel
theorem d_Ma_within_26 : decode b_Ma_within 26 = .ok (.aload_n 0, 1) := by decide +kernel
theorem d_Ma_within_27 : decode b_Ma_within 27 = .ok (.aload_n 0, 1) := by decide +kernel
theorem d_Ma_within_28 : decode b_Ma_within 28 = .ok (.getfield 26, 3) := by decide +kernel
theorem d_Ma_within_31 : decode b_Ma_within 31 = .ok (.aload_n 0, 1) := by decide +kernel
theorem d_Ma_within_32 : decode b_Ma_within 32 = .ok (.getfield 73, 3) := by decide +kernel
theorem d_Ma_within_35 : decode b_Ma_within 35 = .ok (.iconst 2, 1) := by decide +kernel
theorem d_Ma_within_36 : decode b_Ma_within 36 = .ok (.isub, 1) := by decide +kernel
theorem d_Ma_within_37 : decode b_Ma_within 37 = .ok (.iaload, 1) := by decide +kernel
theorem d_Ma_within_38 : decode b_Ma_within 38 = .ok (.invokevirtual 167, 3) := by decide +kernel
theorem d_Ma_within_41 : decode b_Ma_within 41 = .ok (.ifCond .eq 21, 3) := by decide +kernel
theorem d_Ma_within_44 : decode b_Ma_within 44 = .ok (.aload_n 0, 1) := by decide +kernel
theorem d_Ma_within_45 : decode b_Ma_within 45 = .ok (.aload_n 0, 1) := by decide +kernel
theorem d_Ma_within_46 : decode b_Ma_within 46 = .ok (.getfield 26, 3) := by decide +kernel
theorem d_Ma_within_49 : decode b_Ma_within 49 = .ok (.aload_n 0, 1) := by decide +kernel
theorem d_Ma_within_50 : decode b_Ma_within 50 = .ok (.getfield 73, 3) := by decide +kernel
theorem d_Ma_within_53 : decode b_Ma_within 53 = .ok (.iconst 1, 1) := by decide +kernel
theorem d_Ma_within_54 : decode b_Ma_within 54 = .ok (.isub, 1) := by decide +kernel
theorem d_Ma_within_55 : decode b_Ma_within 55 = .ok (.iaload, 1) := by decide +kernel
theorem d_Ma_within_56 : decode b_Ma_within 56 = .ok (.invokevirtual 167, 3) := by decide +kernel
theorem d_Ma_within_59 : decode b_Ma_within 59 = .ok (.ifCond .ne 5, 3) := by decide +kernel
theorem d_Ma_within_62 : decode b_Ma_within 62 = .ok (.iconst 0, 1) := by decide +kernel
theorem d_Ma_within_63 : decode b_Ma_within 63 = .ok (.ireturn, 1) := by decide +kernel
theorem d_Ma_within_64 : decode b_Ma_within 64 = .ok (.aload_n 0, 1) := by decide +kernel
theorem d_Ma_within_65 : decode b_Ma_within 65 = .ok (.dup, 1) := by decide +kernel
theorem d_Ma_within_66 : decode b_Ma_within 66 = .ok (.getfield 73, 3) := by decide +kernel
theorem d_Ma_within_69 : decode b_Ma_within 69 = .ok (.iconst 3, 1) := by decide +kernel
theorem d_Ma_within_70 : decode b_Ma_within 70 = .ok (.isub, 1) := by decide +kernel
theorem d_Ma_within_71 : decode b_Ma_within 71 = .ok (.putfield 73, 3) := by decide +kernel
theorem d_Ma_within_74 : decode b_Ma_within 74 = .ok (.aload_n 0, 1) := by decide +kernel
theorem d_Ma_within_75 : decode b_Ma_within 75 = .ok (.aload_n 0, 1) := by decide +kernel
theorem d_Ma_within_76 : decode b_Ma_within 76 = .ok (.getfield 26, 3) := by decide +kernel
theorem d_Ma_within_79 : decode b_Ma_within 79 = .ok (.aload_n 0, 1) := by decide +kernel
theorem d_Ma_within_80 : decode b_Ma_within 80 = .ok (.getfield 73, 3) := by decide +kernel
theorem d_Ma_within_83 : decode b_Ma_within 83 = .ok (.iaload, 1) := by decide +kernel
theorem d_Ma_within_84 : decode b_Ma_within 84 = .ok (.invokevirtual 170, 3) := by decide +kernel
theorem d_Ma_within_87 : decode b_Ma_within 87 = .ok (.lstore_n 1, 1) := by decide +kernel
theorem d_Ma_within_88 : decode b_Ma_within 88 = .ok (.aload_n 0, 1) := by decide +kernel
theorem d_Ma_within_89 : decode b_Ma_within 89 = .ok (.lload_n 1, 1) := by decide +kernel
theorem d_Ma_within_90 : decode b_Ma_within 90 = .ok (.aload_n 0, 1) := by decide +kernel
theorem d_Ma_within_91 : decode b_Ma_within 91 = .ok (.aload_n 0, 1) := by decide +kernel
theorem d_Ma_within_92 : decode b_Ma_within 92 = .ok (.getfield 26, 3) := by decide +kernel
theorem d_Ma_within_95 : decode b_Ma_within 95 = .ok (.aload_n 0, 1) := by decide +kernel
theorem d_Ma_within_96 : decode b_Ma_within 96 = .ok (.getfield 73, 3) := by decide +kernel
theorem d_Ma_within_99 : decode b_Ma_within 99 = .ok (.iconst 1, 1) := by decide +kernel
theorem d_Ma_within_100 : decode b_Ma_within 100 = .ok (.iadd, 1) := by decide +kernel
theorem d_Ma_within_101 : decode b_Ma_within 101 = .ok (.iaload, 1) := by decide +kernel
theorem d_Ma_within_102 : decode b_Ma_within 102 = .ok (.invokevirtual 170, 3) := by decide +kernel
theorem d_Ma_within_105 : decode b_Ma_within 105 = .ok (.lcmp, 1) := by decide +kernel
theorem d_Ma_within_106 : decode b_Ma_within 106 = .ok (.ifCond .lt 29, 3) := by decide +kernel
theorem d_Ma_within_109 : decode b_Ma_within 109 = .ok (.lload_n 1, 1) := by decide +kernel
theorem d_Ma_within_110 : decode b_Ma_within 110 = .ok (.aload_n 0, 1) := by decide +kernel
theorem d_Ma_within_111 : decode b_Ma_within 111 = .ok (.aload_n 0, 1) := by decide +kernel
theorem d_Ma_within_112 : decode b_Ma_within 112 = .ok (.getfield 26, 3) := by decide +kernel
theorem d_Ma_within_115 : decode b_Ma_within 115 = .ok (.aload_n 0, 1) := by decide +kernel
theorem d_Ma_within_116 : decode b_Ma_within 116 = .ok (.getfield 73, 3) := by decide +kernel
theorem d_Ma_within_119 : decode b_Ma_within 119 = .ok (.iconst 2, 1) := by decide +kernel
theorem d_Ma_within_120 : decode b_Ma_within 120 = .ok (.iadd, 1) := by decide +kernel
theorem d_Ma_within_121 : decode b_Ma_within 121 = .ok (.iaload, 1) := by decide +kernel
theorem d_Ma_within_122 : decode b_Ma_within 122 = .ok (.invokevirtual 170, 3) := by decide +kernel
theorem d_Ma_within_125 : decode b_Ma_within 125 = .ok (.lcmp, 1) := by decide +kernel
theorem d_Ma_within_126 : decode b_Ma_within 126 = .ok (.ifCond .ge 9, 3) := by decide +kernel
theorem d_Ma_within_129 : decode b_Ma_within 129 = .ok (.sipush 8449, 3) := by decide +kernel
theorem d_Ma_within_132 : decode b_Ma_within 132 = .ok (.goto 4, 3) := by decide +kernel
theorem d_Ma_within_135 : decode b_Ma_within 135 = .ok (.iconst 0, 1) := by decide +kernel
theorem d_Ma_within_136 : decode b_Ma_within 136 = .ok (.invokevirtual 95, 3) := by decide +kernel
theorem d_Ma_within_139 : decode b_Ma_within 139 = .ok (.iconst 1, 1) := by decide +kernel
theorem d_Ma_within_140 : decode b_Ma_within 140 = .ok (.ireturn, 1) := by decide +kernel
abbrev rm_Ma_within : Room := { frames := 2, cells := 0, slots := 0, locals := 46 }
abbrev q_Ma_within (D : va_G) (cy : Nat → ClassId) (A : Nat → Prop) (o : Nat) (v_o_sha : Value) (r_signatures : Value) (v_o_ripemd : Value) (v_a_scriptEnd : Value) (v_a_other : Value) (v_a_taken : Value) (r_layout : Value) (r_coin : Value) (a_data : Nat) (a_main : Nat) (i_otherHeight : Int32) (i_ops : Int32) (i_ifs : Int32) (i_ifsNotTaken : Int32) (i_free : Int32) (i_tx : Int32) (i_in : Int32) (i_messageIsThere : Int32) (g_data : Nat → Int32) (res : Int32 × Int32 × (Nat → Int32)) : Array Value → State → Outcome → State → Prop := va_Qi (fun r' (_ : Unit) => r' = res.1) (fun _ t => Po D cy A [(o, .inr (6, [v_o_sha, r_signatures, v_o_ripemd, .ref a_data, v_a_scriptEnd, .ref a_main, v_a_other, v_a_taken, .int res.2.1, .int i_otherHeight, .int i_ops, .int i_ifs, .int i_ifsNotTaken, .int i_free, r_layout, .int i_tx, .int i_in, r_coin, .int i_messageIsThere])), (a_data, .inl (cy 0, 14928, .inl g_data)), (a_main, .inl (cy 1, 204, .inl res.2.2))] t) A
def I_Ma_within_136 (p : Program) (l : Launch) (e : Env) (s : State) (m : MethodId) (args : Array Value) (below : List Frame) (meth : Method) (c : Code) (D : va_G) (cy : Nat → ClassId) (A : Nat → Prop) (ad : Nat → Nat) (o : Nat) (v_o_sha : Value) (r_signatures : Value) (v_o_ripemd : Value) (v_a_scriptEnd : Value) (v_a_other : Value) (v_a_taken : Value) (r_layout : Value) (r_coin : Value) (a_data : Nat) (a_main : Nat) (i_otherHeight : Int32) (i_ops : Int32) (i_ifs : Int32) (i_ifsNotTaken : Int32) (i_free : Int32) (i_tx : Int32) (i_in : Int32) (i_messageIsThere : Int32) (g_data : Nat → Int32) (k : Int32 → Int32 → (Nat → Int32) → Option (Int32 × Int32 × (Nat → Int32))) : Prop :=
  ∀ (y0 : Int32) (u0 : Int32) (u1 : Nat → Int32) (res : Int32 × Int32 × (Nat → Int32)), k y0 u0 u1 = some res → ∀ (H : Heap) (locs : List Loc) (ls : Array Slot), va_P D classes [(o, .inr (6, [v_o_sha, r_signatures, v_o_ripemd, .ref a_data, v_a_scriptEnd, .ref a_main, v_a_other, v_a_taken, .int u0, .int i_otherHeight, .int i_ops, .int i_ifs, .int i_ifsNotTaken, .int i_free, r_layout, .int i_tx, .int i_in, r_coin, .int i_messageIsThere])), (a_data, .inl (cy 0, 14928, .inl g_data)), (a_main, .inl (cy 1, 204, .inl u1))] H → va_D A [(o, .inr (6, [v_o_sha, r_signatures, v_o_ripemd, .ref a_data, v_a_scriptEnd, .ref a_main, v_a_other, v_a_taken, .int u0, .int i_otherHeight, .int i_ops, .int i_ifs, .int i_ifsNotTaken, .int i_free, r_layout, .int i_tx, .int i_in, r_coin, .int i_messageIsThere])), (a_data, .inl (cy 0, 14928, .inl g_data)), (a_main, .inl (cy 1, 204, .inl u1))] → va_S A s.heap H locs → lv_has ls 3 [] → W p l e rm_Ma_within s m args below meth c H locs 0 0 (MQ below (q_Ma_within D cy A o v_o_sha r_signatures v_o_ripemd v_a_scriptEnd v_a_other v_a_taken r_layout r_coin a_data a_main i_otherHeight i_ops i_ifs i_ifsNotTaken i_free i_tx i_in i_messageIsThere g_data res) args s 0 0 A) (F0 m 136 ls [.int y0, .ref o])
def I_Ma_within_135 (p : Program) (l : Launch) (e : Env) (s : State) (m : MethodId) (args : Array Value) (below : List Frame) (meth : Method) (c : Code) (D : va_G) (cy : Nat → ClassId) (A : Nat → Prop) (ad : Nat → Nat) (o : Nat) (v_o_sha : Value) (r_signatures : Value) (v_o_ripemd : Value) (v_a_scriptEnd : Value) (v_a_other : Value) (v_a_taken : Value) (r_layout : Value) (r_coin : Value) (a_data : Nat) (a_main : Nat) (i_otherHeight : Int32) (i_ops : Int32) (i_ifs : Int32) (i_ifsNotTaken : Int32) (i_free : Int32) (i_tx : Int32) (i_in : Int32) (i_messageIsThere : Int32) (g_data : Nat → Int32) (k : Int32 → (Nat → Int32) → Option (Int32 × Int32 × (Nat → Int32))) : Prop :=
  ∀ (u0 : Int32) (u1 : Nat → Int32) (res : Int32 × Int32 × (Nat → Int32)), k u0 u1 = some res → ∀ (H : Heap) (locs : List Loc) (ls : Array Slot), va_P D classes [(o, .inr (6, [v_o_sha, r_signatures, v_o_ripemd, .ref a_data, v_a_scriptEnd, .ref a_main, v_a_other, v_a_taken, .int u0, .int i_otherHeight, .int i_ops, .int i_ifs, .int i_ifsNotTaken, .int i_free, r_layout, .int i_tx, .int i_in, r_coin, .int i_messageIsThere])), (a_data, .inl (cy 0, 14928, .inl g_data)), (a_main, .inl (cy 1, 204, .inl u1))] H → va_D A [(o, .inr (6, [v_o_sha, r_signatures, v_o_ripemd, .ref a_data, v_a_scriptEnd, .ref a_main, v_a_other, v_a_taken, .int u0, .int i_otherHeight, .int i_ops, .int i_ifs, .int i_ifsNotTaken, .int i_free, r_layout, .int i_tx, .int i_in, r_coin, .int i_messageIsThere])), (a_data, .inl (cy 0, 14928, .inl g_data)), (a_main, .inl (cy 1, 204, .inl u1))] → va_S A s.heap H locs → lv_has ls 3 [] → W p l e rm_Ma_within s m args below meth c H locs 0 0 (MQ below (q_Ma_within D cy A o v_o_sha r_signatures v_o_ripemd v_a_scriptEnd v_a_other v_a_taken r_layout r_coin a_data a_main i_otherHeight i_ops i_ifs i_ifsNotTaken i_free i_tx i_in i_messageIsThere g_data res) args s 0 0 A) (F0 m 135 ls [.ref o])
def I_Ma_within_e (p : Program) (l : Launch) (e : Env) (s : State) (m : MethodId) (args : Array Value) (below : List Frame) (meth : Method) (c : Code) (D : va_G) (cy : Nat → ClassId) (A : Nat → Prop) (ad : Nat → Nat) (o : Nat) (v_o_sha : Value) (r_signatures : Value) (v_o_ripemd : Value) (v_a_scriptEnd : Value) (v_a_other : Value) (v_a_taken : Value) (r_layout : Value) (r_coin : Value) (a_data : Nat) (a_main : Nat) (i_otherHeight : Int32) (i_ops : Int32) (i_ifs : Int32) (i_ifsNotTaken : Int32) (i_free : Int32) (i_tx : Int32) (i_in : Int32) (i_messageIsThere : Int32) (g_data : Nat → Int32) (k : Int32 → (Nat → Int32) → Option (Int32 × Int32 × (Nat → Int32))) : Prop :=
  ∀ (u0 : Int32) (u1 : Nat → Int32) (res : Int32 × Int32 × (Nat → Int32)), k u0 u1 = some res → ∀ (H : Heap) (locs : List Loc) (ls : Array Slot), va_P D classes [(o, .inr (6, [v_o_sha, r_signatures, v_o_ripemd, .ref a_data, v_a_scriptEnd, .ref a_main, v_a_other, v_a_taken, .int u0, .int i_otherHeight, .int i_ops, .int i_ifs, .int i_ifsNotTaken, .int i_free, r_layout, .int i_tx, .int i_in, r_coin, .int i_messageIsThere])), (a_data, .inl (cy 0, 14928, .inl g_data)), (a_main, .inl (cy 1, 204, .inl u1))] H → va_D A [(o, .inr (6, [v_o_sha, r_signatures, v_o_ripemd, .ref a_data, v_a_scriptEnd, .ref a_main, v_a_other, v_a_taken, .int u0, .int i_otherHeight, .int i_ops, .int i_ifs, .int i_ifsNotTaken, .int i_free, r_layout, .int i_tx, .int i_in, r_coin, .int i_messageIsThere])), (a_data, .inl (cy 0, 14928, .inl g_data)), (a_main, .inl (cy 1, 204, .inl u1))] → va_S A s.heap H locs → lv_has ls 3 [(0, .ref o)] → W p l e rm_Ma_within s m args below meth c H locs 0 0 (MQ below (q_Ma_within D cy A o v_o_sha r_signatures v_o_ripemd v_a_scriptEnd v_a_other v_a_taken r_layout r_coin a_data a_main i_otherHeight i_ops i_ifs i_ifsNotTaken i_free i_tx i_in i_messageIsThere g_data res) args s 0 0 A) (F0 m 0 ls [])
set_option maxHeartbeats 8000000 in
set_option maxRecDepth 100000 in
theorem wb_Ma_within_136 {p : Program} {l : Launch} {e : Env} {s : State} {m : MethodId} {args : Array Value} {below : List Frame} {meth : Method} {c : Code} {D : va_G} {cy : Nat → ClassId} {A : Nat → Prop} {ad : Nat → Nat} {o : Nat} {v_o_sha : Value} {r_signatures : Value} {v_o_ripemd : Value} {v_a_scriptEnd : Value} {v_a_other : Value} {v_a_taken : Value} {r_layout : Value} {r_coin : Value} {a_data : Nat} {a_main : Nat} {i_otherHeight : Int32} {i_ops : Int32} {i_ifs : Int32} {i_ifsNotTaken : Int32} {i_free : Int32} {i_tx : Int32} {i_in : Int32} {i_messageIsThere : Int32} {g_data : Nat → Int32} {fu : Nat} (F : Fx p s m args meth c b_Ma_within 3 "CoinKeeper$Machine" "within" (some .boolean) D cy ad A) : I_Ma_within_136 p l e s m args below meth c D cy A ad o v_o_sha r_signatures v_o_ripemd v_a_scriptEnd v_a_other v_a_taken r_layout r_coin a_data a_main i_otherHeight i_ops i_ifs i_ifsNotTaken i_free i_tx i_in i_messageIsThere g_data (xb_Ma_within_136 fu i_otherHeight i_ops i_ifs i_ifsNotTaken i_free i_tx i_in i_messageIsThere g_data) := by
  obtain ⟨hx, hb, hr, hml, hown, hts, hlocks, hK, hA, hSt, hnm, hex⟩ := id F
  intro y0 u0 u1 res hf H locs ls hP hD hS hl
  unfold xb_Ma_within_136 at hf
  obtain ⟨e1, f2, hc, hf⟩ := bdp2 hf
  refine q_av (wr := [(a_data, .inl (cy 0, 14928, .inl g_data))]) (va_runV (C := "CoinKeeper$Machine") (As := [.int y0]) (rest := []) ⟨hx, hb, hml, hown, hts⟩ (c_Ma_push l D cy ad fu o v_o_sha r_signatures v_o_ripemd (.ref a_data) v_a_scriptEnd v_a_other v_a_taken r_layout r_coin a_main i_otherHeight i_ops i_ifs i_ifsNotTaken i_free i_tx i_in i_messageIsThere y0 u0 u1 _ hc H.size) ⟨q_cB hts gw_988 gw_6 gw_985 hdc_42 ⟨by decide, by decide⟩, hts _ gw_987, hts _ gs_28⟩ (q_preV (q_pre (hP.sub [0, 2] rfl) (hD.sub [0, 2] (by decide) rfl) hK hSt hS (va_free hD hS hA [0, 2] rfl) _) (va_recv hK (hP.sub [0, 2] rfl) (ci := 6) (q0 := 0) rfl rfl)) rfl rfl hl.1 rfl (lv_room (Nat.le_of_ble_eq_true rfl)) d_Ma_within_136 ⟨Nat.le_of_ble_eq_true rfl, Nat.le_of_ble_eq_true rfl⟩) hP hD hS hA [0, 2] [1] rfl rfl (by decide) (by decide) (fun H locs hP hD hS => ?_)
  clear hc
  have hP : va_P D classes [(a_data, .inl (cy 0, 14928, .inl g_data)), (o, .inr (6, [v_o_sha, r_signatures, v_o_ripemd, .ref a_data, v_a_scriptEnd, .ref a_main, v_a_other, v_a_taken, .int e1, .int i_otherHeight, .int i_ops, .int i_ifs, .int i_ifsNotTaken, .int i_free, r_layout, .int i_tx, .int i_in, r_coin, .int i_messageIsThere])), (a_main, .inl (cy 1, 204, .inl f2))] H := hP
  have hD : va_D A [(a_data, .inl (cy 0, 14928, .inl g_data)), (o, .inr (6, [v_o_sha, r_signatures, v_o_ripemd, .ref a_data, v_a_scriptEnd, .ref a_main, v_a_other, v_a_taken, .int e1, .int i_otherHeight, .int i_ops, .int i_ifs, .int i_ifsNotTaken, .int i_free, r_layout, .int i_tx, .int i_in, r_coin, .int i_messageIsThere])), (a_main, .inl (cy 1, 204, .inl f2))] := hD
  refine lv_iconst (v := 1) hx hb d_Ma_within_139 (by decide) ?_
  obtain rfl := Option.some.inj hf
  exact q_rz hx hb hr hlocks hK (hP.sub [1, 0, 2] rfl) (hD.sub [1, 0, 2] (by decide) rfl) hS (isb_n (v := 1) (by decide)) d_Ma_within_140
set_option maxHeartbeats 8000000 in
set_option maxRecDepth 100000 in
theorem wb_Ma_within_135 {p : Program} {l : Launch} {e : Env} {s : State} {m : MethodId} {args : Array Value} {below : List Frame} {meth : Method} {c : Code} {D : va_G} {cy : Nat → ClassId} {A : Nat → Prop} {ad : Nat → Nat} {o : Nat} {v_o_sha : Value} {r_signatures : Value} {v_o_ripemd : Value} {v_a_scriptEnd : Value} {v_a_other : Value} {v_a_taken : Value} {r_layout : Value} {r_coin : Value} {a_data : Nat} {a_main : Nat} {i_otherHeight : Int32} {i_ops : Int32} {i_ifs : Int32} {i_ifsNotTaken : Int32} {i_free : Int32} {i_tx : Int32} {i_in : Int32} {i_messageIsThere : Int32} {g_data : Nat → Int32} {fu : Nat} (F : Fx p s m args meth c b_Ma_within 3 "CoinKeeper$Machine" "within" (some .boolean) D cy ad A) : I_Ma_within_135 p l e s m args below meth c D cy A ad o v_o_sha r_signatures v_o_ripemd v_a_scriptEnd v_a_other v_a_taken r_layout r_coin a_data a_main i_otherHeight i_ops i_ifs i_ifsNotTaken i_free i_tx i_in i_messageIsThere g_data (xb_Ma_within_135 fu i_otherHeight i_ops i_ifs i_ifsNotTaken i_free i_tx i_in i_messageIsThere g_data) := by
  obtain ⟨hx, hb, hr, hml, hown, hts, hlocks, hK, hA, hSt, hnm, hex⟩ := id F
  intro u0 u1 res hf H locs ls hP hD hS hl
  unfold xb_Ma_within_135 at hf
  refine lv_iconst (v := 0) hx hb d_Ma_within_135 (by decide) ?_
  exact wb_Ma_within_136 (fu := fu) F _ _ _ _ hf _ _ _ hP hD hS (lv_sub hl [] rfl)
theorem hdc_44 : ({ cls := "CoinKeeper$Machine", name := "isNumber", desc := "(I)Z" } : Jvm.MethodName).cls ≠ "java/lang/invoke/MethodHandle" ∧ ({ cls := "CoinKeeper$Machine", name := "isNumber", desc := "(I)Z" } : Jvm.MethodName).cls ≠ "java/lang/invoke/VarHandle" ∧ (parseMethodDescriptor ({ cls := "CoinKeeper$Machine", name := "isNumber", desc := "(I)Z" } : Jvm.MethodName).desc).map (fun d => d.parameters.length) = some 1 := by decide +kernel
theorem hdc_45 : ({ cls := "CoinKeeper$Machine", name := "numberOf", desc := "(I)J" } : Jvm.MethodName).cls ≠ "java/lang/invoke/MethodHandle" ∧ ({ cls := "CoinKeeper$Machine", name := "numberOf", desc := "(I)J" } : Jvm.MethodName).cls ≠ "java/lang/invoke/VarHandle" ∧ (parseMethodDescriptor ({ cls := "CoinKeeper$Machine", name := "numberOf", desc := "(I)J" } : Jvm.MethodName).desc).map (fun d => d.parameters.length) = some 1 := by decide +kernel
set_option maxHeartbeats 8000000 in
set_option maxRecDepth 100000 in
theorem we_Ma_within {p : Program} {l : Launch} {e : Env} {s : State} {m : MethodId} {args : Array Value} {below : List Frame} {meth : Method} {c : Code} {D : va_G} {cy : Nat → ClassId} {A : Nat → Prop} {ad : Nat → Nat} {o : Nat} {v_o_sha : Value} {r_signatures : Value} {v_o_ripemd : Value} {v_a_scriptEnd : Value} {v_a_other : Value} {v_a_taken : Value} {r_layout : Value} {r_coin : Value} {a_data : Nat} {a_main : Nat} {i_otherHeight : Int32} {i_ops : Int32} {i_ifs : Int32} {i_ifsNotTaken : Int32} {i_free : Int32} {i_tx : Int32} {i_in : Int32} {i_messageIsThere : Int32} {g_data : Nat → Int32} {fu : Nat} (F : Fx p s m args meth c b_Ma_within 3 "CoinKeeper$Machine" "within" (some .boolean) D cy ad A) : I_Ma_within_e p l e s m args below meth c D cy A ad o v_o_sha r_signatures v_o_ripemd v_a_scriptEnd v_a_other v_a_taken r_layout r_coin a_data a_main i_otherHeight i_ops i_ifs i_ifsNotTaken i_free i_tx i_in i_messageIsThere g_data (x_Ma_within fu i_otherHeight i_ops i_ifs i_ifsNotTaken i_free i_tx i_in i_messageIsThere g_data) := by
  obtain ⟨hx, hb, hr, hml, hown, hts, hlocks, hK, hA, hSt, hnm, hex⟩ := id F
  intro u0 u1 res hf H locs ls hP hD hS hl
  unfold x_Ma_within at hf
  refine lv_aload_n hx hb d_Ma_within_0 rfl (lv_at hl 0 rfl) ?_
  refine va_get (D := D) (ci := 6) (v := .int u0) (C := "CoinKeeper$Machine") (T := F_6) (N := 19) hx hb hts i_6 hown hK hP 0 rfl rfl 8 (by decide) (hts _ gw_212) (fun _ h9 => h9) rfl d_Ma_within_1 ?_
  refine lv_iconst (v := 3) hx hb d_Ma_within_4 (by decide) ?_
  refine lv_icmp_lt (tgt := 62) hx hb d_Ma_within_5 (by decide) (fun cx => ?_) (fun cx => ?_)
  · have hf := ifp cx hf
    refine lv_iconst (v := 0) hx hb d_Ma_within_62 (by decide) ?_
    obtain rfl := Option.some.inj hf
    exact q_rz hx hb hr hlocks hK hP hD hS (isb_n (v := 0) (by decide)) d_Ma_within_63
  · have hf := ifn cx hf
    refine lv_aload_n hx hb d_Ma_within_8 rfl (lv_at hl 0 rfl) ?_
    refine lv_aload_n hx hb d_Ma_within_9 rfl (lv_at hl 0 rfl) ?_
    refine va_get (D := D) (ci := 6) (v := .ref a_main) (C := "CoinKeeper$Machine") (T := F_6) (N := 19) hx hb hts i_6 hown hK hP 0 rfl rfl 5 (by decide) (hts _ gw_209) (fun _ h9 => h9) rfl d_Ma_within_10 ?_
    refine lv_aload_n hx hb d_Ma_within_13 rfl (lv_at hl 0 rfl) ?_
    refine va_get (D := D) (ci := 6) (v := .int u0) (C := "CoinKeeper$Machine") (T := F_6) (N := 19) hx hb hts i_6 hown hK hP 0 rfl rfl 8 (by decide) (hts _ gw_212) (fun _ h9 => h9) rfl d_Ma_within_14 ?_
    refine lv_iconst (v := 3) hx hb d_Ma_within_17 (by decide) ?_
    refine lv_isub hx hb d_Ma_within_18 ?_
    refine lv_topi (fun v1 ev => ?_)
    have hf := bn ev hf
    clear ev
    obtain ⟨hg, hf⟩ := gdp hf
    refine va_iald hx hb hK hP 2 1 rfl rfl (inb_in hg) d_Ma_within_19 ?_
    refine lv_topi (fun v2 ev => ?_)
    have hf := bn ev hf
    clear ev
    obtain ⟨v3, hc, hf⟩ := bdp1 hf
    refine q_ai (wr := [(a_data, .inl (cy 0, 14928, .inl g_data)), (a_main, .inl (cy 1, 204, .inl u1))]) (va_runV (C := "CoinKeeper$Machine") (As := [.int v2]) (rest := []) ⟨hx, hb, hml, hown, hts⟩ (c_Ma_isNumber l D cy ad fu o v_o_sha r_signatures v_o_ripemd (.ref a_data) v_a_scriptEnd (.ref a_main) v_a_other v_a_taken r_layout r_coin u0 i_otherHeight i_ops i_ifs i_ifsNotTaken i_free i_tx i_in i_messageIsThere v2 _ hc H.size) ⟨q_cB hts gw_1014 gw_6 gw_1011 hdc_44 ⟨by decide, by decide⟩, hts _ gw_1013, hts _ gs_33⟩ (q_preV (q_pre (hP.sub [0] rfl) (hD.sub [0] (by decide) rfl) hK hSt hS (va_free hD hS hA [0] rfl) _) (va_recv hK (hP.sub [0] rfl) (ci := 6) (q0 := 0) rfl rfl)) rfl rfl hl.1 rfl (lv_room (Nat.le_of_ble_eq_true rfl)) d_Ma_within_20 ⟨Nat.le_of_ble_eq_true rfl, Nat.le_of_ble_eq_true rfl⟩) hP hD hS hA [0] [1, 2] rfl rfl (by decide) (by decide) (fun H locs hP hD hS => ?_)
    clear hc
    have hP : va_P D classes [(a_data, .inl (cy 0, 14928, .inl g_data)), (a_main, .inl (cy 1, 204, .inl u1)), (o, .inr (6, [v_o_sha, r_signatures, v_o_ripemd, .ref a_data, v_a_scriptEnd, .ref a_main, v_a_other, v_a_taken, .int u0, .int i_otherHeight, .int i_ops, .int i_ifs, .int i_ifsNotTaken, .int i_free, r_layout, .int i_tx, .int i_in, r_coin, .int i_messageIsThere]))] H := hP
    have hD : va_D A [(a_data, .inl (cy 0, 14928, .inl g_data)), (a_main, .inl (cy 1, 204, .inl u1)), (o, .inr (6, [v_o_sha, r_signatures, v_o_ripemd, .ref a_data, v_a_scriptEnd, .ref a_main, v_a_other, v_a_taken, .int u0, .int i_otherHeight, .int i_ops, .int i_ifs, .int i_ifsNotTaken, .int i_free, r_layout, .int i_tx, .int i_in, r_coin, .int i_messageIsThere]))] := hD
    refine lv_if_eq (tgt := 62) hx hb d_Ma_within_23 (by decide) (fun cx => ?_) (fun cx => ?_)
    · have hf := ifp cx hf
      refine lv_iconst (v := 0) hx hb d_Ma_within_62 (by decide) ?_
      obtain rfl := Option.some.inj hf
      exact q_rz hx hb hr hlocks hK (hP.sub [2, 0, 1] rfl) (hD.sub [2, 0, 1] (by decide) rfl) hS (isb_n (v := 0) (by decide)) d_Ma_within_63
    · have hf := ifn cx hf
      refine lv_aload_n hx hb d_Ma_within_26 rfl (lv_at hl 0 rfl) ?_
      refine lv_aload_n hx hb d_Ma_within_27 rfl (lv_at hl 0 rfl) ?_
      refine va_get (D := D) (ci := 6) (v := .ref a_main) (C := "CoinKeeper$Machine") (T := F_6) (N := 19) hx hb hts i_6 hown hK hP 2 rfl rfl 5 (by decide) (hts _ gw_209) (fun _ h9 => h9) rfl d_Ma_within_28 ?_
      refine lv_aload_n hx hb d_Ma_within_31 rfl (lv_at hl 0 rfl) ?_
      refine va_get (D := D) (ci := 6) (v := .int u0) (C := "CoinKeeper$Machine") (T := F_6) (N := 19) hx hb hts i_6 hown hK hP 2 rfl rfl 8 (by decide) (hts _ gw_212) (fun _ h9 => h9) rfl d_Ma_within_32 ?_
      refine lv_iconst (v := 2) hx hb d_Ma_within_35 (by decide) ?_
      refine lv_isub hx hb d_Ma_within_36 ?_
      refine lv_topi (fun v4 ev => ?_)
      have hf := bn ev hf
      clear ev
      obtain ⟨hg, hf⟩ := gdp hf
      refine va_iald hx hb hK hP 1 1 rfl rfl (inb_in hg) d_Ma_within_37 ?_
      refine lv_topi (fun v5 ev => ?_)
      have hf := bn ev hf
      clear ev
      obtain ⟨v6, hc, hf⟩ := bdp1 hf
      refine q_ai (wr := [(a_data, .inl (cy 0, 14928, .inl g_data)), (a_main, .inl (cy 1, 204, .inl u1))]) (va_runV (C := "CoinKeeper$Machine") (As := [.int v5]) (rest := []) ⟨hx, hb, hml, hown, hts⟩ (c_Ma_isNumber l D cy ad fu o v_o_sha r_signatures v_o_ripemd (.ref a_data) v_a_scriptEnd (.ref a_main) v_a_other v_a_taken r_layout r_coin u0 i_otherHeight i_ops i_ifs i_ifsNotTaken i_free i_tx i_in i_messageIsThere v5 _ hc H.size) ⟨q_cB hts gw_1014 gw_6 gw_1011 hdc_44 ⟨by decide, by decide⟩, hts _ gw_1013, hts _ gs_33⟩ (q_preV (q_pre (hP.sub [2] rfl) (hD.sub [2] (by decide) rfl) hK hSt hS (va_free hD hS hA [2] rfl) _) (va_recv hK (hP.sub [2] rfl) (ci := 6) (q0 := 0) rfl rfl)) rfl rfl hl.1 rfl (lv_room (Nat.le_of_ble_eq_true rfl)) d_Ma_within_38 ⟨Nat.le_of_ble_eq_true rfl, Nat.le_of_ble_eq_true rfl⟩) hP hD hS hA [2] [0, 1] rfl rfl (by decide) (by decide) (fun H locs hP hD hS => ?_)
      clear hc
      have hP : va_P D classes [(a_data, .inl (cy 0, 14928, .inl g_data)), (a_main, .inl (cy 1, 204, .inl u1)), (o, .inr (6, [v_o_sha, r_signatures, v_o_ripemd, .ref a_data, v_a_scriptEnd, .ref a_main, v_a_other, v_a_taken, .int u0, .int i_otherHeight, .int i_ops, .int i_ifs, .int i_ifsNotTaken, .int i_free, r_layout, .int i_tx, .int i_in, r_coin, .int i_messageIsThere]))] H := hP
      have hD : va_D A [(a_data, .inl (cy 0, 14928, .inl g_data)), (a_main, .inl (cy 1, 204, .inl u1)), (o, .inr (6, [v_o_sha, r_signatures, v_o_ripemd, .ref a_data, v_a_scriptEnd, .ref a_main, v_a_other, v_a_taken, .int u0, .int i_otherHeight, .int i_ops, .int i_ifs, .int i_ifsNotTaken, .int i_free, r_layout, .int i_tx, .int i_in, r_coin, .int i_messageIsThere]))] := hD
      refine lv_if_eq (tgt := 62) hx hb d_Ma_within_41 (by decide) (fun cx => ?_) (fun cx => ?_)
      · have hf := ifp cx hf
        refine lv_iconst (v := 0) hx hb d_Ma_within_62 (by decide) ?_
        obtain rfl := Option.some.inj hf
        exact q_rz hx hb hr hlocks hK (hP.sub [2, 0, 1] rfl) (hD.sub [2, 0, 1] (by decide) rfl) hS (isb_n (v := 0) (by decide)) d_Ma_within_63
      · have hf := ifn cx hf
        refine lv_aload_n hx hb d_Ma_within_44 rfl (lv_at hl 0 rfl) ?_
        refine lv_aload_n hx hb d_Ma_within_45 rfl (lv_at hl 0 rfl) ?_
        refine va_get (D := D) (ci := 6) (v := .ref a_main) (C := "CoinKeeper$Machine") (T := F_6) (N := 19) hx hb hts i_6 hown hK hP 2 rfl rfl 5 (by decide) (hts _ gw_209) (fun _ h9 => h9) rfl d_Ma_within_46 ?_
        refine lv_aload_n hx hb d_Ma_within_49 rfl (lv_at hl 0 rfl) ?_
        refine va_get (D := D) (ci := 6) (v := .int u0) (C := "CoinKeeper$Machine") (T := F_6) (N := 19) hx hb hts i_6 hown hK hP 2 rfl rfl 8 (by decide) (hts _ gw_212) (fun _ h9 => h9) rfl d_Ma_within_50 ?_
        refine lv_iconst (v := 1) hx hb d_Ma_within_53 (by decide) ?_
        refine lv_isub hx hb d_Ma_within_54 ?_
        refine lv_topi (fun v7 ev => ?_)
        have hf := bn ev hf
        clear ev
        obtain ⟨hg, hf⟩ := gdp hf
        refine va_iald hx hb hK hP 1 1 rfl rfl (inb_in hg) d_Ma_within_55 ?_
        refine lv_topi (fun v8 ev => ?_)
        have hf := bn ev hf
        clear ev
        obtain ⟨v9, hc, hf⟩ := bdp1 hf
        refine q_ai (wr := [(a_data, .inl (cy 0, 14928, .inl g_data)), (a_main, .inl (cy 1, 204, .inl u1))]) (va_runV (C := "CoinKeeper$Machine") (As := [.int v8]) (rest := []) ⟨hx, hb, hml, hown, hts⟩ (c_Ma_isNumber l D cy ad fu o v_o_sha r_signatures v_o_ripemd (.ref a_data) v_a_scriptEnd (.ref a_main) v_a_other v_a_taken r_layout r_coin u0 i_otherHeight i_ops i_ifs i_ifsNotTaken i_free i_tx i_in i_messageIsThere v8 _ hc H.size) ⟨q_cB hts gw_1014 gw_6 gw_1011 hdc_44 ⟨by decide, by decide⟩, hts _ gw_1013, hts _ gs_33⟩ (q_preV (q_pre (hP.sub [2] rfl) (hD.sub [2] (by decide) rfl) hK hSt hS (va_free hD hS hA [2] rfl) _) (va_recv hK (hP.sub [2] rfl) (ci := 6) (q0 := 0) rfl rfl)) rfl rfl hl.1 rfl (lv_room (Nat.le_of_ble_eq_true rfl)) d_Ma_within_56 ⟨Nat.le_of_ble_eq_true rfl, Nat.le_of_ble_eq_true rfl⟩) hP hD hS hA [2] [0, 1] rfl rfl (by decide) (by decide) (fun H locs hP hD hS => ?_)
        clear hc
        have hP : va_P D classes [(a_data, .inl (cy 0, 14928, .inl g_data)), (a_main, .inl (cy 1, 204, .inl u1)), (o, .inr (6, [v_o_sha, r_signatures, v_o_ripemd, .ref a_data, v_a_scriptEnd, .ref a_main, v_a_other, v_a_taken, .int u0, .int i_otherHeight, .int i_ops, .int i_ifs, .int i_ifsNotTaken, .int i_free, r_layout, .int i_tx, .int i_in, r_coin, .int i_messageIsThere]))] H := hP
        have hD : va_D A [(a_data, .inl (cy 0, 14928, .inl g_data)), (a_main, .inl (cy 1, 204, .inl u1)), (o, .inr (6, [v_o_sha, r_signatures, v_o_ripemd, .ref a_data, v_a_scriptEnd, .ref a_main, v_a_other, v_a_taken, .int u0, .int i_otherHeight, .int i_ops, .int i_ifs, .int i_ifsNotTaken, .int i_free, r_layout, .int i_tx, .int i_in, r_coin, .int i_messageIsThere]))] := hD
        refine lv_if_ne (tgt := 64) hx hb d_Ma_within_59 (by decide) (fun cx => ?_) (fun cx => ?_)
        · have hf := ifn cx hf
          refine lv_aload_n hx hb d_Ma_within_64 rfl (lv_at hl 0 rfl) ?_
          refine lv_dup hx hb d_Ma_within_65 rfl ?_
          refine va_get (D := D) (ci := 6) (v := .int u0) (C := "CoinKeeper$Machine") (T := F_6) (N := 19) hx hb hts i_6 hown hK hP 2 rfl rfl 8 (by decide) (hts _ gw_212) (fun _ h9 => h9) rfl d_Ma_within_66 ?_
          refine lv_iconst (v := 3) hx hb d_Ma_within_69 (by decide) ?_
          refine lv_isub hx hb d_Ma_within_70 ?_
          refine lv_topi (fun v10 ev => ?_)
          have hf := bn ev hf
          clear ev
          refine va_put (D := D) (ci := 6) (v := .int v10) (ty := .int) (C := "CoinKeeper$Machine") (T := F_6) (N := 19) hx hb hts i_6 t_6 t_6_ok n_6 hown hK hP hD hS 2 rfl rfl 8 (by decide) (hts _ gw_212) (fun _ h9 => h9) rfl (by decide +kernel) rfl rfl (Nat.le_of_ble_eq_true rfl) d_Ma_within_71 (fun H locs hP hD hS => ?_)
          have hP : va_P D classes [(a_data, .inl (cy 0, 14928, .inl g_data)), (a_main, .inl (cy 1, 204, .inl u1)), (o, .inr (6, [v_o_sha, r_signatures, v_o_ripemd, .ref a_data, v_a_scriptEnd, .ref a_main, v_a_other, v_a_taken, .int v10, .int i_otherHeight, .int i_ops, .int i_ifs, .int i_ifsNotTaken, .int i_free, r_layout, .int i_tx, .int i_in, r_coin, .int i_messageIsThere]))] H := hP
          have hD : va_D A [(a_data, .inl (cy 0, 14928, .inl g_data)), (a_main, .inl (cy 1, 204, .inl u1)), (o, .inr (6, [v_o_sha, r_signatures, v_o_ripemd, .ref a_data, v_a_scriptEnd, .ref a_main, v_a_other, v_a_taken, .int v10, .int i_otherHeight, .int i_ops, .int i_ifs, .int i_ifsNotTaken, .int i_free, r_layout, .int i_tx, .int i_in, r_coin, .int i_messageIsThere]))] := hD
          refine lv_aload_n hx hb d_Ma_within_74 rfl (lv_at hl 0 rfl) ?_
          refine lv_aload_n hx hb d_Ma_within_75 rfl (lv_at hl 0 rfl) ?_
          refine va_get (D := D) (ci := 6) (v := .ref a_main) (C := "CoinKeeper$Machine") (T := F_6) (N := 19) hx hb hts i_6 hown hK hP 2 rfl rfl 5 (by decide) (hts _ gw_209) (fun _ h9 => h9) rfl d_Ma_within_76 ?_
          refine lv_aload_n hx hb d_Ma_within_79 rfl (lv_at hl 0 rfl) ?_
          refine va_get (D := D) (ci := 6) (v := .int v10) (C := "CoinKeeper$Machine") (T := F_6) (N := 19) hx hb hts i_6 hown hK hP 2 rfl rfl 8 (by decide) (hts _ gw_212) (fun _ h9 => h9) rfl d_Ma_within_80 ?_
          obtain ⟨hg, hf⟩ := gdp hf
          refine va_iald hx hb hK hP 1 1 rfl rfl (inb_in hg) d_Ma_within_83 ?_
          refine lv_topi (fun v11 ev => ?_)
          have hf := bn ev hf
          clear ev
          obtain ⟨v12, hc, hf⟩ := bdp1 hf
          refine q_al (wr := [(a_main, .inl (cy 1, 204, .inl u1))]) (va_runV (C := "CoinKeeper$Machine") (As := [.int v11]) (rest := []) ⟨hx, hb, hml, hown, hts⟩ (c_Ma_numberOf l D cy ad fu o v_o_sha r_signatures v_o_ripemd v_a_scriptEnd (.ref a_main) v_a_other v_a_taken r_layout r_coin a_data v10 i_otherHeight i_ops i_ifs i_ifsNotTaken i_free i_tx i_in i_messageIsThere g_data v11 _ hc H.size) ⟨q_cB hts gw_1018 gw_6 gw_1015 hdc_45 ⟨by decide, by decide⟩, hts _ gw_1017, hts _ gs_34⟩ (q_preV (q_pre (hP.sub [2, 0] rfl) (hD.sub [2, 0] (by decide) rfl) hK hSt hS (va_free hD hS hA [2, 0] rfl) _) (va_recv hK (hP.sub [2, 0] rfl) (ci := 6) (q0 := 0) rfl rfl)) rfl rfl hl.1 rfl (lv_room (Nat.le_of_ble_eq_true rfl)) d_Ma_within_84 ⟨Nat.le_of_ble_eq_true rfl, Nat.le_of_ble_eq_true rfl⟩) hP hD hS hA [2, 0] [1] rfl rfl (by decide) (by decide) (fun H locs hP hD hS => ?_)
          clear hc
          have hP : va_P D classes [(a_main, .inl (cy 1, 204, .inl u1)), (o, .inr (6, [v_o_sha, r_signatures, v_o_ripemd, .ref a_data, v_a_scriptEnd, .ref a_main, v_a_other, v_a_taken, .int v10, .int i_otherHeight, .int i_ops, .int i_ifs, .int i_ifsNotTaken, .int i_free, r_layout, .int i_tx, .int i_in, r_coin, .int i_messageIsThere])), (a_data, .inl (cy 0, 14928, .inl g_data))] H := hP
          have hD : va_D A [(a_main, .inl (cy 1, 204, .inl u1)), (o, .inr (6, [v_o_sha, r_signatures, v_o_ripemd, .ref a_data, v_a_scriptEnd, .ref a_main, v_a_other, v_a_taken, .int v10, .int i_otherHeight, .int i_ops, .int i_ifs, .int i_ifsNotTaken, .int i_free, r_layout, .int i_tx, .int i_in, r_coin, .int i_messageIsThere])), (a_data, .inl (cy 0, 14928, .inl g_data))] := hD
          refine lv_lstore_n (lv' := [(1, .long v12), (0, .ref o)]) hx hb d_Ma_within_87 rfl hl (by decide) rfl (fun ls hl => ?_)
          refine lv_aload_n hx hb d_Ma_within_88 rfl (lv_at hl 1 rfl) ?_
          refine lv_lload_n hx hb d_Ma_within_89 rfl (lv_at hl 0 rfl) ?_
          refine lv_aload_n hx hb d_Ma_within_90 rfl (lv_at hl 1 rfl) ?_
          refine lv_aload_n hx hb d_Ma_within_91 rfl (lv_at hl 1 rfl) ?_
          refine va_get (D := D) (ci := 6) (v := .ref a_main) (C := "CoinKeeper$Machine") (T := F_6) (N := 19) hx hb hts i_6 hown hK hP 1 rfl rfl 5 (by decide) (hts _ gw_209) (fun _ h9 => h9) rfl d_Ma_within_92 ?_
          refine lv_aload_n hx hb d_Ma_within_95 rfl (lv_at hl 1 rfl) ?_
          refine va_get (D := D) (ci := 6) (v := .int v10) (C := "CoinKeeper$Machine") (T := F_6) (N := 19) hx hb hts i_6 hown hK hP 1 rfl rfl 8 (by decide) (hts _ gw_212) (fun _ h9 => h9) rfl d_Ma_within_96 ?_
          refine lv_iconst (v := 1) hx hb d_Ma_within_99 (by decide) ?_
          refine lv_iadd hx hb d_Ma_within_100 ?_
          refine lv_topi (fun v13 ev => ?_)
          have hf := bn ev hf
          clear ev
          obtain ⟨hg, hf⟩ := gdp hf
          refine va_iald hx hb hK hP 0 1 rfl rfl (inb_in hg) d_Ma_within_101 ?_
          refine lv_topi (fun v14 ev => ?_)
          have hf := bn ev hf
          clear ev
          obtain ⟨v15, hc, hf⟩ := bdp1 hf
          refine q_al (wr := [(a_main, .inl (cy 1, 204, .inl u1))]) (va_runV (C := "CoinKeeper$Machine") (As := [.int v14]) (rest := [.long v12, .ref o]) ⟨hx, hb, hml, hown, hts⟩ (c_Ma_numberOf l D cy ad fu o v_o_sha r_signatures v_o_ripemd v_a_scriptEnd (.ref a_main) v_a_other v_a_taken r_layout r_coin a_data v10 i_otherHeight i_ops i_ifs i_ifsNotTaken i_free i_tx i_in i_messageIsThere g_data v14 _ hc H.size) ⟨q_cB hts gw_1018 gw_6 gw_1015 hdc_45 ⟨by decide, by decide⟩, hts _ gw_1017, hts _ gs_34⟩ (q_preV (q_pre (hP.sub [1, 2] rfl) (hD.sub [1, 2] (by decide) rfl) hK hSt hS (va_free hD hS hA [1, 2] rfl) _) (va_recv hK (hP.sub [1, 2] rfl) (ci := 6) (q0 := 0) rfl rfl)) rfl rfl hl.1 rfl (lv_room (Nat.le_of_ble_eq_true rfl)) d_Ma_within_102 ⟨Nat.le_of_ble_eq_true rfl, Nat.le_of_ble_eq_true rfl⟩) hP hD hS hA [1, 2] [0] rfl rfl (by decide) (by decide) (fun H locs hP hD hS => ?_)
          clear hc
          have hP : va_P D classes [(a_main, .inl (cy 1, 204, .inl u1)), (o, .inr (6, [v_o_sha, r_signatures, v_o_ripemd, .ref a_data, v_a_scriptEnd, .ref a_main, v_a_other, v_a_taken, .int v10, .int i_otherHeight, .int i_ops, .int i_ifs, .int i_ifsNotTaken, .int i_free, r_layout, .int i_tx, .int i_in, r_coin, .int i_messageIsThere])), (a_data, .inl (cy 0, 14928, .inl g_data))] H := hP
          have hD : va_D A [(a_main, .inl (cy 1, 204, .inl u1)), (o, .inr (6, [v_o_sha, r_signatures, v_o_ripemd, .ref a_data, v_a_scriptEnd, .ref a_main, v_a_other, v_a_taken, .int v10, .int i_otherHeight, .int i_ops, .int i_ifs, .int i_ifsNotTaken, .int i_free, r_layout, .int i_tx, .int i_in, r_coin, .int i_messageIsThere])), (a_data, .inl (cy 0, 14928, .inl g_data))] := hD
          refine W.lcmp hx hb d_Ma_within_105 ?_
          refine lv_if_lt (tgt := 135) hx hb d_Ma_within_106 (by decide) (fun cx => ?_) (fun cx => ?_)
          · have hf := ifp cx hf
            exact wb_Ma_within_135 (fu := fu) F _ _ _ hf _ _ _ (hP.sub (ws' := [(o, .inr (6, [v_o_sha, r_signatures, v_o_ripemd, .ref a_data, v_a_scriptEnd, .ref a_main, v_a_other, v_a_taken, .int v10, .int i_otherHeight, .int i_ops, .int i_ifs, .int i_ifsNotTaken, .int i_free, r_layout, .int i_tx, .int i_in, r_coin, .int i_messageIsThere])), (a_data, .inl (cy 0, 14928, .inl g_data)), (a_main, .inl (cy 1, 204, .inl u1))]) [1, 2, 0] rfl) (hD.sub (ws' := [(o, .inr (6, [v_o_sha, r_signatures, v_o_ripemd, .ref a_data, v_a_scriptEnd, .ref a_main, v_a_other, v_a_taken, .int v10, .int i_otherHeight, .int i_ops, .int i_ifs, .int i_ifsNotTaken, .int i_free, r_layout, .int i_tx, .int i_in, r_coin, .int i_messageIsThere])), (a_data, .inl (cy 0, 14928, .inl g_data)), (a_main, .inl (cy 1, 204, .inl u1))]) [1, 2, 0] (by decide) rfl) hS (lv_sub hl [] rfl)
          · have hf := ifn cx hf
            refine lv_lload_n hx hb d_Ma_within_109 rfl (lv_at hl 0 rfl) ?_
            refine lv_aload_n hx hb d_Ma_within_110 rfl (lv_at hl 1 rfl) ?_
            refine lv_aload_n hx hb d_Ma_within_111 rfl (lv_at hl 1 rfl) ?_
            refine va_get (D := D) (ci := 6) (v := .ref a_main) (C := "CoinKeeper$Machine") (T := F_6) (N := 19) hx hb hts i_6 hown hK hP 1 rfl rfl 5 (by decide) (hts _ gw_209) (fun _ h9 => h9) rfl d_Ma_within_112 ?_
            refine lv_aload_n hx hb d_Ma_within_115 rfl (lv_at hl 1 rfl) ?_
            refine va_get (D := D) (ci := 6) (v := .int v10) (C := "CoinKeeper$Machine") (T := F_6) (N := 19) hx hb hts i_6 hown hK hP 1 rfl rfl 8 (by decide) (hts _ gw_212) (fun _ h9 => h9) rfl d_Ma_within_116 ?_
            refine lv_iconst (v := 2) hx hb d_Ma_within_119 (by decide) ?_
            refine lv_iadd hx hb d_Ma_within_120 ?_
            refine lv_topi (fun v16 ev => ?_)
            have hf := bn ev hf
            clear ev
            obtain ⟨hg, hf⟩ := gdp hf
            refine va_iald hx hb hK hP 0 1 rfl rfl (inb_in hg) d_Ma_within_121 ?_
            refine lv_topi (fun v17 ev => ?_)
            have hf := bn ev hf
            clear ev
            obtain ⟨v18, hc, hf⟩ := bdp1 hf
            refine q_al (wr := [(a_main, .inl (cy 1, 204, .inl u1))]) (va_runV (C := "CoinKeeper$Machine") (As := [.int v17]) (rest := [.long v12, .ref o]) ⟨hx, hb, hml, hown, hts⟩ (c_Ma_numberOf l D cy ad fu o v_o_sha r_signatures v_o_ripemd v_a_scriptEnd (.ref a_main) v_a_other v_a_taken r_layout r_coin a_data v10 i_otherHeight i_ops i_ifs i_ifsNotTaken i_free i_tx i_in i_messageIsThere g_data v17 _ hc H.size) ⟨q_cB hts gw_1018 gw_6 gw_1015 hdc_45 ⟨by decide, by decide⟩, hts _ gw_1017, hts _ gs_34⟩ (q_preV (q_pre (hP.sub [1, 2] rfl) (hD.sub [1, 2] (by decide) rfl) hK hSt hS (va_free hD hS hA [1, 2] rfl) _) (va_recv hK (hP.sub [1, 2] rfl) (ci := 6) (q0 := 0) rfl rfl)) rfl rfl hl.1 rfl (lv_room (Nat.le_of_ble_eq_true rfl)) d_Ma_within_122 ⟨Nat.le_of_ble_eq_true rfl, Nat.le_of_ble_eq_true rfl⟩) hP hD hS hA [1, 2] [0] rfl rfl (by decide) (by decide) (fun H locs hP hD hS => ?_)
            clear hc
            have hP : va_P D classes [(a_main, .inl (cy 1, 204, .inl u1)), (o, .inr (6, [v_o_sha, r_signatures, v_o_ripemd, .ref a_data, v_a_scriptEnd, .ref a_main, v_a_other, v_a_taken, .int v10, .int i_otherHeight, .int i_ops, .int i_ifs, .int i_ifsNotTaken, .int i_free, r_layout, .int i_tx, .int i_in, r_coin, .int i_messageIsThere])), (a_data, .inl (cy 0, 14928, .inl g_data))] H := hP
            have hD : va_D A [(a_main, .inl (cy 1, 204, .inl u1)), (o, .inr (6, [v_o_sha, r_signatures, v_o_ripemd, .ref a_data, v_a_scriptEnd, .ref a_main, v_a_other, v_a_taken, .int v10, .int i_otherHeight, .int i_ops, .int i_ifs, .int i_ifsNotTaken, .int i_free, r_layout, .int i_tx, .int i_in, r_coin, .int i_messageIsThere])), (a_data, .inl (cy 0, 14928, .inl g_data))] := hD
            refine W.lcmp hx hb d_Ma_within_125 ?_
            refine lv_if_ge (tgt := 135) hx hb d_Ma_within_126 (by decide) (fun cx => ?_) (fun cx => ?_)
            · have hf := ifp cx hf
              exact wb_Ma_within_135 (fu := fu) F _ _ _ hf _ _ _ (hP.sub (ws' := [(o, .inr (6, [v_o_sha, r_signatures, v_o_ripemd, .ref a_data, v_a_scriptEnd, .ref a_main, v_a_other, v_a_taken, .int v10, .int i_otherHeight, .int i_ops, .int i_ifs, .int i_ifsNotTaken, .int i_free, r_layout, .int i_tx, .int i_in, r_coin, .int i_messageIsThere])), (a_data, .inl (cy 0, 14928, .inl g_data)), (a_main, .inl (cy 1, 204, .inl u1))]) [1, 2, 0] rfl) (hD.sub (ws' := [(o, .inr (6, [v_o_sha, r_signatures, v_o_ripemd, .ref a_data, v_a_scriptEnd, .ref a_main, v_a_other, v_a_taken, .int v10, .int i_otherHeight, .int i_ops, .int i_ifs, .int i_ifsNotTaken, .int i_free, r_layout, .int i_tx, .int i_in, r_coin, .int i_messageIsThere])), (a_data, .inl (cy 0, 14928, .inl g_data)), (a_main, .inl (cy 1, 204, .inl u1))]) [1, 2, 0] (by decide) rfl) hS (lv_sub hl [] rfl)
            · have hf := ifn cx hf
              refine lv_sipush (v := 8449) hx hb d_Ma_within_129 (by decide) ?_
              refine lv_goto (tgt := 136) hx hb d_Ma_within_132 (by decide) ?_
              exact wb_Ma_within_136 (fu := fu) F _ _ _ _ hf _ _ _ (hP.sub (ws' := [(o, .inr (6, [v_o_sha, r_signatures, v_o_ripemd, .ref a_data, v_a_scriptEnd, .ref a_main, v_a_other, v_a_taken, .int v10, .int i_otherHeight, .int i_ops, .int i_ifs, .int i_ifsNotTaken, .int i_free, r_layout, .int i_tx, .int i_in, r_coin, .int i_messageIsThere])), (a_data, .inl (cy 0, 14928, .inl g_data)), (a_main, .inl (cy 1, 204, .inl u1))]) [1, 2, 0] rfl) (hD.sub (ws' := [(o, .inr (6, [v_o_sha, r_signatures, v_o_ripemd, .ref a_data, v_a_scriptEnd, .ref a_main, v_a_other, v_a_taken, .int v10, .int i_otherHeight, .int i_ops, .int i_ifs, .int i_ifsNotTaken, .int i_free, r_layout, .int i_tx, .int i_in, r_coin, .int i_messageIsThere])), (a_data, .inl (cy 0, 14928, .inl g_data)), (a_main, .inl (cy 1, 204, .inl u1))]) [1, 2, 0] (by decide) rfl) hS (lv_sub hl [] rfl)
        · have hf := ifp cx hf
          refine lv_iconst (v := 0) hx hb d_Ma_within_62 (by decide) ?_
          obtain rfl := Option.some.inj hf
          exact q_rz hx hb hr hlocks hK (hP.sub [2, 0, 1] rfl) (hD.sub [2, 0, 1] (by decide) rfl) hS (isb_n (v := 0) (by decide)) d_Ma_within_63
theorem c_Ma_within (l : Launch) (D : va_G) (cy : Nat → ClassId) (ad : Nat → Nat) (fu : Nat) (o : Nat) (v_o_sha : Value) (r_signatures : Value) (v_o_ripemd : Value) (v_a_scriptEnd : Value) (v_a_other : Value) (v_a_taken : Value) (r_layout : Value) (r_coin : Value) (a_data : Nat) (a_main : Nat) (i_otherHeight : Int32) (i_ops : Int32) (i_ifs : Int32) (i_ifsNotTaken : Int32) (i_free : Int32) (i_tx : Int32) (i_in : Int32) (i_messageIsThere : Int32) (g_data : Nat → Int32) (u0 : Int32) (u1 : Nat → Int32) (res : Int32 × Int32 × (Nat → Int32)) (hf : x_Ma_within fu i_otherHeight i_ops i_ifs i_ifsNotTaken i_free i_tx i_in i_messageIsThere g_data u0 u1 = some res) (sz : Nat) : Met l ({ cls := "CoinKeeper$Machine", name := "within", desc := "()Z" } : Jvm.MethodName) (.code ({ cls := "CoinKeeper$Machine", name := "within", desc := "()Z" } : Jvm.MethodName) b_Ma_within 3 (some .boolean) :: gw) rm_Ma_within (va_Pc [.ref o] (Pr D cy ad [(o, .inr (6, [v_o_sha, r_signatures, v_o_ripemd, .ref a_data, v_a_scriptEnd, .ref a_main, v_a_other, v_a_taken, .int u0, .int i_otherHeight, .int i_ops, .int i_ifs, .int i_ifsNotTaken, .int i_free, r_layout, .int i_tx, .int i_in, r_coin, .int i_messageIsThere])), (a_data, .inl (cy 0, 14928, .inl g_data)), (a_main, .inl (cy 1, 204, .inl u1))] sz)) (q_Ma_within D cy (va_A [(o, .inr (6, [v_o_sha, r_signatures, v_o_ripemd, .ref a_data, v_a_scriptEnd, .ref a_main, v_a_other, v_a_taken, .int u0, .int i_otherHeight, .int i_ops, .int i_ifs, .int i_ifsNotTaken, .int i_free, r_layout, .int i_tx, .int i_in, r_coin, .int i_messageIsThere])), (a_data, .inl (cy 0, 14928, .inl g_data)), (a_main, .inl (cy 1, 204, .inl u1))] sz) o v_o_sha r_signatures v_o_ripemd v_a_scriptEnd v_a_other v_a_taken r_layout r_coin a_data a_main i_otherHeight i_ops i_ifs i_ifsNotTaken i_free i_tx i_in i_messageIsThere g_data res) 0 0 (va_A [(o, .inr (6, [v_o_sha, r_signatures, v_o_ripemd, .ref a_data, v_a_scriptEnd, .ref a_main, v_a_other, v_a_taken, .int u0, .int i_otherHeight, .int i_ops, .int i_ifs, .int i_ifsNotTaken, .int i_free, r_layout, .int i_tx, .int i_in, r_coin, .int i_messageIsThere])), (a_data, .inl (cy 0, 14928, .inl g_data)), (a_main, .inl (cy 1, 204, .inl u1))] sz) :=
  q_met (Qc := fun A => q_Ma_within D cy A o v_o_sha r_signatures v_o_ripemd v_a_scriptEnd v_a_other v_a_taken r_layout r_coin a_data a_main i_otherHeight i_ops i_ifs i_ifsNotTaken i_free i_tx i_in i_messageIsThere g_data res) (by decide) rfl rfl (Nat.le_of_ble_eq_true rfl) (fun p e s m below meth c ls F hP hD hS hl => we_Ma_within (fu := fu) F u0 u1 res hf _ _ _ hP hD hS hl) sz
abbrev b_Ma_pushNumber : ByteArray := prog_7_method_8_code
theorem d_Ma_pushNumber_0 : decode b_Ma_pushNumber 0 = .ok (.lload_n 1, 1) := by decide +kernel
theorem d_Ma_pushNumber_1 : decode b_Ma_pushNumber 1 = .ok (.invokestatic 111, 3) := by decide +kernel
theorem d_Ma_pushNumber_4 : decode b_Ma_pushNumber 4 = .ok (.lstore_n 3, 1) := by decide +kernel
theorem d_Ma_pushNumber_5 : decode b_Ma_pushNumber 5 = .ok (.iconst 0, 1) := by decide +kernel
theorem d_Ma_pushNumber_6 : decode b_Ma_pushNumber 6 = .ok (.istore 5, 2) := by decide +kernel
theorem d_Ma_pushNumber_8 : decode b_Ma_pushNumber 8 = .ok (.lload_n 3, 1) := by decide +kernel
theorem d_Ma_pushNumber_9 : decode b_Ma_pushNumber 9 = .ok (.lconst 0, 1) := by decide +kernel
theorem d_Ma_pushNumber_10 : decode b_Ma_pushNumber 10 = .ok (.lcmp, 1) := by decide +kernel
theorem d_Ma_pushNumber_11 : decode b_Ma_pushNumber 11 = .ok (.ifCond .eq 29, 3) := by decide +kernel
theorem d_Ma_pushNumber_14 : decode b_Ma_pushNumber 14 = .ok (.aload_n 0, 1) := by decide +kernel
theorem d_Ma_pushNumber_15 : decode b_Ma_pushNumber 15 = .ok (.getfield 18, 3) := by decide +kernel
theorem d_Ma_pushNumber_18 : decode b_Ma_pushNumber 18 = .ok (.aload_n 0, 1) := by decide +kernel
theorem d_Ma_pushNumber_19 : decode b_Ma_pushNumber 19 = .ok (.getfield 76, 3) := by decide +kernel
theorem d_Ma_pushNumber_22 : decode b_Ma_pushNumber 22 = .ok (.iload 5, 2) := by decide +kernel
theorem d_Ma_pushNumber_24 : decode b_Ma_pushNumber 24 = .ok (.iadd, 1) := by decide +kernel
theorem d_Ma_pushNumber_25 : decode b_Ma_pushNumber 25 = .ok (.lload_n 3, 1) := by decide +kernel
theorem d_Ma_pushNumber_26 : decode b_Ma_pushNumber 26 = .ok (.l2i, 1) := by decide +kernel
theorem d_Ma_pushNumber_27 : decode b_Ma_pushNumber 27 = .ok (.i2b, 1) := by decide +kernel
theorem d_Ma_pushNumber_28 : decode b_Ma_pushNumber 28 = .ok (.bastore, 1) := by decide +kernel
theorem d_Ma_pushNumber_29 : decode b_Ma_pushNumber 29 = .ok (.iinc 5 1, 3) := by decide +kernel
theorem d_Ma_pushNumber_32 : decode b_Ma_pushNumber 32 = .ok (.lload_n 3, 1) := by decide +kernel
theorem d_Ma_pushNumber_33 : decode b_Ma_pushNumber 33 = .ok (.bipush 8, 2) := by decide +kernel
theorem d_Ma_pushNumber_35 : decode b_Ma_pushNumber 35 = .ok (.lushr, 1) := by decide +kernel
theorem d_Ma_pushNumber_36 : decode b_Ma_pushNumber 36 = .ok (.lstore_n 3, 1) := by decide +kernel
theorem d_Ma_pushNumber_37 : decode b_Ma_pushNumber 37 = .ok (.goto (-29), 3) := by decide +kernel
theorem d_Ma_pushNumber_40 : decode b_Ma_pushNumber 40 = .ok (.iload 5, 2) := by decide +kernel
theorem d_Ma_pushNumber_42 : decode b_Ma_pushNumber 42 = .ok (.ifCond .le 36, 3) := by decide +kernel
theorem d_Ma_pushNumber_45 : decode b_Ma_pushNumber 45 = .ok (.aload_n 0, 1) := by decide +kernel
theorem d_Ma_pushNumber_46 : decode b_Ma_pushNumber 46 = .ok (.getfield 18, 3) := by decide +kernel
theorem d_Ma_pushNumber_49 : decode b_Ma_pushNumber 49 = .ok (.aload_n 0, 1) := by decide +kernel
theorem d_Ma_pushNumber_50 : decode b_Ma_pushNumber 50 = .ok (.getfield 76, 3) := by decide +kernel
theorem d_Ma_pushNumber_53 : decode b_Ma_pushNumber 53 = .ok (.iload 5, 2) := by decide +kernel
theorem d_Ma_pushNumber_55 : decode b_Ma_pushNumber 55 = .ok (.iadd, 1) := by decide +kernel
theorem d_Ma_pushNumber_56 : decode b_Ma_pushNumber 56 = .ok (.iconst 1, 1) := by decide +kernel
theorem d_Ma_pushNumber_57 : decode b_Ma_pushNumber 57 = .ok (.isub, 1) := by decide +kernel
theorem d_Ma_pushNumber_58 : decode b_Ma_pushNumber 58 = .ok (.baload, 1) := by decide +kernel
theorem d_Ma_pushNumber_59 : decode b_Ma_pushNumber 59 = .ok (.ifCond .ge 19, 3) := by decide +kernel
theorem d_Ma_pushNumber_62 : decode b_Ma_pushNumber 62 = .ok (.aload_n 0, 1) := by decide +kernel
theorem d_Ma_pushNumber_63 : decode b_Ma_pushNumber 63 = .ok (.getfield 18, 3) := by decide +kernel
theorem d_Ma_pushNumber_66 : decode b_Ma_pushNumber 66 = .ok (.aload_n 0, 1) := by decide +kernel
theorem d_Ma_pushNumber_67 : decode b_Ma_pushNumber 67 = .ok (.getfield 76, 3) := by decide +kernel
theorem d_Ma_pushNumber_70 : decode b_Ma_pushNumber 70 = .ok (.iload 5, 2) := by decide +kernel
theorem d_Ma_pushNumber_72 : decode b_Ma_pushNumber 72 = .ok (.iadd, 1) := by decide +kernel
theorem d_Ma_pushNumber_73 : decode b_Ma_pushNumber 73 = .ok (.iconst 0, 1) := by decide +kernel
theorem d_Ma_pushNumber_74 : decode b_Ma_pushNumber 74 = .ok (.bastore, 1) := by decide +kernel
theorem d_Ma_pushNumber_75 : decode b_Ma_pushNumber 75 = .ok (.iinc 5 1, 3) := by decide +kernel
theorem d_Ma_pushNumber_78 : decode b_Ma_pushNumber 78 = .ok (.lload_n 1, 1) := by decide +kernel
theorem d_Ma_pushNumber_79 : decode b_Ma_pushNumber 79 = .ok (.lconst 0, 1) := by decide +kernel
theorem d_Ma_pushNumber_80 : decode b_Ma_pushNumber 80 = .ok (.lcmp, 1) := by decide +kernel
theorem d_Ma_pushNumber_81 : decode b_Ma_pushNumber 81 = .ok (.ifCond .ge 23, 3) := by decide +kernel
theorem d_Ma_pushNumber_84 : decode b_Ma_pushNumber 84 = .ok (.aload_n 0, 1) := by decide +kernel
theorem d_Ma_pushNumber_85 : decode b_Ma_pushNumber 85 = .ok (.getfield 18, 3) := by decide +kernel
theorem d_Ma_pushNumber_88 : decode b_Ma_pushNumber 88 = .ok (.aload_n 0, 1) := by decide +kernel
theorem d_Ma_pushNumber_89 : decode b_Ma_pushNumber 89 = .ok (.getfield 76, 3) := by decide +kernel
theorem d_Ma_pushNumber_92 : decode b_Ma_pushNumber 92 = .ok (.iload 5, 2) := by decide +kernel
theorem d_Ma_pushNumber_94 : decode b_Ma_pushNumber 94 = .ok (.iadd, 1) := by decide +kernel
theorem d_Ma_pushNumber_95 : decode b_Ma_pushNumber 95 = .ok (.iconst 1, 1) := by decide +kernel
theorem d_Ma_pushNumber_96 : decode b_Ma_pushNumber 96 = .ok (.isub, 1) := by decide +kernel
theorem d_Ma_pushNumber_97 : decode b_Ma_pushNumber 97 = .ok (.dup2, 1) := by decide +kernel
theorem d_Ma_pushNumber_98 : decode b_Ma_pushNumber 98 = .ok (.baload, 1) := by decide +kernel
theorem d_Ma_pushNumber_99 : decode b_Ma_pushNumber 99 = .ok (.bipush (-128), 2) := by decide +kernel
theorem d_Ma_pushNumber_101 : decode b_Ma_pushNumber 101 = .ok (.ior, 1) := by decide +kernel
theorem d_Ma_pushNumber_102 : decode b_Ma_pushNumber 102 = .ok (.i2b, 1) := by decide +kernel
theorem d_Ma_pushNumber_103 : decode b_Ma_pushNumber 103 = .ok (.bastore, 1) := by decide +kernel
theorem d_Ma_pushNumber_104 : decode b_Ma_pushNumber 104 = .ok (.aload_n 0, 1) := by decide +kernel
theorem d_Ma_pushNumber_105 : decode b_Ma_pushNumber 105 = .ok (.aload_n 0, 1) := by decide +kernel
theorem d_Ma_pushNumber_106 : decode b_Ma_pushNumber 106 = .ok (.getfield 76, 3) := by decide +kernel
theorem d_Ma_pushNumber_109 : decode b_Ma_pushNumber 109 = .ok (.bipush 8, 2) := by decide +kernel
theorem d_Ma_pushNumber_111 : decode b_Ma_pushNumber 111 = .ok (.ishl, 1) := by decide +kernel
theorem d_Ma_pushNumber_112 : decode b_Ma_pushNumber 112 = .ok (.iload 5, 2) := by decide +kernel
theorem d_Ma_pushNumber_114 : decode b_Ma_pushNumber 114 = .ok (.ior, 1) := by decide +kernel
theorem d_Ma_pushNumber_115 : decode b_Ma_pushNumber 115 = .ok (.invokevirtual 95, 3) := by decide +kernel
theorem d_Ma_pushNumber_118 : decode b_Ma_pushNumber 118 = .ok (.aload_n 0, 1) := by decide +kernel
theorem d_Ma_pushNumber_119 : decode b_Ma_pushNumber 119 = .ok (.dup, 1) := by decide +kernel
theorem d_Ma_pushNumber_120 : decode b_Ma_pushNumber 120 = .ok (.getfield 76, 3) := by decide +kernel
theorem d_Ma_pushNumber_123 : decode b_Ma_pushNumber 123 = .ok (.iload 5, 2) := by decide +kernel
theorem d_Ma_pushNumber_125 : decode b_Ma_pushNumber 125 = .ok (.iadd, 1) := by decide +kernel
theorem d_Ma_pushNumber_126 : decode b_Ma_pushNumber 126 = .ok (.putfield 76, 3) := by decide +kernel
theorem d_Ma_pushNumber_129 : decode b_Ma_pushNumber 129 = .ok (.return_, 1) := by decide +kernel
abbrev rm_Ma_pushNumber : Room := { frames := 1, cells := 0, slots := 0, locals := 26 }
abbrev q_Ma_pushNumber (D : va_G) (cy : Nat → ClassId) (A : Nat → Prop) (o : Nat) (v_o_sha : Value) (r_signatures : Value) (v_o_ripemd : Value) (v_a_scriptEnd : Value) (v_a_other : Value) (v_a_taken : Value) (r_layout : Value) (r_coin : Value) (a_data : Nat) (a_main : Nat) (i_otherHeight : Int32) (i_ops : Int32) (i_ifs : Int32) (i_ifsNotTaken : Int32) (i_tx : Int32) (i_in : Int32) (i_messageIsThere : Int32) (res : Int32 × Int32 × (Nat → Int32) × (Nat → Int32)) : Array Value → State → Outcome → State → Prop := va_Qv (fun (_ : Unit) => True) (fun _ t => Po D cy A [(o, .inr (6, [v_o_sha, r_signatures, v_o_ripemd, .ref a_data, v_a_scriptEnd, .ref a_main, v_a_other, v_a_taken, .int res.1, .int i_otherHeight, .int i_ops, .int i_ifs, .int i_ifsNotTaken, .int res.2.1, r_layout, .int i_tx, .int i_in, r_coin, .int i_messageIsThere])), (a_data, .inl (cy 0, 14928, .inl res.2.2.1)), (a_main, .inl (cy 1, 204, .inl res.2.2.2))] t) A
def I_Ma_pushNumber_104 (p : Program) (l : Launch) (e : Env) (s : State) (m : MethodId) (args : Array Value) (below : List Frame) (meth : Method) (c : Code) (D : va_G) (cy : Nat → ClassId) (A : Nat → Prop) (ad : Nat → Nat) (o : Nat) (v_o_sha : Value) (r_signatures : Value) (v_o_ripemd : Value) (v_a_scriptEnd : Value) (v_a_other : Value) (v_a_taken : Value) (r_layout : Value) (r_coin : Value) (a_data : Nat) (a_main : Nat) (i_otherHeight : Int32) (i_ops : Int32) (i_ifs : Int32) (i_ifsNotTaken : Int32) (i_tx : Int32) (i_in : Int32) (i_messageIsThere : Int32) (k : Int32 → Int32 → Int32 → (Nat → Int32) → (Nat → Int32) → Option (Int32 × Int32 × (Nat → Int32) × (Nat → Int32))) : Prop :=
  ∀ (x5 : Int32) (u0 : Int32) (u1 : Int32) (u2 : Nat → Int32) (u3 : Nat → Int32) (res : Int32 × Int32 × (Nat → Int32) × (Nat → Int32)), k x5 u0 u1 u2 u3 = some res → ∀ (H : Heap) (locs : List Loc) (ls : Array Slot), va_P D classes [(o, .inr (6, [v_o_sha, r_signatures, v_o_ripemd, .ref a_data, v_a_scriptEnd, .ref a_main, v_a_other, v_a_taken, .int u0, .int i_otherHeight, .int i_ops, .int i_ifs, .int i_ifsNotTaken, .int u1, r_layout, .int i_tx, .int i_in, r_coin, .int i_messageIsThere])), (a_data, .inl (cy 0, 14928, .inl u2)), (a_main, .inl (cy 1, 204, .inl u3))] H → va_D A [(o, .inr (6, [v_o_sha, r_signatures, v_o_ripemd, .ref a_data, v_a_scriptEnd, .ref a_main, v_a_other, v_a_taken, .int u0, .int i_otherHeight, .int i_ops, .int i_ifs, .int i_ifsNotTaken, .int u1, r_layout, .int i_tx, .int i_in, r_coin, .int i_messageIsThere])), (a_data, .inl (cy 0, 14928, .inl u2)), (a_main, .inl (cy 1, 204, .inl u3))] → va_S A s.heap H locs → lv_has ls 6 [(0, .ref o), (5, .int x5)] → W p l e rm_Ma_pushNumber s m args below meth c H locs 0 0 (MQ below (q_Ma_pushNumber D cy A o v_o_sha r_signatures v_o_ripemd v_a_scriptEnd v_a_other v_a_taken r_layout r_coin a_data a_main i_otherHeight i_ops i_ifs i_ifsNotTaken i_tx i_in i_messageIsThere res) args s 0 0 A) (F0 m 104 ls [])
def I_Ma_pushNumber_78 (p : Program) (l : Launch) (e : Env) (s : State) (m : MethodId) (args : Array Value) (below : List Frame) (meth : Method) (c : Code) (D : va_G) (cy : Nat → ClassId) (A : Nat → Prop) (ad : Nat → Nat) (o : Nat) (v_o_sha : Value) (r_signatures : Value) (v_o_ripemd : Value) (v_a_scriptEnd : Value) (v_a_other : Value) (v_a_taken : Value) (r_layout : Value) (r_coin : Value) (a_data : Nat) (a_main : Nat) (i_otherHeight : Int32) (i_ops : Int32) (i_ifs : Int32) (i_ifsNotTaken : Int32) (i_tx : Int32) (i_in : Int32) (i_messageIsThere : Int32) (k : Int64 → Int32 → Int32 → Int32 → (Nat → Int32) → (Nat → Int32) → Option (Int32 × Int32 × (Nat → Int32) × (Nat → Int32))) : Prop :=
  ∀ (x1 : Int64) (x5 : Int32) (u0 : Int32) (u1 : Int32) (u2 : Nat → Int32) (u3 : Nat → Int32) (res : Int32 × Int32 × (Nat → Int32) × (Nat → Int32)), k x1 x5 u0 u1 u2 u3 = some res → ∀ (H : Heap) (locs : List Loc) (ls : Array Slot), va_P D classes [(o, .inr (6, [v_o_sha, r_signatures, v_o_ripemd, .ref a_data, v_a_scriptEnd, .ref a_main, v_a_other, v_a_taken, .int u0, .int i_otherHeight, .int i_ops, .int i_ifs, .int i_ifsNotTaken, .int u1, r_layout, .int i_tx, .int i_in, r_coin, .int i_messageIsThere])), (a_data, .inl (cy 0, 14928, .inl u2)), (a_main, .inl (cy 1, 204, .inl u3))] H → va_D A [(o, .inr (6, [v_o_sha, r_signatures, v_o_ripemd, .ref a_data, v_a_scriptEnd, .ref a_main, v_a_other, v_a_taken, .int u0, .int i_otherHeight, .int i_ops, .int i_ifs, .int i_ifsNotTaken, .int u1, r_layout, .int i_tx, .int i_in, r_coin, .int i_messageIsThere])), (a_data, .inl (cy 0, 14928, .inl u2)), (a_main, .inl (cy 1, 204, .inl u3))] → va_S A s.heap H locs → lv_has ls 6 [(0, .ref o), (1, .long x1), (5, .int x5)] → W p l e rm_Ma_pushNumber s m args below meth c H locs 0 0 (MQ below (q_Ma_pushNumber D cy A o v_o_sha r_signatures v_o_ripemd v_a_scriptEnd v_a_other v_a_taken r_layout r_coin a_data a_main i_otherHeight i_ops i_ifs i_ifsNotTaken i_tx i_in i_messageIsThere res) args s 0 0 A) (F0 m 78 ls [])
def I_Ma_pushNumber_8 (p : Program) (l : Launch) (e : Env) (s : State) (m : MethodId) (args : Array Value) (below : List Frame) (meth : Method) (c : Code) (D : va_G) (cy : Nat → ClassId) (A : Nat → Prop) (ad : Nat → Nat) (o : Nat) (v_o_sha : Value) (r_signatures : Value) (v_o_ripemd : Value) (v_a_scriptEnd : Value) (v_a_other : Value) (v_a_taken : Value) (r_layout : Value) (r_coin : Value) (a_data : Nat) (a_main : Nat) (i_otherHeight : Int32) (i_ops : Int32) (i_ifs : Int32) (i_ifsNotTaken : Int32) (i_tx : Int32) (i_in : Int32) (i_messageIsThere : Int32) (k : Int64 → Int64 → Int32 → Int32 → Int32 → (Nat → Int32) → (Nat → Int32) → Option (Int32 × Int32 × (Nat → Int32) × (Nat → Int32))) : Prop :=
  ∀ (x1 : Int64) (x3 : Int64) (x5 : Int32) (u0 : Int32) (u1 : Int32) (u2 : Nat → Int32) (u3 : Nat → Int32) (res : Int32 × Int32 × (Nat → Int32) × (Nat → Int32)), k x1 x3 x5 u0 u1 u2 u3 = some res → ∀ (H : Heap) (locs : List Loc) (ls : Array Slot), va_P D classes [(o, .inr (6, [v_o_sha, r_signatures, v_o_ripemd, .ref a_data, v_a_scriptEnd, .ref a_main, v_a_other, v_a_taken, .int u0, .int i_otherHeight, .int i_ops, .int i_ifs, .int i_ifsNotTaken, .int u1, r_layout, .int i_tx, .int i_in, r_coin, .int i_messageIsThere])), (a_data, .inl (cy 0, 14928, .inl u2)), (a_main, .inl (cy 1, 204, .inl u3))] H → va_D A [(o, .inr (6, [v_o_sha, r_signatures, v_o_ripemd, .ref a_data, v_a_scriptEnd, .ref a_main, v_a_other, v_a_taken, .int u0, .int i_otherHeight, .int i_ops, .int i_ifs, .int i_ifsNotTaken, .int u1, r_layout, .int i_tx, .int i_in, r_coin, .int i_messageIsThere])), (a_data, .inl (cy 0, 14928, .inl u2)), (a_main, .inl (cy 1, 204, .inl u3))] → va_S A s.heap H locs → lv_has ls 6 [(0, .ref o), (1, .long x1), (3, .long x3), (5, .int x5)] → W p l e rm_Ma_pushNumber s m args below meth c H locs 0 0 (MQ below (q_Ma_pushNumber D cy A o v_o_sha r_signatures v_o_ripemd v_a_scriptEnd v_a_other v_a_taken r_layout r_coin a_data a_main i_otherHeight i_ops i_ifs i_ifsNotTaken i_tx i_in i_messageIsThere res) args s 0 0 A) (F0 m 8 ls [])
def I_Ma_pushNumber_e (p : Program) (l : Launch) (e : Env) (s : State) (m : MethodId) (args : Array Value) (below : List Frame) (meth : Method) (c : Code) (D : va_G) (cy : Nat → ClassId) (A : Nat → Prop) (ad : Nat → Nat) (o : Nat) (v_o_sha : Value) (r_signatures : Value) (v_o_ripemd : Value) (v_a_scriptEnd : Value) (v_a_other : Value) (v_a_taken : Value) (r_layout : Value) (r_coin : Value) (a_data : Nat) (a_main : Nat) (i_otherHeight : Int32) (i_ops : Int32) (i_ifs : Int32) (i_ifsNotTaken : Int32) (i_tx : Int32) (i_in : Int32) (i_messageIsThere : Int32) (k : Int64 → Int32 → Int32 → (Nat → Int32) → (Nat → Int32) → Option (Int32 × Int32 × (Nat → Int32) × (Nat → Int32))) : Prop :=
  ∀ (a1 : Int64) (u0 : Int32) (u1 : Int32) (u2 : Nat → Int32) (u3 : Nat → Int32) (res : Int32 × Int32 × (Nat → Int32) × (Nat → Int32)), k a1 u0 u1 u2 u3 = some res → ∀ (H : Heap) (locs : List Loc) (ls : Array Slot), va_P D classes [(o, .inr (6, [v_o_sha, r_signatures, v_o_ripemd, .ref a_data, v_a_scriptEnd, .ref a_main, v_a_other, v_a_taken, .int u0, .int i_otherHeight, .int i_ops, .int i_ifs, .int i_ifsNotTaken, .int u1, r_layout, .int i_tx, .int i_in, r_coin, .int i_messageIsThere])), (a_data, .inl (cy 0, 14928, .inl u2)), (a_main, .inl (cy 1, 204, .inl u3))] H → va_D A [(o, .inr (6, [v_o_sha, r_signatures, v_o_ripemd, .ref a_data, v_a_scriptEnd, .ref a_main, v_a_other, v_a_taken, .int u0, .int i_otherHeight, .int i_ops, .int i_ifs, .int i_ifsNotTaken, .int u1, r_layout, .int i_tx, .int i_in, r_coin, .int i_messageIsThere])), (a_data, .inl (cy 0, 14928, .inl u2)), (a_main, .inl (cy 1, 204, .inl u3))] → va_S A s.heap H locs → lv_has ls 6 [(0, .ref o), (1, .long a1)] → W p l e rm_Ma_pushNumber s m args below meth c H locs 0 0 (MQ below (q_Ma_pushNumber D cy A o v_o_sha r_signatures v_o_ripemd v_a_scriptEnd v_a_other v_a_taken r_layout r_coin a_data a_main i_otherHeight i_ops i_ifs i_ifsNotTaken i_tx i_in i_messageIsThere res) args s 0 0 A) (F0 m 0 ls [])
set_option maxHeartbeats 8000000 in
set_option maxRecDepth 100000 in
theorem wb_Ma_pushNumber_104 {p : Program} {l : Launch} {e : Env} {s : State} {m : MethodId} {args : Array Value} {below : List Frame} {meth : Method} {c : Code} {D : va_G} {cy : Nat → ClassId} {A : Nat → Prop} {ad : Nat → Nat} {o : Nat} {v_o_sha : Value} {r_signatures : Value} {v_o_ripemd : Value} {v_a_scriptEnd : Value} {v_a_other : Value} {v_a_taken : Value} {r_layout : Value} {r_coin : Value} {a_data : Nat} {a_main : Nat} {i_otherHeight : Int32} {i_ops : Int32} {i_ifs : Int32} {i_ifsNotTaken : Int32} {i_tx : Int32} {i_in : Int32} {i_messageIsThere : Int32} {fu : Nat} (F : Fx p s m args meth c b_Ma_pushNumber 6 "CoinKeeper$Machine" "pushNumber" none D cy ad A) : I_Ma_pushNumber_104 p l e s m args below meth c D cy A ad o v_o_sha r_signatures v_o_ripemd v_a_scriptEnd v_a_other v_a_taken r_layout r_coin a_data a_main i_otherHeight i_ops i_ifs i_ifsNotTaken i_tx i_in i_messageIsThere (xb_Ma_pushNumber_104 fu i_otherHeight i_ops i_ifs i_ifsNotTaken i_tx i_in i_messageIsThere) := by
  obtain ⟨hx, hb, hr, hml, hown, hts, hlocks, hK, hA, hSt, hnm, hex⟩ := id F
  intro x5 u0 u1 u2 u3 res hf H locs ls hP hD hS hl
  unfold xb_Ma_pushNumber_104 at hf
  refine lv_aload_n hx hb d_Ma_pushNumber_104 rfl (lv_at hl 0 rfl) ?_
  refine lv_aload_n hx hb d_Ma_pushNumber_105 rfl (lv_at hl 0 rfl) ?_
  refine va_get (D := D) (ci := 6) (v := .int u1) (C := "CoinKeeper$Machine") (T := F_6) (N := 19) hx hb hts i_6 hown hK hP 0 rfl rfl 13 (by decide) (hts _ gw_217) (fun _ h9 => h9) rfl d_Ma_pushNumber_106 ?_
  refine lv_bipush (v := 8) hx hb d_Ma_pushNumber_109 (by decide) ?_
  refine lv_ishl hx hb d_Ma_pushNumber_111 ?_
  refine lv_topi (fun v1 ev => ?_)
  have hf := bn ev hf
  clear ev
  refine lv_iload hx hb d_Ma_pushNumber_112 (lv_at hl 1 rfl) ?_
  refine lv_ior hx hb d_Ma_pushNumber_114 ?_
  refine lv_topi (fun v2 ev => ?_)
  have hf := bn ev hf
  clear ev
  obtain ⟨e3, f4, hc, hf⟩ := bdp2 hf
  refine q_av (wr := [(a_data, .inl (cy 0, 14928, .inl u2))]) (va_runV (C := "CoinKeeper$Machine") (As := [.int v2]) (rest := []) ⟨hx, hb, hml, hown, hts⟩ (c_Ma_push l D cy ad fu o v_o_sha r_signatures v_o_ripemd (.ref a_data) v_a_scriptEnd v_a_other v_a_taken r_layout r_coin a_main i_otherHeight i_ops i_ifs i_ifsNotTaken u1 i_tx i_in i_messageIsThere v2 u0 u3 _ hc H.size) ⟨q_cB hts gw_988 gw_6 gw_985 hdc_42 ⟨by decide, by decide⟩, hts _ gw_987, hts _ gs_28⟩ (q_preV (q_pre (hP.sub [0, 2] rfl) (hD.sub [0, 2] (by decide) rfl) hK hSt hS (va_free hD hS hA [0, 2] rfl) _) (va_recv hK (hP.sub [0, 2] rfl) (ci := 6) (q0 := 0) rfl rfl)) rfl rfl hl.1 rfl (lv_room (Nat.le_of_ble_eq_true rfl)) d_Ma_pushNumber_115 ⟨Nat.le_of_ble_eq_true rfl, Nat.le_of_ble_eq_true rfl⟩) hP hD hS hA [0, 2] [1] rfl rfl (by decide) (by decide) (fun H locs hP hD hS => ?_)
  clear hc
  have hP : va_P D classes [(a_data, .inl (cy 0, 14928, .inl u2)), (o, .inr (6, [v_o_sha, r_signatures, v_o_ripemd, .ref a_data, v_a_scriptEnd, .ref a_main, v_a_other, v_a_taken, .int e3, .int i_otherHeight, .int i_ops, .int i_ifs, .int i_ifsNotTaken, .int u1, r_layout, .int i_tx, .int i_in, r_coin, .int i_messageIsThere])), (a_main, .inl (cy 1, 204, .inl f4))] H := hP
  have hD : va_D A [(a_data, .inl (cy 0, 14928, .inl u2)), (o, .inr (6, [v_o_sha, r_signatures, v_o_ripemd, .ref a_data, v_a_scriptEnd, .ref a_main, v_a_other, v_a_taken, .int e3, .int i_otherHeight, .int i_ops, .int i_ifs, .int i_ifsNotTaken, .int u1, r_layout, .int i_tx, .int i_in, r_coin, .int i_messageIsThere])), (a_main, .inl (cy 1, 204, .inl f4))] := hD
  refine lv_aload_n hx hb d_Ma_pushNumber_118 rfl (lv_at hl 0 rfl) ?_
  refine lv_dup hx hb d_Ma_pushNumber_119 rfl ?_
  refine va_get (D := D) (ci := 6) (v := .int u1) (C := "CoinKeeper$Machine") (T := F_6) (N := 19) hx hb hts i_6 hown hK hP 1 rfl rfl 13 (by decide) (hts _ gw_217) (fun _ h9 => h9) rfl d_Ma_pushNumber_120 ?_
  refine lv_iload hx hb d_Ma_pushNumber_123 (lv_at hl 1 rfl) ?_
  refine lv_iadd hx hb d_Ma_pushNumber_125 ?_
  refine lv_topi (fun v5 ev => ?_)
  have hf := bn ev hf
  clear ev
  refine va_put (D := D) (ci := 6) (v := .int v5) (ty := .int) (C := "CoinKeeper$Machine") (T := F_6) (N := 19) hx hb hts i_6 t_6 t_6_ok n_6 hown hK hP hD hS 1 rfl rfl 13 (by decide) (hts _ gw_217) (fun _ h9 => h9) rfl (by decide +kernel) rfl rfl (Nat.le_of_ble_eq_true rfl) d_Ma_pushNumber_126 (fun H locs hP hD hS => ?_)
  have hP : va_P D classes [(a_data, .inl (cy 0, 14928, .inl u2)), (o, .inr (6, [v_o_sha, r_signatures, v_o_ripemd, .ref a_data, v_a_scriptEnd, .ref a_main, v_a_other, v_a_taken, .int e3, .int i_otherHeight, .int i_ops, .int i_ifs, .int i_ifsNotTaken, .int v5, r_layout, .int i_tx, .int i_in, r_coin, .int i_messageIsThere])), (a_main, .inl (cy 1, 204, .inl f4))] H := hP
  have hD : va_D A [(a_data, .inl (cy 0, 14928, .inl u2)), (o, .inr (6, [v_o_sha, r_signatures, v_o_ripemd, .ref a_data, v_a_scriptEnd, .ref a_main, v_a_other, v_a_taken, .int e3, .int i_otherHeight, .int i_ops, .int i_ifs, .int i_ifsNotTaken, .int v5, r_layout, .int i_tx, .int i_in, r_coin, .int i_messageIsThere])), (a_main, .inl (cy 1, 204, .inl f4))] := hD
  obtain rfl := Option.some.inj hf
  exact q_rv hx hb hr hlocks hK (hP.sub [1, 0, 2] rfl) (hD.sub [1, 0, 2] (by decide) rfl) hS d_Ma_pushNumber_129
set_option maxHeartbeats 8000000 in
set_option maxRecDepth 100000 in
theorem wb_Ma_pushNumber_78 {p : Program} {l : Launch} {e : Env} {s : State} {m : MethodId} {args : Array Value} {below : List Frame} {meth : Method} {c : Code} {D : va_G} {cy : Nat → ClassId} {A : Nat → Prop} {ad : Nat → Nat} {o : Nat} {v_o_sha : Value} {r_signatures : Value} {v_o_ripemd : Value} {v_a_scriptEnd : Value} {v_a_other : Value} {v_a_taken : Value} {r_layout : Value} {r_coin : Value} {a_data : Nat} {a_main : Nat} {i_otherHeight : Int32} {i_ops : Int32} {i_ifs : Int32} {i_ifsNotTaken : Int32} {i_tx : Int32} {i_in : Int32} {i_messageIsThere : Int32} {fu : Nat} (F : Fx p s m args meth c b_Ma_pushNumber 6 "CoinKeeper$Machine" "pushNumber" none D cy ad A) : I_Ma_pushNumber_78 p l e s m args below meth c D cy A ad o v_o_sha r_signatures v_o_ripemd v_a_scriptEnd v_a_other v_a_taken r_layout r_coin a_data a_main i_otherHeight i_ops i_ifs i_ifsNotTaken i_tx i_in i_messageIsThere (xb_Ma_pushNumber_78 fu i_otherHeight i_ops i_ifs i_ifsNotTaken i_tx i_in i_messageIsThere) := by
  obtain ⟨hx, hb, hr, hml, hown, hts, hlocks, hK, hA, hSt, hnm, hex⟩ := id F
  intro x1 x5 u0 u1 u2 u3 res hf H locs ls hP hD hS hl
  unfold xb_Ma_pushNumber_78 at hf
  refine lv_lload_n hx hb d_Ma_pushNumber_78 rfl (lv_at hl 1 rfl) ?_
  refine lv_lconst (v := 0) hx hb d_Ma_pushNumber_79 (by decide) ?_
  refine W.lcmp hx hb d_Ma_pushNumber_80 ?_
  refine lv_if_ge (tgt := 104) hx hb d_Ma_pushNumber_81 (by decide) (fun cx => ?_) (fun cx => ?_)
  · have hf := ifp cx hf
    exact wb_Ma_pushNumber_104 (fu := fu) F _ _ _ _ _ _ hf _ _ _ hP hD hS (lv_sub hl [0, 2] rfl)
  · have hf := ifn cx hf
    refine lv_aload_n hx hb d_Ma_pushNumber_84 rfl (lv_at hl 0 rfl) ?_
    refine va_get (D := D) (ci := 6) (v := .ref a_data) (C := "CoinKeeper$Machine") (T := F_6) (N := 19) hx hb hts i_6 hown hK hP 0 rfl rfl 3 (by decide) (hts _ gw_207) (fun _ h9 => h9) rfl d_Ma_pushNumber_85 ?_
    refine lv_aload_n hx hb d_Ma_pushNumber_88 rfl (lv_at hl 0 rfl) ?_
    refine va_get (D := D) (ci := 6) (v := .int u1) (C := "CoinKeeper$Machine") (T := F_6) (N := 19) hx hb hts i_6 hown hK hP 0 rfl rfl 13 (by decide) (hts _ gw_217) (fun _ h9 => h9) rfl d_Ma_pushNumber_89 ?_
    refine lv_iload hx hb d_Ma_pushNumber_92 (lv_at hl 2 rfl) ?_
    refine lv_iadd hx hb d_Ma_pushNumber_94 ?_
    refine lv_topi (fun v1 ev => ?_)
    have hf := bn ev hf
    clear ev
    refine lv_iconst (v := 1) hx hb d_Ma_pushNumber_95 (by decide) ?_
    refine lv_isub hx hb d_Ma_pushNumber_96 ?_
    refine lv_topi (fun v2 ev => ?_)
    have hf := bn ev hf
    clear ev
    refine lv_dup2_11 hx hb d_Ma_pushNumber_97 rfl rfl ?_
    obtain ⟨hg, hf⟩ := gdp hf
    refine va_bald hx hb hK hP 1 0 rfl rfl (inb_in hg) d_Ma_pushNumber_98 ?_
    refine lv_topi (fun v3 ev => ?_)
    have hf := bn ev hf
    clear ev
    refine lv_bipush (v := (-128)) hx hb d_Ma_pushNumber_99 (by decide) ?_
    refine lv_ior hx hb d_Ma_pushNumber_101 ?_
    refine lv_i2b hx hb d_Ma_pushNumber_102 rfl ?_
    refine lv_topi (fun v4 ev => ?_)
    have hf := bn ev hf
    clear ev
    obtain ⟨hg, hf⟩ := gdp hf
    refine va_bast hx hb hK hP hD hS 1 0 rfl rfl (inb_in hg) d_Ma_pushNumber_103 (fun H locs hP hD hS => ?_)
    obtain ⟨f5, ev, hf⟩ := bne hf
    have hP : va_P D classes [(o, .inr (6, [v_o_sha, r_signatures, v_o_ripemd, .ref a_data, v_a_scriptEnd, .ref a_main, v_a_other, v_a_taken, .int u0, .int i_otherHeight, .int i_ops, .int i_ifs, .int i_ifsNotTaken, .int u1, r_layout, .int i_tx, .int i_in, r_coin, .int i_messageIsThere])), (a_data, .inl (cy 0, 14928, .inl f5)), (a_main, .inl (cy 1, 204, .inl u3))] H := by rw [ev]; exact hP
    have hD : va_D A [(o, .inr (6, [v_o_sha, r_signatures, v_o_ripemd, .ref a_data, v_a_scriptEnd, .ref a_main, v_a_other, v_a_taken, .int u0, .int i_otherHeight, .int i_ops, .int i_ifs, .int i_ifsNotTaken, .int u1, r_layout, .int i_tx, .int i_in, r_coin, .int i_messageIsThere])), (a_data, .inl (cy 0, 14928, .inl f5)), (a_main, .inl (cy 1, 204, .inl u3))] := by rw [ev]; exact hD
    clear ev
    exact wb_Ma_pushNumber_104 (fu := fu) F _ _ _ _ _ _ hf _ _ _ hP hD hS (lv_sub hl [0, 2] rfl)
set_option maxHeartbeats 8000000 in
set_option maxRecDepth 100000 in
theorem wb_Ma_pushNumber_8 {p : Program} {l : Launch} {e : Env} {s : State} {m : MethodId} {args : Array Value} {below : List Frame} {meth : Method} {c : Code} {D : va_G} {cy : Nat → ClassId} {A : Nat → Prop} {ad : Nat → Nat} {o : Nat} {v_o_sha : Value} {r_signatures : Value} {v_o_ripemd : Value} {v_a_scriptEnd : Value} {v_a_other : Value} {v_a_taken : Value} {r_layout : Value} {r_coin : Value} {a_data : Nat} {a_main : Nat} {i_otherHeight : Int32} {i_ops : Int32} {i_ifs : Int32} {i_ifsNotTaken : Int32} {i_tx : Int32} {i_in : Int32} {i_messageIsThere : Int32} {fu : Nat} {k_8 : Int64 → Int64 → Int32 → Int32 → Int32 → (Nat → Int32) → (Nat → Int32) → Option (Int32 × Int32 × (Nat → Int32) × (Nat → Int32))} (F : Fx p s m args meth c b_Ma_pushNumber 6 "CoinKeeper$Machine" "pushNumber" none D cy ad A) (hk_8 : I_Ma_pushNumber_8 p l e s m args below meth c D cy A ad o v_o_sha r_signatures v_o_ripemd v_a_scriptEnd v_a_other v_a_taken r_layout r_coin a_data a_main i_otherHeight i_ops i_ifs i_ifsNotTaken i_tx i_in i_messageIsThere k_8) : I_Ma_pushNumber_8 p l e s m args below meth c D cy A ad o v_o_sha r_signatures v_o_ripemd v_a_scriptEnd v_a_other v_a_taken r_layout r_coin a_data a_main i_otherHeight i_ops i_ifs i_ifsNotTaken i_tx i_in i_messageIsThere (xb_Ma_pushNumber_8 fu i_otherHeight i_ops i_ifs i_ifsNotTaken i_tx i_in i_messageIsThere k_8) := by
  obtain ⟨hx, hb, hr, hml, hown, hts, hlocks, hK, hA, hSt, hnm, hex⟩ := id F
  intro x1 x3 x5 u0 u1 u2 u3 res hf H locs ls hP hD hS hl
  unfold xb_Ma_pushNumber_8 at hf
  refine lv_lload_n hx hb d_Ma_pushNumber_8 rfl (lv_at hl 2 rfl) ?_
  refine lv_lconst (v := 0) hx hb d_Ma_pushNumber_9 (by decide) ?_
  refine W.lcmp hx hb d_Ma_pushNumber_10 ?_
  refine lv_if_eq (tgt := 40) hx hb d_Ma_pushNumber_11 (by decide) (fun cx => ?_) (fun cx => ?_)
  · have hf := ifp cx hf
    refine lv_iload hx hb d_Ma_pushNumber_40 (lv_at hl 3 rfl) ?_
    refine lv_if_le (tgt := 78) hx hb d_Ma_pushNumber_42 (by decide) (fun cx => ?_) (fun cx => ?_)
    · have hf := ifp cx hf
      exact wb_Ma_pushNumber_78 (fu := fu) F _ _ _ _ _ _ _ hf _ _ _ hP hD hS (lv_sub hl [0, 1, 3] rfl)
    · have hf := ifn cx hf
      refine lv_aload_n hx hb d_Ma_pushNumber_45 rfl (lv_at hl 0 rfl) ?_
      refine va_get (D := D) (ci := 6) (v := .ref a_data) (C := "CoinKeeper$Machine") (T := F_6) (N := 19) hx hb hts i_6 hown hK hP 0 rfl rfl 3 (by decide) (hts _ gw_207) (fun _ h9 => h9) rfl d_Ma_pushNumber_46 ?_
      refine lv_aload_n hx hb d_Ma_pushNumber_49 rfl (lv_at hl 0 rfl) ?_
      refine va_get (D := D) (ci := 6) (v := .int u1) (C := "CoinKeeper$Machine") (T := F_6) (N := 19) hx hb hts i_6 hown hK hP 0 rfl rfl 13 (by decide) (hts _ gw_217) (fun _ h9 => h9) rfl d_Ma_pushNumber_50 ?_
      refine lv_iload hx hb d_Ma_pushNumber_53 (lv_at hl 3 rfl) ?_
      refine lv_iadd hx hb d_Ma_pushNumber_55 ?_
      refine lv_topi (fun v1 ev => ?_)
      have hf := bn ev hf
      clear ev
      refine lv_iconst (v := 1) hx hb d_Ma_pushNumber_56 (by decide) ?_
      refine lv_isub hx hb d_Ma_pushNumber_57 ?_
      refine lv_topi (fun v2 ev => ?_)
      have hf := bn ev hf
      clear ev
      obtain ⟨hg, hf⟩ := gdp hf
      refine va_bald hx hb hK hP 1 0 rfl rfl (inb_in hg) d_Ma_pushNumber_58 ?_
      refine lv_topi (fun v3 ev => ?_)
      have hf := bn ev hf
      clear ev
      refine lv_if_ge (tgt := 78) hx hb d_Ma_pushNumber_59 (by decide) (fun cx => ?_) (fun cx => ?_)
      · have hf := ifp cx hf
        exact wb_Ma_pushNumber_78 (fu := fu) F _ _ _ _ _ _ _ hf _ _ _ hP hD hS (lv_sub hl [0, 1, 3] rfl)
      · have hf := ifn cx hf
        refine lv_aload_n hx hb d_Ma_pushNumber_62 rfl (lv_at hl 0 rfl) ?_
        refine va_get (D := D) (ci := 6) (v := .ref a_data) (C := "CoinKeeper$Machine") (T := F_6) (N := 19) hx hb hts i_6 hown hK hP 0 rfl rfl 3 (by decide) (hts _ gw_207) (fun _ h9 => h9) rfl d_Ma_pushNumber_63 ?_
        refine lv_aload_n hx hb d_Ma_pushNumber_66 rfl (lv_at hl 0 rfl) ?_
        refine va_get (D := D) (ci := 6) (v := .int u1) (C := "CoinKeeper$Machine") (T := F_6) (N := 19) hx hb hts i_6 hown hK hP 0 rfl rfl 13 (by decide) (hts _ gw_217) (fun _ h9 => h9) rfl d_Ma_pushNumber_67 ?_
        refine lv_iload hx hb d_Ma_pushNumber_70 (lv_at hl 3 rfl) ?_
        refine lv_iadd hx hb d_Ma_pushNumber_72 ?_
        refine lv_topi (fun v4 ev => ?_)
        have hf := bn ev hf
        clear ev
        refine lv_iconst (v := 0) hx hb d_Ma_pushNumber_73 (by decide) ?_
        obtain ⟨hg, hf⟩ := gdp hf
        refine va_bast hx hb hK hP hD hS 1 0 rfl rfl (inb_in hg) d_Ma_pushNumber_74 (fun H locs hP hD hS => ?_)
        obtain ⟨f5, ev, hf⟩ := bne hf
        have hP : va_P D classes [(o, .inr (6, [v_o_sha, r_signatures, v_o_ripemd, .ref a_data, v_a_scriptEnd, .ref a_main, v_a_other, v_a_taken, .int u0, .int i_otherHeight, .int i_ops, .int i_ifs, .int i_ifsNotTaken, .int u1, r_layout, .int i_tx, .int i_in, r_coin, .int i_messageIsThere])), (a_data, .inl (cy 0, 14928, .inl f5)), (a_main, .inl (cy 1, 204, .inl u3))] H := by rw [ev]; exact hP
        have hD : va_D A [(o, .inr (6, [v_o_sha, r_signatures, v_o_ripemd, .ref a_data, v_a_scriptEnd, .ref a_main, v_a_other, v_a_taken, .int u0, .int i_otherHeight, .int i_ops, .int i_ifs, .int i_ifsNotTaken, .int u1, r_layout, .int i_tx, .int i_in, r_coin, .int i_messageIsThere])), (a_data, .inl (cy 0, 14928, .inl f5)), (a_main, .inl (cy 1, 204, .inl u3))] := by rw [ev]; exact hD
        clear ev
        obtain ⟨v6, ev, hf⟩ := bne hf
        refine lv_iinc (v := v6) (lv' := [(5, .int v6), (0, .ref o), (1, .long x1), (3, .long x3)]) hx hb d_Ma_pushNumber_75 hl (k := 3) rfl (by rw [ev]; rfl) (by decide) rfl (fun ls hl => ?_)
        clear ev
        exact wb_Ma_pushNumber_78 (fu := fu) F _ _ _ _ _ _ _ hf _ _ _ hP hD hS (lv_sub hl [1, 2, 0] rfl)
  · have hf := ifn cx hf
    refine lv_aload_n hx hb d_Ma_pushNumber_14 rfl (lv_at hl 0 rfl) ?_
    refine va_get (D := D) (ci := 6) (v := .ref a_data) (C := "CoinKeeper$Machine") (T := F_6) (N := 19) hx hb hts i_6 hown hK hP 0 rfl rfl 3 (by decide) (hts _ gw_207) (fun _ h9 => h9) rfl d_Ma_pushNumber_15 ?_
    refine lv_aload_n hx hb d_Ma_pushNumber_18 rfl (lv_at hl 0 rfl) ?_
    refine va_get (D := D) (ci := 6) (v := .int u1) (C := "CoinKeeper$Machine") (T := F_6) (N := 19) hx hb hts i_6 hown hK hP 0 rfl rfl 13 (by decide) (hts _ gw_217) (fun _ h9 => h9) rfl d_Ma_pushNumber_19 ?_
    refine lv_iload hx hb d_Ma_pushNumber_22 (lv_at hl 3 rfl) ?_
    refine lv_iadd hx hb d_Ma_pushNumber_24 ?_
    refine lv_topi (fun v7 ev => ?_)
    have hf := bn ev hf
    clear ev
    refine lv_lload_n hx hb d_Ma_pushNumber_25 rfl (lv_at hl 2 rfl) ?_
    refine lv_l2i hx hb d_Ma_pushNumber_26 rfl ?_
    refine lv_i2b hx hb d_Ma_pushNumber_27 rfl ?_
    refine lv_topi (fun v8 ev => ?_)
    have hf := bn ev hf
    clear ev
    obtain ⟨hg, hf⟩ := gdp hf
    refine va_bast hx hb hK hP hD hS 1 0 rfl rfl (inb_in hg) d_Ma_pushNumber_28 (fun H locs hP hD hS => ?_)
    obtain ⟨f9, ev, hf⟩ := bne hf
    have hP : va_P D classes [(o, .inr (6, [v_o_sha, r_signatures, v_o_ripemd, .ref a_data, v_a_scriptEnd, .ref a_main, v_a_other, v_a_taken, .int u0, .int i_otherHeight, .int i_ops, .int i_ifs, .int i_ifsNotTaken, .int u1, r_layout, .int i_tx, .int i_in, r_coin, .int i_messageIsThere])), (a_data, .inl (cy 0, 14928, .inl f9)), (a_main, .inl (cy 1, 204, .inl u3))] H := by rw [ev]; exact hP
    have hD : va_D A [(o, .inr (6, [v_o_sha, r_signatures, v_o_ripemd, .ref a_data, v_a_scriptEnd, .ref a_main, v_a_other, v_a_taken, .int u0, .int i_otherHeight, .int i_ops, .int i_ifs, .int i_ifsNotTaken, .int u1, r_layout, .int i_tx, .int i_in, r_coin, .int i_messageIsThere])), (a_data, .inl (cy 0, 14928, .inl f9)), (a_main, .inl (cy 1, 204, .inl u3))] := by rw [ev]; exact hD
    clear ev
    obtain ⟨v10, ev, hf⟩ := bne hf
    refine lv_iinc (v := v10) (lv' := [(5, .int v10), (0, .ref o), (1, .long x1), (3, .long x3)]) hx hb d_Ma_pushNumber_29 hl (k := 3) rfl (by rw [ev]; rfl) (by decide) rfl (fun ls hl => ?_)
    clear ev
    refine lv_lload_n hx hb d_Ma_pushNumber_32 rfl (lv_at hl 3 rfl) ?_
    refine lv_bipush (v := 8) hx hb d_Ma_pushNumber_33 (by decide) ?_
    refine lv_lushr hx hb d_Ma_pushNumber_35 rfl ?_
    refine lv_topl (fun v11 ev => ?_)
    have hf := bn ev hf
    clear ev
    refine lv_lstore_n (lv' := [(3, .long v11), (5, .int v10), (0, .ref o), (1, .long x1)]) hx hb d_Ma_pushNumber_36 rfl hl (by decide) rfl (fun ls hl => ?_)
    refine lv_goto (tgt := 8) hx hb d_Ma_pushNumber_37 (by decide) ?_
    exact hk_8 _ _ _ _ _ _ _ _ hf _ _ _ hP hD hS (lv_sub hl [2, 3, 0, 1] rfl)
theorem w_Ma_pushNumber_8 {p : Program} {l : Launch} {e : Env} {s : State} {m : MethodId} {args : Array Value} {below : List Frame} {meth : Method} {c : Code} {D : va_G} {cy : Nat → ClassId} {A : Nat → Prop} {ad : Nat → Nat} {o : Nat} {v_o_sha : Value} {r_signatures : Value} {v_o_ripemd : Value} {v_a_scriptEnd : Value} {v_a_other : Value} {v_a_taken : Value} {r_layout : Value} {r_coin : Value} {a_data : Nat} {a_main : Nat} {i_otherHeight : Int32} {i_ops : Int32} {i_ifs : Int32} {i_ifsNotTaken : Int32} {i_tx : Int32} {i_in : Int32} {i_messageIsThere : Int32} {fu : Nat} (F : Fx p s m args meth c b_Ma_pushNumber 6 "CoinKeeper$Machine" "pushNumber" none D cy ad A) : ∀ n : Nat, I_Ma_pushNumber_8 p l e s m args below meth c D cy A ad o v_o_sha r_signatures v_o_ripemd v_a_scriptEnd v_a_other v_a_taken r_layout r_coin a_data a_main i_otherHeight i_ops i_ifs i_ifsNotTaken i_tx i_in i_messageIsThere (x_Ma_pushNumber_8 fu i_otherHeight i_ops i_ifs i_ifsNotTaken i_tx i_in i_messageIsThere n)
  | 0 => fun _ _ _ _ _ _ _ _ hf => nomatch (show (none : Option (Int32 × Int32 × (Nat → Int32) × (Nat → Int32))) = some _ from hf)
  | n + 1 => wb_Ma_pushNumber_8 F (w_Ma_pushNumber_8 F n)
set_option maxHeartbeats 8000000 in
set_option maxRecDepth 100000 in
theorem we_Ma_pushNumber {p : Program} {l : Launch} {e : Env} {s : State} {m : MethodId} {args : Array Value} {below : List Frame} {meth : Method} {c : Code} {D : va_G} {cy : Nat → ClassId} {A : Nat → Prop} {ad : Nat → Nat} {o : Nat} {v_o_sha : Value} {r_signatures : Value} {v_o_ripemd : Value} {v_a_scriptEnd : Value} {v_a_other : Value} {v_a_taken : Value} {r_layout : Value} {r_coin : Value} {a_data : Nat} {a_main : Nat} {i_otherHeight : Int32} {i_ops : Int32} {i_ifs : Int32} {i_ifsNotTaken : Int32} {i_tx : Int32} {i_in : Int32} {i_messageIsThere : Int32} {fu : Nat} (F : Fx p s m args meth c b_Ma_pushNumber 6 "CoinKeeper$Machine" "pushNumber" none D cy ad A) : I_Ma_pushNumber_e p l e s m args below meth c D cy A ad o v_o_sha r_signatures v_o_ripemd v_a_scriptEnd v_a_other v_a_taken r_layout r_coin a_data a_main i_otherHeight i_ops i_ifs i_ifsNotTaken i_tx i_in i_messageIsThere (x_Ma_pushNumber fu i_otherHeight i_ops i_ifs i_ifsNotTaken i_tx i_in i_messageIsThere) := by
  obtain ⟨hx, hb, hr, hml, hown, hts, hlocks, hK, hA, hSt, hnm, hex⟩ := id F
  intro a1 u0 u1 u2 u3 res hf H locs ls hP hD hS hl
  unfold x_Ma_pushNumber at hf
  refine lv_lload_n hx hb d_Ma_pushNumber_0 rfl (lv_at hl 1 rfl) ?_
  refine va_mabs_long (rest := []) hx hb (hml.trans hl.1.symm) hown (hts _ gw_1203) (hts _ gw_1204) (hts _ gw_15) (hts _ gw_1205) (by decide) (Nat.le_of_ble_eq_true rfl) (Nat.zero_le _) (Nat.zero_le _) d_Ma_pushNumber_1 ?_
  refine lv_topl (fun v1 ev => ?_)
  have hf := bn ev hf
  clear ev
  refine lv_lstore_n (lv' := [(3, .long v1), (0, .ref o), (1, .long a1)]) hx hb d_Ma_pushNumber_4 rfl hl (by decide) rfl (fun ls hl => ?_)
  refine lv_iconst (v := 0) hx hb d_Ma_pushNumber_5 (by decide) ?_
  refine lv_istore (lv' := [(5, .int (0 : Int32)), (3, .long v1), (0, .ref o), (1, .long a1)]) hx hb d_Ma_pushNumber_6 hl (by decide) rfl (fun ls hl => ?_)
  exact w_Ma_pushNumber_8 F fu _ _ _ _ _ _ _ _ hf _ _ _ hP hD hS (lv_sub hl [2, 3, 1, 0] rfl)
theorem c_Ma_pushNumber (l : Launch) (D : va_G) (cy : Nat → ClassId) (ad : Nat → Nat) (fu : Nat) (o : Nat) (v_o_sha : Value) (r_signatures : Value) (v_o_ripemd : Value) (v_a_scriptEnd : Value) (v_a_other : Value) (v_a_taken : Value) (r_layout : Value) (r_coin : Value) (a_data : Nat) (a_main : Nat) (i_otherHeight : Int32) (i_ops : Int32) (i_ifs : Int32) (i_ifsNotTaken : Int32) (i_tx : Int32) (i_in : Int32) (i_messageIsThere : Int32) (a1 : Int64) (u0 : Int32) (u1 : Int32) (u2 : Nat → Int32) (u3 : Nat → Int32) (res : Int32 × Int32 × (Nat → Int32) × (Nat → Int32)) (hf : x_Ma_pushNumber fu i_otherHeight i_ops i_ifs i_ifsNotTaken i_tx i_in i_messageIsThere a1 u0 u1 u2 u3 = some res) (sz : Nat) : Met l ({ cls := "CoinKeeper$Machine", name := "pushNumber", desc := "(J)V" } : Jvm.MethodName) (.code ({ cls := "CoinKeeper$Machine", name := "pushNumber", desc := "(J)V" } : Jvm.MethodName) b_Ma_pushNumber 6 none :: gw) rm_Ma_pushNumber (va_Pc [.ref o, .long a1] (Pr D cy ad [(o, .inr (6, [v_o_sha, r_signatures, v_o_ripemd, .ref a_data, v_a_scriptEnd, .ref a_main, v_a_other, v_a_taken, .int u0, .int i_otherHeight, .int i_ops, .int i_ifs, .int i_ifsNotTaken, .int u1, r_layout, .int i_tx, .int i_in, r_coin, .int i_messageIsThere])), (a_data, .inl (cy 0, 14928, .inl u2)), (a_main, .inl (cy 1, 204, .inl u3))] sz)) (q_Ma_pushNumber D cy (va_A [(o, .inr (6, [v_o_sha, r_signatures, v_o_ripemd, .ref a_data, v_a_scriptEnd, .ref a_main, v_a_other, v_a_taken, .int u0, .int i_otherHeight, .int i_ops, .int i_ifs, .int i_ifsNotTaken, .int u1, r_layout, .int i_tx, .int i_in, r_coin, .int i_messageIsThere])), (a_data, .inl (cy 0, 14928, .inl u2)), (a_main, .inl (cy 1, 204, .inl u3))] sz) o v_o_sha r_signatures v_o_ripemd v_a_scriptEnd v_a_other v_a_taken r_layout r_coin a_data a_main i_otherHeight i_ops i_ifs i_ifsNotTaken i_tx i_in i_messageIsThere res) 0 0 (va_A [(o, .inr (6, [v_o_sha, r_signatures, v_o_ripemd, .ref a_data, v_a_scriptEnd, .ref a_main, v_a_other, v_a_taken, .int u0, .int i_otherHeight, .int i_ops, .int i_ifs, .int i_ifsNotTaken, .int u1, r_layout, .int i_tx, .int i_in, r_coin, .int i_messageIsThere])), (a_data, .inl (cy 0, 14928, .inl u2)), (a_main, .inl (cy 1, 204, .inl u3))] sz) :=
  q_met (Qc := fun A => q_Ma_pushNumber D cy A o v_o_sha r_signatures v_o_ripemd v_a_scriptEnd v_a_other v_a_taken r_layout r_coin a_data a_main i_otherHeight i_ops i_ifs i_ifsNotTaken i_tx i_in i_messageIsThere res) (by decide) rfl rfl (Nat.le_of_ble_eq_true rfl) (fun p e s m below meth c ls F hP hD hS hl => we_Ma_pushNumber (fu := fu) F a1 u0 u1 u2 u3 res hf _ _ _ hP hD hS hl) sz
