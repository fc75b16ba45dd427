abbrev b_M_message : ByteArray := prog_14_method_57_code
theorem d_M_message_0 : decode b_M_message 0 = .ok (.aload_n 0, 1) := by decide +kernel
theorem d_M_message_1 : decode b_M_message 1 = .ok (.getfield 528, 3) := by decide +kernel
theorem d_M_message_4 : decode b_M_message 4 = .ok (.istore_n 1, 1) := by decide +kernel
theorem d_M_message_5 : decode b_M_message 5 = .ok (.iconst 4, 1) := by decide +kernel
theorem d_M_message_6 : decode b_M_message 6 = .ok (.istore_n 2, 1) := by decide +kernel
theorem d_M_message_7 : decode b_M_message 7 = .ok (.aload_n 0, 1) := by decide +kernel
theorem d_M_message_8 : decode b_M_message 8 = .ok (.getfield 14, 3) := by decide +kernel
theorem d_M_message_11 : decode b_M_message 11 = .ok (.aload_n 0, 1) := by decide +kernel
theorem d_M_message_12 : decode b_M_message 12 = .ok (.getfield 49, 3) := by decide +kernel
theorem d_M_message_15 : decode b_M_message 15 = .ok (.iload_n 1, 1) := by decide +kernel
theorem d_M_message_16 : decode b_M_message 16 = .ok (.iaload, 1) := by decide +kernel
theorem d_M_message_17 : decode b_M_message 17 = .ok (.aload_n 0, 1) := by decide +kernel
theorem d_M_message_18 : decode b_M_message 18 = .ok (.getfield 231, 3) := by decide +kernel
theorem d_M_message_21 : decode b_M_message 21 = .ok (.iconst 0, 1) := by decide +kernel
theorem d_M_message_22 : decode b_M_message 22 = .ok (.iconst 4, 1) := by decide +kernel
theorem d_M_message_23 : decode b_M_message 23 = .ok (.invokestatic 271, 3) := by decide +kernel
theorem d_M_message_26 : decode b_M_message 26 = .ok (.aload_n 0, 1) := by decide +kernel
theorem d_M_message_27 : decode b_M_message 27 = .ok (.iload_n 2, 1) := by decide +kernel
theorem d_M_message_28 : decode b_M_message 28 = .ok (.aload_n 0, 1) := by decide +kernel
theorem d_M_message_29 : decode b_M_message 29 = .ok (.getfield 61, 3) := by decide +kernel
theorem d_M_message_32 : decode b_M_message 32 = .ok (.iload_n 1, 1) := by decide +kernel
theorem d_M_message_33 : decode b_M_message 33 = .ok (.iaload, 1) := by decide +kernel
theorem d_M_message_34 : decode b_M_message 34 = .ok (.invokevirtual 531, 3) := by decide +kernel
theorem d_M_message_37 : decode b_M_message 37 = .ok (.istore_n 2, 1) := by decide +kernel
theorem d_M_message_38 : decode b_M_message 38 = .ok (.aload_n 0, 1) := by decide +kernel
theorem d_M_message_39 : decode b_M_message 39 = .ok (.getfield 58, 3) := by decide +kernel
theorem d_M_message_42 : decode b_M_message 42 = .ok (.iload_n 1, 1) := by decide +kernel
theorem d_M_message_43 : decode b_M_message 43 = .ok (.iaload, 1) := by decide +kernel
theorem d_M_message_44 : decode b_M_message 44 = .ok (.istore_n 3, 1) := by decide +kernel
theorem d_M_message_45 : decode b_M_message 45 = .ok (.iload_n 3, 1) := by decide +kernel
theorem d_M_message_46 : decode b_M_message 46 = .ok (.aload_n 0, 1) := by decide +kernel
theorem d_M_message_47 : decode b_M_message 47 = .ok (.getfield 58, 3) := by decide +kernel
theorem d_M_message_50 : decode b_M_message 50 = .ok (.iload_n 1, 1) := by decide +kernel
theorem d_M_message_51 : decode b_M_message 51 = .ok (.iaload, 1) := by decide +kernel
theorem d_M_message_52 : decode b_M_message 52 = .ok (.aload_n 0, 1) := by decide +kernel
theorem d_M_message_53 : decode b_M_message 53 = .ok (.getfield 61, 3) := by decide +kernel
theorem d_M_message_56 : decode b_M_message 56 = .ok (.iload_n 1, 1) := by decide +kernel
theorem d_M_message_57 : decode b_M_message 57 = .ok (.iaload, 1) := by decide +kernel
theorem d_M_message_58 : decode b_M_message 58 = .ok (.iadd, 1) := by decide +kernel
theorem d_M_message_59 : decode b_M_message 59 = .ok (.if_icmp .ge 127, 3) := by decide +kernel
theorem d_M_message_62 : decode b_M_message 62 = .ok (.aload_n 0, 1) := by decide +kernel
theorem d_M_message_63 : decode b_M_message 63 = .ok (.getfield 14, 3) := by decide +kernel
theorem d_M_message_66 : decode b_M_message 66 = .ok (.aload_n 0, 1) := by decide +kernel
theorem d_M_message_67 : decode b_M_message 67 = .ok (.getfield 73, 3) := by decide +kernel
theorem d_M_message_70 : decode b_M_message 70 = .ok (.iload_n 3, 1) := by decide +kernel
theorem d_M_message_71 : decode b_M_message 71 = .ok (.iaload, 1) := by decide +kernel
theorem d_M_message_72 : decode b_M_message 72 = .ok (.aload_n 0, 1) := by decide +kernel
theorem d_M_message_73 : decode b_M_message 73 = .ok (.getfield 231, 3) := by decide +kernel
theorem d_M_message_76 : decode b_M_message 76 = .ok (.iload_n 2, 1) := by decide +kernel
theorem d_M_message_77 : decode b_M_message 77 = .ok (.bipush 36, 2) := by decide +kernel
theorem d_M_message_79 : decode b_M_message 79 = .ok (.invokestatic 271, 3) := by decide +kernel
theorem d_M_message_82 : decode b_M_message 82 = .ok (.iinc 2 36, 3) := by decide +kernel
theorem d_M_message_85 : decode b_M_message 85 = .ok (.iload_n 3, 1) := by decide +kernel
theorem d_M_message_86 : decode b_M_message 86 = .ok (.aload_n 0, 1) := by decide +kernel
theorem d_M_message_87 : decode b_M_message 87 = .ok (.getfield 513, 3) := by decide +kernel
theorem d_M_message_90 : decode b_M_message 90 = .ok (.if_icmp .ne 43, 3) := by decide +kernel
theorem d_M_message_93 : decode b_M_message 93 = .ok (.aload_n 0, 1) := by decide +kernel
theorem d_M_message_94 : decode b_M_message 94 = .ok (.iload_n 2, 1) := by decide +kernel
theorem d_M_message_95 : decode b_M_message 95 = .ok (.aload_n 0, 1) := by decide +kernel
theorem d_M_message_96 : decode b_M_message 96 = .ok (.getfield 534, 3) := by decide +kernel
theorem d_M_message_99 : decode b_M_message 99 = .ok (.invokevirtual 531, 3) := by decide +kernel
theorem d_M_message_102 : decode b_M_message 102 = .ok (.istore_n 2, 1) := by decide +kernel
theorem d_M_message_103 : decode b_M_message 103 = .ok (.aload_n 0, 1) := by decide +kernel
theorem d_M_message_104 : decode b_M_message 104 = .ok (.getfield 14, 3) := by decide +kernel
theorem d_M_message_107 : decode b_M_message 107 = .ok (.aload_n 0, 1) := by decide +kernel
theorem d_M_message_108 : decode b_M_message 108 = .ok (.getfield 537, 3) := by decide +kernel
theorem d_M_message_111 : decode b_M_message 111 = .ok (.aload_n 0, 1) := by decide +kernel
theorem d_M_message_112 : decode b_M_message 112 = .ok (.getfield 231, 3) := by decide +kernel
theorem d_M_message_115 : decode b_M_message 115 = .ok (.iload_n 2, 1) := by decide +kernel
theorem d_M_message_116 : decode b_M_message 116 = .ok (.aload_n 0, 1) := by decide +kernel
theorem d_M_message_117 : decode b_M_message 117 = .ok (.getfield 534, 3) := by decide +kernel
theorem d_M_message_120 : decode b_M_message 120 = .ok (.invokestatic 271, 3) := by decide +kernel
theorem d_M_message_123 : decode b_M_message 123 = .ok (.iload_n 2, 1) := by decide +kernel
theorem d_M_message_124 : decode b_M_message 124 = .ok (.aload_n 0, 1) := by decide +kernel
theorem d_M_message_125 : decode b_M_message 125 = .ok (.getfield 534, 3) := by decide +kernel
theorem d_M_message_128 : decode b_M_message 128 = .ok (.iadd, 1) := by decide +kernel
theorem d_M_message_129 : decode b_M_message 129 = .ok (.istore_n 2, 1) := by decide +kernel
theorem d_M_message_130 : decode b_M_message 130 = .ok (.goto 13, 3) := by decide +kernel
theorem d_M_message_133 : decode b_M_message 133 = .ok (.aload_n 0, 1) := by decide +kernel
theorem d_M_message_134 : decode b_M_message 134 = .ok (.getfield 231, 3) := by decide +kernel
theorem d_M_message_137 : decode b_M_message 137 = .ok (.iload_n 2, 1) := by decide +kernel
theorem d_M_message_138 : decode b_M_message 138 = .ok (.iinc 2 1, 3) := by decide +kernel
theorem d_M_message_141 : decode b_M_message 141 = .ok (.iconst 0, 1) := by decide +kernel
theorem d_M_message_142 : decode b_M_message 142 = .ok (.bastore, 1) := by decide +kernel
theorem d_M_message_143 : decode b_M_message 143 = .ok (.iconst 0, 1) := by decide +kernel
theorem d_M_message_144 : decode b_M_message 144 = .ok (.istore 4, 2) := by decide +kernel
theorem d_M_message_146 : decode b_M_message 146 = .ok (.iload 4, 2) := by decide +kernel
theorem d_M_message_148 : decode b_M_message 148 = .ok (.iconst 4, 1) := by decide +kernel
theorem d_M_message_149 : decode b_M_message 149 = .ok (.if_icmp .ge 31, 3) := by decide +kernel
theorem d_M_message_152 : decode b_M_message 152 = .ok (.aload_n 0, 1) := by decide +kernel
theorem d_M_message_153 : decode b_M_message 153 = .ok (.getfield 231, 3) := by decide +kernel
theorem d_M_message_156 : decode b_M_message 156 = .ok (.iload_n 2, 1) := by decide +kernel
theorem d_M_message_157 : decode b_M_message 157 = .ok (.iinc 2 1, 3) := by decide +kernel
theorem d_M_message_160 : decode b_M_message 160 = .ok (.aload_n 0, 1) := by decide +kernel
theorem d_M_message_161 : decode b_M_message 161 = .ok (.getfield 82, 3) := by decide +kernel
theorem d_M_message_164 : decode b_M_message 164 = .ok (.iload_n 3, 1) := by decide +kernel
theorem d_M_message_165 : decode b_M_message 165 = .ok (.iaload, 1) := by decide +kernel
theorem d_M_message_166 : decode b_M_message 166 = .ok (.bipush 8, 2) := by decide +kernel
theorem d_M_message_168 : decode b_M_message 168 = .ok (.iload 4, 2) := by decide +kernel
theorem d_M_message_170 : decode b_M_message 170 = .ok (.imul, 1) := by decide +kernel
theorem d_M_message_171 : decode b_M_message 171 = .ok (.ishr, 1) := by decide +kernel
theorem d_M_message_172 : decode b_M_message 172 = .ok (.i2b, 1) := by decide +kernel
theorem d_M_message_173 : decode b_M_message 173 = .ok (.bastore, 1) := by decide +kernel
theorem d_M_message_174 : decode b_M_message 174 = .ok (.iinc 4 1, 3) := by decide +kernel
theorem d_M_message_177 : decode b_M_message 177 = .ok (.goto (-31), 3) := by decide +kernel
theorem d_M_message_180 : decode b_M_message 180 = .ok (.iinc 3 1, 3) := by decide +kernel
theorem d_M_message_183 : decode b_M_message 183 = .ok (.goto (-138), 3) := by decide +kernel
theorem d_M_message_186 : decode b_M_message 186 = .ok (.aload_n 0, 1) := by decide +kernel
theorem d_M_message_187 : decode b_M_message 187 = .ok (.getfield 234, 3) := by decide +kernel
theorem d_M_message_190 : decode b_M_message 190 = .ok (.iload_n 1, 1) := by decide +kernel
theorem d_M_message_191 : decode b_M_message 191 = .ok (.iaload, 1) := by decide +kernel
theorem d_M_message_192 : decode b_M_message 192 = .ok (.istore_n 3, 1) := by decide +kernel
theorem d_M_message_193 : decode b_M_message 193 = .ok (.aload_n 0, 1) := by decide +kernel
theorem d_M_message_194 : decode b_M_message 194 = .ok (.getfield 49, 3) := by decide +kernel
theorem d_M_message_197 : decode b_M_message 197 = .ok (.iload_n 1, 1) := by decide +kernel
theorem d_M_message_198 : decode b_M_message 198 = .ok (.iaload, 1) := by decide +kernel
theorem d_M_message_199 : decode b_M_message 199 = .ok (.aload_n 0, 1) := by decide +kernel
theorem d_M_message_200 : decode b_M_message 200 = .ok (.getfield 52, 3) := by decide +kernel
theorem d_M_message_203 : decode b_M_message 203 = .ok (.iload_n 1, 1) := by decide +kernel
theorem d_M_message_204 : decode b_M_message 204 = .ok (.iaload, 1) := by decide +kernel
theorem d_M_message_205 : decode b_M_message 205 = .ok (.iadd, 1) := by decide +kernel
theorem d_M_message_206 : decode b_M_message 206 = .ok (.iload_n 3, 1) := by decide +kernel
theorem d_M_message_207 : decode b_M_message 207 = .ok (.isub, 1) := by decide +kernel
theorem d_M_message_208 : decode b_M_message 208 = .ok (.istore 4, 2) := by decide +kernel
theorem d_M_message_210 : decode b_M_message 210 = .ok (.aload_n 0, 1) := by decide +kernel
theorem d_M_message_211 : decode b_M_message 211 = .ok (.getfield 14, 3) := by decide +kernel
theorem d_M_message_214 : decode b_M_message 214 = .ok (.iload_n 3, 1) := by decide +kernel
theorem d_M_message_215 : decode b_M_message 215 = .ok (.aload_n 0, 1) := by decide +kernel
theorem d_M_message_216 : decode b_M_message 216 = .ok (.getfield 231, 3) := by decide +kernel
theorem d_M_message_219 : decode b_M_message 219 = .ok (.iload_n 2, 1) := by decide +kernel
theorem d_M_message_220 : decode b_M_message 220 = .ok (.iload 4, 2) := by decide +kernel
theorem d_M_message_222 : decode b_M_message 222 = .ok (.invokestatic 271, 3) := by decide +kernel
theorem d_M_message_225 : decode b_M_message 225 = .ok (.iload_n 2, 1) := by decide +kernel
theorem d_M_message_226 : decode b_M_message 226 = .ok (.iload 4, 2) := by decide +kernel
theorem d_M_message_228 : decode b_M_message 228 = .ok (.iadd, 1) := by decide +kernel
theorem d_M_message_229 : decode b_M_message 229 = .ok (.istore_n 2, 1) := by decide +kernel
theorem d_M_message_230 : decode b_M_message 230 = .ok (.iconst 0, 1) := by decide +kernel
theorem d_M_message_231 : decode b_M_message 231 = .ok (.istore 5, 2) := by decide +kernel
theorem d_M_message_233 : decode b_M_message 233 = .ok (.iload 5, 2) := by decide +kernel
theorem d_M_message_235 : decode b_M_message 235 = .ok (.iconst 4, 1) := by decide +kernel
theorem d_M_message_236 : decode b_M_message 236 = .ok (.if_icmp .ge 29, 3) := by decide +kernel
theorem d_M_message_239 : decode b_M_message 239 = .ok (.aload_n 0, 1) := by decide +kernel
theorem d_M_message_240 : decode b_M_message 240 = .ok (.getfield 231, 3) := by decide +kernel
theorem d_M_message_243 : decode b_M_message 243 = .ok (.iload_n 2, 1) := by decide +kernel
theorem d_M_message_244 : decode b_M_message 244 = .ok (.iinc 2 1, 3) := by decide +kernel
theorem d_M_message_247 : decode b_M_message 247 = .ok (.iload 5, 2) := by decide +kernel
theorem d_M_message_249 : decode b_M_message 249 = .ok (.ifCond .ne 7, 3) := by decide +kernel
theorem d_M_message_252 : decode b_M_message 252 = .ok (.iconst 1, 1) := by decide +kernel
theorem d_M_message_253 : decode b_M_message 253 = .ok (.goto 4, 3) := by decide +kernel
theorem d_M_message_256 : decode b_M_message 256 = .ok (.iconst 0, 1) := by decide +kernel
theorem d_M_message_257 : decode b_M_message 257 = .ok (.i2b, 1) := by decide +kernel
theorem d_M_message_258 : decode b_M_message 258 = .ok (.bastore, 1) := by decide +kernel
theorem d_M_message_259 : decode b_M_message 259 = .ok (.iinc 5 1, 3) := by decide +kernel
theorem d_M_message_262 : decode b_M_message 262 = .ok (.goto (-29), 3) := by decide +kernel
theorem d_M_message_265 : decode b_M_message 265 = .ok (.iload_n 2, 1) := by decide +kernel
theorem d_M_message_266 : decode b_M_message 266 = .ok (.ireturn, 1) := by decide +kernel
abbrev rm_M_message : Room := { frames := 1, cells := 0, slots := 0, locals := 26 }
abbrev q_M_message (D : va_G) (cy : Nat → ClassId) (A : Nat → Prop) (o : Nat) (q : Nat → Nat) (z : Nat → Int32) (g_store : Nat → Int32) (g_tAt : Nat → Int32) (g_tSize : Nat → Int32) (g_tIn : Nat → Int32) (g_tIns : Nat → Int32) (g_iAt : Nat → Int32) (g_iSequence : Nat → Int32) (g_tOutAt : Nat → Int32) (res : Int32 × (Nat → Int32)) : Array Value → State → Outcome → State → Prop := va_Qi (fun r' (_ : Unit) => r' = res.1) (fun _ t => Po D cy A [(o, .inr (12, mo q z)), ((q 1), .inl (cy 0, 103000, .inl g_store)), ((q 12), .inl (cy 1, 2200, .inl g_tAt)), ((q 13), .inl (cy 1, 2200, .inl g_tSize)), ((q 15), .inl (cy 1, 2200, .inl g_tIn)), ((q 16), .inl (cy 1, 2200, .inl g_tIns)), ((q 20), .inl (cy 1, 2600, .inl g_iAt)), ((q 23), .inl (cy 1, 2600, .inl g_iSequence)), ((q 71), .inl (cy 0, 100100, .inl res.2)), ((q 72), .inl (cy 1, 2200, .inl g_tOutAt))] t) A
def I_M_message_257 (p : Program) (l : Launch) (e : Env) (s : State) (m : MethodId) (args : Array Value) (below : List Frame) (meth : Method) (c : Code) (D : va_G) (cy : Nat → ClassId) (A : Nat → Prop) (ad : Nat → Nat) (o : Nat) (q : Nat → Nat) (z : Nat → Int32) (g_store : Nat → Int32) (g_tAt : Nat → Int32) (g_tSize : Nat → Int32) (g_tIn : Nat → Int32) (g_tIns : Nat → Int32) (g_iAt : Nat → Int32) (g_iSequence : Nat → Int32) (g_tOutAt : Nat → Int32) (k : Int32 → Int32 → Int32 → Int32 → (Nat → Int32) → Option (Int32 × (Nat → Int32))) : Prop :=
  ∀ (x2 : Int32) (x5 : Int32) (y0 : Int32) (y1 : Int32) (u0 : Nat → Int32) (res : Int32 × (Nat → Int32)), k x2 x5 y0 y1 u0 = some res → ∀ (H : Heap) (locs : List Loc) (ls : Array Slot), va_P D classes [(o, .inr (12, mo q z)), ((q 1), .inl (cy 0, 103000, .inl g_store)), ((q 12), .inl (cy 1, 2200, .inl g_tAt)), ((q 13), .inl (cy 1, 2200, .inl g_tSize)), ((q 15), .inl (cy 1, 2200, .inl g_tIn)), ((q 16), .inl (cy 1, 2200, .inl g_tIns)), ((q 20), .inl (cy 1, 2600, .inl g_iAt)), ((q 23), .inl (cy 1, 2600, .inl g_iSequence)), ((q 71), .inl (cy 0, 100100, .inl u0)), ((q 72), .inl (cy 1, 2200, .inl g_tOutAt))] H → va_D A [(o, .inr (12, mo q z)), ((q 1), .inl (cy 0, 103000, .inl g_store)), ((q 12), .inl (cy 1, 2200, .inl g_tAt)), ((q 13), .inl (cy 1, 2200, .inl g_tSize)), ((q 15), .inl (cy 1, 2200, .inl g_tIn)), ((q 16), .inl (cy 1, 2200, .inl g_tIns)), ((q 20), .inl (cy 1, 2600, .inl g_iAt)), ((q 23), .inl (cy 1, 2600, .inl g_iSequence)), ((q 71), .inl (cy 0, 100100, .inl u0)), ((q 72), .inl (cy 1, 2200, .inl g_tOutAt))] → va_S A s.heap H locs → lv_has ls 6 [(0, .ref o), (2, .int x2), (5, .int x5)] → W p l e rm_M_message s m args below meth c H locs 0 0 (MQ below (q_M_message D cy A o q z g_store g_tAt g_tSize g_tIn g_tIns g_iAt g_iSequence g_tOutAt res) args s 0 0 A) (F0 m 257 ls [.int y0, .int y1, .ref (q 71)])
def I_M_message_233 (p : Program) (l : Launch) (e : Env) (s : State) (m : MethodId) (args : Array Value) (below : List Frame) (meth : Method) (c : Code) (D : va_G) (cy : Nat → ClassId) (A : Nat → Prop) (ad : Nat → Nat) (o : Nat) (q : Nat → Nat) (z : Nat → Int32) (g_store : Nat → Int32) (g_tAt : Nat → Int32) (g_tSize : Nat → Int32) (g_tIn : Nat → Int32) (g_tIns : Nat → Int32) (g_iAt : Nat → Int32) (g_iSequence : Nat → Int32) (g_tOutAt : Nat → Int32) (k : Int32 → Int32 → (Nat → Int32) → Option (Int32 × (Nat → Int32))) : Prop :=
  ∀ (x2 : Int32) (x5 : Int32) (u0 : Nat → Int32) (res : Int32 × (Nat → Int32)), k x2 x5 u0 = some res → ∀ (H : Heap) (locs : List Loc) (ls : Array Slot), va_P D classes [(o, .inr (12, mo q z)), ((q 1), .inl (cy 0, 103000, .inl g_store)), ((q 12), .inl (cy 1, 2200, .inl g_tAt)), ((q 13), .inl (cy 1, 2200, .inl g_tSize)), ((q 15), .inl (cy 1, 2200, .inl g_tIn)), ((q 16), .inl (cy 1, 2200, .inl g_tIns)), ((q 20), .inl (cy 1, 2600, .inl g_iAt)), ((q 23), .inl (cy 1, 2600, .inl g_iSequence)), ((q 71), .inl (cy 0, 100100, .inl u0)), ((q 72), .inl (cy 1, 2200, .inl g_tOutAt))] H → va_D A [(o, .inr (12, mo q z)), ((q 1), .inl (cy 0, 103000, .inl g_store)), ((q 12), .inl (cy 1, 2200, .inl g_tAt)), ((q 13), .inl (cy 1, 2200, .inl g_tSize)), ((q 15), .inl (cy 1, 2200, .inl g_tIn)), ((q 16), .inl (cy 1, 2200, .inl g_tIns)), ((q 20), .inl (cy 1, 2600, .inl g_iAt)), ((q 23), .inl (cy 1, 2600, .inl g_iSequence)), ((q 71), .inl (cy 0, 100100, .inl u0)), ((q 72), .inl (cy 1, 2200, .inl g_tOutAt))] → va_S A s.heap H locs → lv_has ls 6 [(0, .ref o), (2, .int x2), (5, .int x5)] → W p l e rm_M_message s m args below meth c H locs 0 0 (MQ below (q_M_message D cy A o q z g_store g_tAt g_tSize g_tIn g_tIns g_iAt g_iSequence g_tOutAt res) args s 0 0 A) (F0 m 233 ls [])
def I_M_message_146 (p : Program) (l : Launch) (e : Env) (s : State) (m : MethodId) (args : Array Value) (below : List Frame) (meth : Method) (c : Code) (D : va_G) (cy : Nat → ClassId) (A : Nat → Prop) (ad : Nat → Nat) (o : Nat) (q : Nat → Nat) (z : Nat → Int32) (g_store : Nat → Int32) (g_tAt : Nat → Int32) (g_tSize : Nat → Int32) (g_tIn : Nat → Int32) (g_tIns : Nat → Int32) (g_iAt : Nat → Int32) (g_iSequence : Nat → Int32) (g_tOutAt : Nat → Int32) (k : Int32 → Int32 → Int32 → Int32 → (Nat → Int32) → Option (Int32 × (Nat → Int32))) : Prop :=
  ∀ (x1 : Int32) (x2 : Int32) (x3 : Int32) (x4 : Int32) (u0 : Nat → Int32) (res : Int32 × (Nat → Int32)), k x1 x2 x3 x4 u0 = some res → ∀ (H : Heap) (locs : List Loc) (ls : Array Slot), va_P D classes [(o, .inr (12, mo q z)), ((q 1), .inl (cy 0, 103000, .inl g_store)), ((q 12), .inl (cy 1, 2200, .inl g_tAt)), ((q 13), .inl (cy 1, 2200, .inl g_tSize)), ((q 15), .inl (cy 1, 2200, .inl g_tIn)), ((q 16), .inl (cy 1, 2200, .inl g_tIns)), ((q 20), .inl (cy 1, 2600, .inl g_iAt)), ((q 23), .inl (cy 1, 2600, .inl g_iSequence)), ((q 71), .inl (cy 0, 100100, .inl u0)), ((q 72), .inl (cy 1, 2200, .inl g_tOutAt))] H → va_D A [(o, .inr (12, mo q z)), ((q 1), .inl (cy 0, 103000, .inl g_store)), ((q 12), .inl (cy 1, 2200, .inl g_tAt)), ((q 13), .inl (cy 1, 2200, .inl g_tSize)), ((q 15), .inl (cy 1, 2200, .inl g_tIn)), ((q 16), .inl (cy 1, 2200, .inl g_tIns)), ((q 20), .inl (cy 1, 2600, .inl g_iAt)), ((q 23), .inl (cy 1, 2600, .inl g_iSequence)), ((q 71), .inl (cy 0, 100100, .inl u0)), ((q 72), .inl (cy 1, 2200, .inl g_tOutAt))] → va_S A s.heap H locs → lv_has ls 6 [(0, .ref o), (1, .int x1), (2, .int x2), (3, .int x3), (4, .int x4)] → W p l e rm_M_message s m args below meth c H locs 0 0 (MQ below (q_M_message D cy A o q z g_store g_tAt g_tSize g_tIn g_tIns g_iAt g_iSequence g_tOutAt res) args s 0 0 A) (F0 m 146 ls [])
def I_M_message_143 (p : Program) (l : Launch) (e : Env) (s : State) (m : MethodId) (args : Array Value) (below : List Frame) (meth : Method) (c : Code) (D : va_G) (cy : Nat → ClassId) (A : Nat → Prop) (ad : Nat → Nat) (o : Nat) (q : Nat → Nat) (z : Nat → Int32) (g_store : Nat → Int32) (g_tAt : Nat → Int32) (g_tSize : Nat → Int32) (g_tIn : Nat → Int32) (g_tIns : Nat → Int32) (g_iAt : Nat → Int32) (g_iSequence : Nat → Int32) (g_tOutAt : Nat → Int32) (k : Int32 → Int32 → Int32 → (Nat → Int32) → Option (Int32 × (Nat → Int32))) : Prop :=
  ∀ (x1 : Int32) (x2 : Int32) (x3 : Int32) (u0 : Nat → Int32) (res : Int32 × (Nat → Int32)), k x1 x2 x3 u0 = some res → ∀ (H : Heap) (locs : List Loc) (ls : Array Slot), va_P D classes [(o, .inr (12, mo q z)), ((q 1), .inl (cy 0, 103000, .inl g_store)), ((q 12), .inl (cy 1, 2200, .inl g_tAt)), ((q 13), .inl (cy 1, 2200, .inl g_tSize)), ((q 15), .inl (cy 1, 2200, .inl g_tIn)), ((q 16), .inl (cy 1, 2200, .inl g_tIns)), ((q 20), .inl (cy 1, 2600, .inl g_iAt)), ((q 23), .inl (cy 1, 2600, .inl g_iSequence)), ((q 71), .inl (cy 0, 100100, .inl u0)), ((q 72), .inl (cy 1, 2200, .inl g_tOutAt))] H → va_D A [(o, .inr (12, mo q z)), ((q 1), .inl (cy 0, 103000, .inl g_store)), ((q 12), .inl (cy 1, 2200, .inl g_tAt)), ((q 13), .inl (cy 1, 2200, .inl g_tSize)), ((q 15), .inl (cy 1, 2200, .inl g_tIn)), ((q 16), .inl (cy 1, 2200, .inl g_tIns)), ((q 20), .inl (cy 1, 2600, .inl g_iAt)), ((q 23), .inl (cy 1, 2600, .inl g_iSequence)), ((q 71), .inl (cy 0, 100100, .inl u0)), ((q 72), .inl (cy 1, 2200, .inl g_tOutAt))] → va_S A s.heap H locs → lv_has ls 6 [(0, .ref o), (1, .int x1), (2, .int x2), (3, .int x3)] → W p l e rm_M_message s m args below meth c H locs 0 0 (MQ below (q_M_message D cy A o q z g_store g_tAt g_tSize g_tIn g_tIns g_iAt g_iSequence g_tOutAt res) args s 0 0 A) (F0 m 143 ls [])
def I_M_message_45 (p : Program) (l : Launch) (e : Env) (s : State) (m : MethodId) (args : Array Value) (below : List Frame) (meth : Method) (c : Code) (D : va_G) (cy : Nat → ClassId) (A : Nat → Prop) (ad : Nat → Nat) (o : Nat) (q : Nat → Nat) (z : Nat → Int32) (g_store : Nat → Int32) (g_tAt : Nat → Int32) (g_tSize : Nat → Int32) (g_tIn : Nat → Int32) (g_tIns : Nat → Int32) (g_iAt : Nat → Int32) (g_iSequence : Nat → Int32) (g_tOutAt : Nat → Int32) (k : Int32 → Int32 → Int32 → (Nat → Int32) → Option (Int32 × (Nat → Int32))) : Prop :=
  ∀ (x1 : Int32) (x2 : Int32) (x3 : Int32) (u0 : Nat → Int32) (res : Int32 × (Nat → Int32)), k x1 x2 x3 u0 = some res → ∀ (H : Heap) (locs : List Loc) (ls : Array Slot), va_P D classes [(o, .inr (12, mo q z)), ((q 1), .inl (cy 0, 103000, .inl g_store)), ((q 12), .inl (cy 1, 2200, .inl g_tAt)), ((q 13), .inl (cy 1, 2200, .inl g_tSize)), ((q 15), .inl (cy 1, 2200, .inl g_tIn)), ((q 16), .inl (cy 1, 2200, .inl g_tIns)), ((q 20), .inl (cy 1, 2600, .inl g_iAt)), ((q 23), .inl (cy 1, 2600, .inl g_iSequence)), ((q 71), .inl (cy 0, 100100, .inl u0)), ((q 72), .inl (cy 1, 2200, .inl g_tOutAt))] H → va_D A [(o, .inr (12, mo q z)), ((q 1), .inl (cy 0, 103000, .inl g_store)), ((q 12), .inl (cy 1, 2200, .inl g_tAt)), ((q 13), .inl (cy 1, 2200, .inl g_tSize)), ((q 15), .inl (cy 1, 2200, .inl g_tIn)), ((q 16), .inl (cy 1, 2200, .inl g_tIns)), ((q 20), .inl (cy 1, 2600, .inl g_iAt)), ((q 23), .inl (cy 1, 2600, .inl g_iSequence)), ((q 71), .inl (cy 0, 100100, .inl u0)), ((q 72), .inl (cy 1, 2200, .inl g_tOutAt))] → va_S A s.heap H locs → lv_has ls 6 [(0, .ref o), (1, .int x1), (2, .int x2), (3, .int x3)] → W p l e rm_M_message s m args below meth c H locs 0 0 (MQ below (q_M_message D cy A o q z g_store g_tAt g_tSize g_tIn g_tIns g_iAt g_iSequence g_tOutAt res) args s 0 0 A) (F0 m 45 ls [])
def I_M_message_e (p : Program) (l : Launch) (e : Env) (s : State) (m : MethodId) (args : Array Value) (below : List Frame) (meth : Method) (c : Code) (D : va_G) (cy : Nat → ClassId) (A : Nat → Prop) (ad : Nat → Nat) (o : Nat) (q : Nat → Nat) (z : Nat → Int32) (g_store : Nat → Int32) (g_tAt : Nat → Int32) (g_tSize : Nat → Int32) (g_tIn : Nat → Int32) (g_tIns : Nat → Int32) (g_iAt : Nat → Int32) (g_iSequence : Nat → Int32) (g_tOutAt : Nat → Int32) (k : (Nat → Int32) → Option (Int32 × (Nat → Int32))) : Prop :=
  ∀ (u0 : Nat → Int32) (res : Int32 × (Nat → Int32)), k u0 = some res → ∀ (H : Heap) (locs : List Loc) (ls : Array Slot), va_P D classes [(o, .inr (12, mo q z)), ((q 1), .inl (cy 0, 103000, .inl g_store)), ((q 12), .inl (cy 1, 2200, .inl g_tAt)), ((q 13), .inl (cy 1, 2200, .inl g_tSize)), ((q 15), .inl (cy 1, 2200, .inl g_tIn)), ((q 16), .inl (cy 1, 2200, .inl g_tIns)), ((q 20), .inl (cy 1, 2600, .inl g_iAt)), ((q 23), .inl (cy 1, 2600, .inl g_iSequence)), ((q 71), .inl (cy 0, 100100, .inl u0)), ((q 72), .inl (cy 1, 2200, .inl g_tOutAt))] H → va_D A [(o, .inr (12, mo q z)), ((q 1), .inl (cy 0, 103000, .inl g_store)), ((q 12), .inl (cy 1, 2200, .inl g_tAt)), ((q 13), .inl (cy 1, 2200, .inl g_tSize)), ((q 15), .inl (cy 1, 2200, .inl g_tIn)), ((q 16), .inl (cy 1, 2200, .inl g_tIns)), ((q 20), .inl (cy 1, 2600, .inl g_iAt)), ((q 23), .inl (cy 1, 2600, .inl g_iSequence)), ((q 71), .inl (cy 0, 100100, .inl u0)), ((q 72), .inl (cy 1, 2200, .inl g_tOutAt))] → va_S A s.heap H locs → lv_has ls 6 [(0, .ref o)] → W p l e rm_M_message s m args below meth c H locs 0 0 (MQ below (q_M_message D cy A o q z g_store g_tAt g_tSize g_tIn g_tIns g_iAt g_iSequence g_tOutAt res) args s 0 0 A) (F0 m 0 ls [])
set_option maxHeartbeats 8000000 in
set_option maxRecDepth 100000 in
theorem wb_M_message_257 {p : Program} {l : Launch} {e : Env} {s : State} {m : MethodId} {args : Array Value} {below : List Frame} {meth : Method} {c : Code} {D : va_G} {cy : Nat → ClassId} {A : Nat → Prop} {ad : Nat → Nat} {o : Nat} {q : Nat → Nat} {z : Nat → Int32} {g_store : Nat → Int32} {g_tAt : Nat → Int32} {g_tSize : Nat → Int32} {g_tIn : Nat → Int32} {g_tIns : Nat → Int32} {g_iAt : Nat → Int32} {g_iSequence : Nat → Int32} {g_tOutAt : Nat → Int32} {fu : Nat} {k_233 : Int32 → Int32 → (Nat → Int32) → Option (Int32 × (Nat → Int32))} (F : Fx p s m args meth c b_M_message 6 "CoinKeeperModel" "message" (some .int) D cy ad A) (hk_233 : I_M_message_233 p l e s m args below meth c D cy A ad o q z g_store g_tAt g_tSize g_tIn g_tIns g_iAt g_iSequence g_tOutAt k_233) : I_M_message_257 p l e s m args below meth c D cy A ad o q z g_store g_tAt g_tSize g_tIn g_tIns g_iAt g_iSequence g_tOutAt (xb_M_message_257 fu z g_store g_tAt g_tSize g_tIn g_tIns g_iAt g_iSequence g_tOutAt k_233) := by
  obtain ⟨hx, hb, hr, hml, hown, hts, hlocks, hK, hA, hSt, hnm, hex⟩ := id F
  intro x2 x5 y0 y1 u0 res hf H locs ls hP hD hS hl
  unfold xb_M_message_257 at hf
  refine lv_i2b hx hb d_M_message_257 rfl ?_
  refine lv_topi (fun v1 ev => ?_)
  have hf := bn ev hf
  clear ev
  obtain ⟨hg, hf⟩ := gdp hf
  refine va_bast hx hb hK hP hD hS 8 0 rfl rfl (inb_in hg) d_M_message_258 (fun H locs hP hD hS => ?_)
  obtain ⟨f2, ev, hf⟩ := bne hf
  have hP : va_P D classes [(o, .inr (12, mo q z)), ((q 1), .inl (cy 0, 103000, .inl g_store)), ((q 12), .inl (cy 1, 2200, .inl g_tAt)), ((q 13), .inl (cy 1, 2200, .inl g_tSize)), ((q 15), .inl (cy 1, 2200, .inl g_tIn)), ((q 16), .inl (cy 1, 2200, .inl g_tIns)), ((q 20), .inl (cy 1, 2600, .inl g_iAt)), ((q 23), .inl (cy 1, 2600, .inl g_iSequence)), ((q 71), .inl (cy 0, 100100, .inl f2)), ((q 72), .inl (cy 1, 2200, .inl g_tOutAt))] H := by rw [ev]; exact hP
  have hD : va_D A [(o, .inr (12, mo q z)), ((q 1), .inl (cy 0, 103000, .inl g_store)), ((q 12), .inl (cy 1, 2200, .inl g_tAt)), ((q 13), .inl (cy 1, 2200, .inl g_tSize)), ((q 15), .inl (cy 1, 2200, .inl g_tIn)), ((q 16), .inl (cy 1, 2200, .inl g_tIns)), ((q 20), .inl (cy 1, 2600, .inl g_iAt)), ((q 23), .inl (cy 1, 2600, .inl g_iSequence)), ((q 71), .inl (cy 0, 100100, .inl f2)), ((q 72), .inl (cy 1, 2200, .inl g_tOutAt))] := by rw [ev]; exact hD
  clear ev
  obtain ⟨v3, ev, hf⟩ := bne hf
  refine lv_iinc (v := v3) (lv' := [(5, .int v3), (0, .ref o), (2, .int x2)]) hx hb d_M_message_259 hl (k := 2) rfl (by rw [ev]; rfl) (by decide) rfl (fun ls hl => ?_)
  clear ev
  refine lv_goto (tgt := 233) hx hb d_M_message_262 (by decide) ?_
  exact hk_233 _ _ _ _ hf _ _ _ hP hD hS (lv_sub hl [1, 2, 0] rfl)
set_option maxHeartbeats 8000000 in
set_option maxRecDepth 100000 in
theorem wb_M_message_233 {p : Program} {l : Launch} {e : Env} {s : State} {m : MethodId} {args : Array Value} {below : List Frame} {meth : Method} {c : Code} {D : va_G} {cy : Nat → ClassId} {A : Nat → Prop} {ad : Nat → Nat} {o : Nat} {q : Nat → Nat} {z : Nat → Int32} {g_store : Nat → Int32} {g_tAt : Nat → Int32} {g_tSize : Nat → Int32} {g_tIn : Nat → Int32} {g_tIns : Nat → Int32} {g_iAt : Nat → Int32} {g_iSequence : Nat → Int32} {g_tOutAt : Nat → Int32} {fu : Nat} {k_233 : Int32 → Int32 → (Nat → Int32) → Option (Int32 × (Nat → Int32))} (F : Fx p s m args meth c b_M_message 6 "CoinKeeperModel" "message" (some .int) D cy ad A) (hk_233 : I_M_message_233 p l e s m args below meth c D cy A ad o q z g_store g_tAt g_tSize g_tIn g_tIns g_iAt g_iSequence g_tOutAt k_233) : I_M_message_233 p l e s m args below meth c D cy A ad o q z g_store g_tAt g_tSize g_tIn g_tIns g_iAt g_iSequence g_tOutAt (xb_M_message_233 fu z g_store g_tAt g_tSize g_tIn g_tIns g_iAt g_iSequence g_tOutAt k_233) := by
  obtain ⟨hx, hb, hr, hml, hown, hts, hlocks, hK, hA, hSt, hnm, hex⟩ := id F
  intro x2 x5 u0 res hf H locs ls hP hD hS hl
  unfold xb_M_message_233 at hf
  refine lv_iload hx hb d_M_message_233 (lv_at hl 2 rfl) ?_
  refine lv_iconst (v := 4) hx hb d_M_message_235 (by decide) ?_
  refine lv_icmp_ge (tgt := 265) hx hb d_M_message_236 (by decide) (fun cx => ?_) (fun cx => ?_)
  · have hf := ifp cx hf
    refine lv_iload_n hx hb d_M_message_265 rfl (lv_at hl 1 rfl) ?_
    obtain rfl := Option.some.inj hf
    exact q_ri hx hb hr hlocks hK hP hD hS d_M_message_266
  · have hf := ifn cx hf
    refine lv_aload_n hx hb d_M_message_239 rfl (lv_at hl 0 rfl) ?_
    refine va_get (D := D) (ci := 12) (v := .ref (q 71)) (C := "CoinKeeperModel") (T := F_12) (N := 98) hx hb hts i_12 hown hK hP 0 rfl rfl 87 (by decide) (hts _ gw_1506) (fun _ h9 => h9) rfl d_M_message_240 ?_
    refine lv_iload_n hx hb d_M_message_243 rfl (lv_at hl 1 rfl) ?_
    obtain ⟨v1, ev, hf⟩ := bne hf
    refine lv_iinc (v := v1) (lv' := [(2, .int v1), (0, .ref o), (5, .int x5)]) hx hb d_M_message_244 hl (k := 1) rfl (by rw [ev]; rfl) (by decide) rfl (fun ls hl => ?_)
    clear ev
    refine lv_iload hx hb d_M_message_247 (lv_at hl 2 rfl) ?_
    refine lv_if_ne (tgt := 256) hx hb d_M_message_249 (by decide) (fun cx => ?_) (fun cx => ?_)
    · have hf := ifn cx hf
      refine lv_iconst (v := 0) hx hb d_M_message_256 (by decide) ?_
      exact wb_M_message_257 (fu := fu) F hk_233 _ _ _ _ _ _ hf _ _ _ hP hD hS (lv_sub hl [1, 0, 2] rfl)
    · have hf := ifp cx hf
      refine lv_iconst (v := 1) hx hb d_M_message_252 (by decide) ?_
      refine lv_goto (tgt := 257) hx hb d_M_message_253 (by decide) ?_
      exact wb_M_message_257 (fu := fu) F hk_233 _ _ _ _ _ _ hf _ _ _ hP hD hS (lv_sub hl [1, 0, 2] rfl)
theorem w_M_message_233 {p : Program} {l : Launch} {e : Env} {s : State} {m : MethodId} {args : Array Value} {below : List Frame} {meth : Method} {c : Code} {D : va_G} {cy : Nat → ClassId} {A : Nat → Prop} {ad : Nat → Nat} {o : Nat} {q : Nat → Nat} {z : Nat → Int32} {g_store : Nat → Int32} {g_tAt : Nat → Int32} {g_tSize : Nat → Int32} {g_tIn : Nat → Int32} {g_tIns : Nat → Int32} {g_iAt : Nat → Int32} {g_iSequence : Nat → Int32} {g_tOutAt : Nat → Int32} {fu : Nat} (F : Fx p s m args meth c b_M_message 6 "CoinKeeperModel" "message" (some .int) D cy ad A) : ∀ n : Nat, I_M_message_233 p l e s m args below meth c D cy A ad o q z g_store g_tAt g_tSize g_tIn g_tIns g_iAt g_iSequence g_tOutAt (x_M_message_233 fu z g_store g_tAt g_tSize g_tIn g_tIns g_iAt g_iSequence g_tOutAt n)
  | 0 => fun _ _ _ _ hf => nomatch (show (none : Option (Int32 × (Nat → Int32))) = some _ from hf)
  | n + 1 => wb_M_message_233 F (w_M_message_233 F n)
set_option maxHeartbeats 8000000 in
set_option maxRecDepth 100000 in
theorem wb_M_message_146 {p : Program} {l : Launch} {e : Env} {s : State} {m : MethodId} {args : Array Value} {below : List Frame} {meth : Method} {c : Code} {D : va_G} {cy : Nat → ClassId} {A : Nat → Prop} {ad : Nat → Nat} {o : Nat} {q : Nat → Nat} {z : Nat → Int32} {g_store : Nat → Int32} {g_tAt : Nat → Int32} {g_tSize : Nat → Int32} {g_tIn : Nat → Int32} {g_tIns : Nat → Int32} {g_iAt : Nat → Int32} {g_iSequence : Nat → Int32} {g_tOutAt : Nat → Int32} {fu : Nat} {k_45 : Int32 → Int32 → Int32 → (Nat → Int32) → Option (Int32 × (Nat → Int32))} {k_146 : Int32 → Int32 → Int32 → Int32 → (Nat → Int32) → Option (Int32 × (Nat → Int32))} (F : Fx p s m args meth c b_M_message 6 "CoinKeeperModel" "message" (some .int) D cy ad A) (hk_45 : I_M_message_45 p l e s m args below meth c D cy A ad o q z g_store g_tAt g_tSize g_tIn g_tIns g_iAt g_iSequence g_tOutAt k_45) (hk_146 : I_M_message_146 p l e s m args below meth c D cy A ad o q z g_store g_tAt g_tSize g_tIn g_tIns g_iAt g_iSequence g_tOutAt k_146) : I_M_message_146 p l e s m args below meth c D cy A ad o q z g_store g_tAt g_tSize g_tIn g_tIns g_iAt g_iSequence g_tOutAt (xb_M_message_146 fu z g_store g_tAt g_tSize g_tIn g_tIns g_iAt g_iSequence g_tOutAt k_45 k_146) := by
  obtain ⟨hx, hb, hr, hml, hown, hts, hlocks, hK, hA, hSt, hnm, hex⟩ := id F
  intro x1 x2 x3 x4 u0 res hf H locs ls hP hD hS hl
  unfold xb_M_message_146 at hf
  refine lv_iload hx hb d_M_message_146 (lv_at hl 4 rfl) ?_
  refine lv_iconst (v := 4) hx hb d_M_message_148 (by decide) ?_
  refine lv_icmp_ge (tgt := 180) hx hb d_M_message_149 (by decide) (fun cx => ?_) (fun cx => ?_)
  · have hf := ifp cx hf
    obtain ⟨v1, ev, hf⟩ := bne hf
    refine lv_iinc (v := v1) (lv' := [(3, .int v1), (0, .ref o), (1, .int x1), (2, .int x2), (4, .int x4)]) hx hb d_M_message_180 hl (k := 3) rfl (by rw [ev]; rfl) (by decide) rfl (fun ls hl => ?_)
    clear ev
    refine lv_goto (tgt := 45) hx hb d_M_message_183 (by decide) ?_
    exact hk_45 _ _ _ _ _ hf _ _ _ hP hD hS (lv_sub hl [1, 2, 3, 0] rfl)
  · have hf := ifn cx hf
    refine lv_aload_n hx hb d_M_message_152 rfl (lv_at hl 0 rfl) ?_
    refine va_get (D := D) (ci := 12) (v := .ref (q 71)) (C := "CoinKeeperModel") (T := F_12) (N := 98) hx hb hts i_12 hown hK hP 0 rfl rfl 87 (by decide) (hts _ gw_1506) (fun _ h9 => h9) rfl d_M_message_153 ?_
    refine lv_iload_n hx hb d_M_message_156 rfl (lv_at hl 2 rfl) ?_
    obtain ⟨v2, ev, hf⟩ := bne hf
    refine lv_iinc (v := v2) (lv' := [(2, .int v2), (0, .ref o), (1, .int x1), (3, .int x3), (4, .int x4)]) hx hb d_M_message_157 hl (k := 2) rfl (by rw [ev]; rfl) (by decide) rfl (fun ls hl => ?_)
    clear ev
    refine lv_aload_n hx hb d_M_message_160 rfl (lv_at hl 1 rfl) ?_
    refine va_get (D := D) (ci := 12) (v := .ref (q 23)) (C := "CoinKeeperModel") (T := F_12) (N := 98) hx hb hts i_12 hown hK hP 0 rfl rfl 29 (by decide) (hts _ gw_1448) (fun _ h9 => h9) rfl d_M_message_161 ?_
    refine lv_iload_n hx hb d_M_message_164 rfl (lv_at hl 3 rfl) ?_
    obtain ⟨hg, hf⟩ := gdp hf
    refine va_iald hx hb hK hP 7 1 rfl rfl (inb_in hg) d_M_message_165 ?_
    refine lv_topi (fun v3 ev => ?_)
    have hf := bn ev hf
    clear ev
    refine lv_bipush (v := 8) hx hb d_M_message_166 (by decide) ?_
    refine lv_iload hx hb d_M_message_168 (lv_at hl 4 rfl) ?_
    refine lv_imul hx hb d_M_message_170 ?_
    refine lv_ishr hx hb d_M_message_171 ?_
    refine lv_i2b hx hb d_M_message_172 rfl ?_
    refine lv_topi (fun v4 ev => ?_)
    have hf := bn ev hf
    clear ev
    obtain ⟨hg, hf⟩ := gdp hf
    refine va_bast hx hb hK hP hD hS 8 0 rfl rfl (inb_in hg) d_M_message_173 (fun H locs hP hD hS => ?_)
    obtain ⟨f5, ev, hf⟩ := bne hf
    have hP : va_P D classes [(o, .inr (12, mo q z)), ((q 1), .inl (cy 0, 103000, .inl g_store)), ((q 12), .inl (cy 1, 2200, .inl g_tAt)), ((q 13), .inl (cy 1, 2200, .inl g_tSize)), ((q 15), .inl (cy 1, 2200, .inl g_tIn)), ((q 16), .inl (cy 1, 2200, .inl g_tIns)), ((q 20), .inl (cy 1, 2600, .inl g_iAt)), ((q 23), .inl (cy 1, 2600, .inl g_iSequence)), ((q 71), .inl (cy 0, 100100, .inl f5)), ((q 72), .inl (cy 1, 2200, .inl g_tOutAt))] H := by rw [ev]; exact hP
    have hD : va_D A [(o, .inr (12, mo q z)), ((q 1), .inl (cy 0, 103000, .inl g_store)), ((q 12), .inl (cy 1, 2200, .inl g_tAt)), ((q 13), .inl (cy 1, 2200, .inl g_tSize)), ((q 15), .inl (cy 1, 2200, .inl g_tIn)), ((q 16), .inl (cy 1, 2200, .inl g_tIns)), ((q 20), .inl (cy 1, 2600, .inl g_iAt)), ((q 23), .inl (cy 1, 2600, .inl g_iSequence)), ((q 71), .inl (cy 0, 100100, .inl f5)), ((q 72), .inl (cy 1, 2200, .inl g_tOutAt))] := by rw [ev]; exact hD
    clear ev
    obtain ⟨v6, ev, hf⟩ := bne hf
    refine lv_iinc (v := v6) (lv' := [(4, .int v6), (2, .int v2), (0, .ref o), (1, .int x1), (3, .int x3)]) hx hb d_M_message_174 hl (k := 4) rfl (by rw [ev]; rfl) (by decide) rfl (fun ls hl => ?_)
    clear ev
    refine lv_goto (tgt := 146) hx hb d_M_message_177 (by decide) ?_
    exact hk_146 _ _ _ _ _ _ hf _ _ _ hP hD hS (lv_sub hl [2, 3, 1, 4, 0] rfl)
theorem w_M_message_146 {p : Program} {l : Launch} {e : Env} {s : State} {m : MethodId} {args : Array Value} {below : List Frame} {meth : Method} {c : Code} {D : va_G} {cy : Nat → ClassId} {A : Nat → Prop} {ad : Nat → Nat} {o : Nat} {q : Nat → Nat} {z : Nat → Int32} {g_store : Nat → Int32} {g_tAt : Nat → Int32} {g_tSize : Nat → Int32} {g_tIn : Nat → Int32} {g_tIns : Nat → Int32} {g_iAt : Nat → Int32} {g_iSequence : Nat → Int32} {g_tOutAt : Nat → Int32} {fu : Nat} {k_45 : Int32 → Int32 → Int32 → (Nat → Int32) → Option (Int32 × (Nat → Int32))} (F : Fx p s m args meth c b_M_message 6 "CoinKeeperModel" "message" (some .int) D cy ad A) (hk_45 : I_M_message_45 p l e s m args below meth c D cy A ad o q z g_store g_tAt g_tSize g_tIn g_tIns g_iAt g_iSequence g_tOutAt k_45) : ∀ n : Nat, I_M_message_146 p l e s m args below meth c D cy A ad o q z g_store g_tAt g_tSize g_tIn g_tIns g_iAt g_iSequence g_tOutAt (x_M_message_146 fu z g_store g_tAt g_tSize g_tIn g_tIns g_iAt g_iSequence g_tOutAt k_45 n)
  | 0 => fun _ _ _ _ _ _ hf => nomatch (show (none : Option (Int32 × (Nat → Int32))) = some _ from hf)
  | n + 1 => wb_M_message_146 F hk_45 (w_M_message_146 F hk_45 n)
set_option maxHeartbeats 8000000 in
set_option maxRecDepth 100000 in
theorem wb_M_message_143 {p : Program} {l : Launch} {e : Env} {s : State} {m : MethodId} {args : Array Value} {below : List Frame} {meth : Method} {c : Code} {D : va_G} {cy : Nat → ClassId} {A : Nat → Prop} {ad : Nat → Nat} {o : Nat} {q : Nat → Nat} {z : Nat → Int32} {g_store : Nat → Int32} {g_tAt : Nat → Int32} {g_tSize : Nat → Int32} {g_tIn : Nat → Int32} {g_tIns : Nat → Int32} {g_iAt : Nat → Int32} {g_iSequence : Nat → Int32} {g_tOutAt : Nat → Int32} {fu : Nat} {k_45 : Int32 → Int32 → Int32 → (Nat → Int32) → Option (Int32 × (Nat → Int32))} (F : Fx p s m args meth c b_M_message 6 "CoinKeeperModel" "message" (some .int) D cy ad A) (hk_45 : I_M_message_45 p l e s m args below meth c D cy A ad o q z g_store g_tAt g_tSize g_tIn g_tIns g_iAt g_iSequence g_tOutAt k_45) : I_M_message_143 p l e s m args below meth c D cy A ad o q z g_store g_tAt g_tSize g_tIn g_tIns g_iAt g_iSequence g_tOutAt (xb_M_message_143 fu z g_store g_tAt g_tSize g_tIn g_tIns g_iAt g_iSequence g_tOutAt k_45) := by
  obtain ⟨hx, hb, hr, hml, hown, hts, hlocks, hK, hA, hSt, hnm, hex⟩ := id F
  intro x1 x2 x3 u0 res hf H locs ls hP hD hS hl
  unfold xb_M_message_143 at hf
  refine lv_iconst (v := 0) hx hb d_M_message_143 (by decide) ?_
  refine lv_istore (lv' := [(4, .int (0 : Int32)), (0, .ref o), (1, .int x1), (2, .int x2), (3, .int x3)]) hx hb d_M_message_144 hl (by decide) rfl (fun ls hl => ?_)
  exact w_M_message_146 F hk_45 fu _ _ _ _ _ _ hf _ _ _ hP hD hS (lv_sub hl [1, 2, 3, 4, 0] rfl)
theorem hdm_42 : ({ cls := "CoinKeeperModel", name := "count", desc := "(II)I" } : Jvm.MethodName).cls ≠ "java/lang/invoke/MethodHandle" ∧ ({ cls := "CoinKeeperModel", name := "count", desc := "(II)I" } : Jvm.MethodName).cls ≠ "java/lang/invoke/VarHandle" ∧ (parseMethodDescriptor ({ cls := "CoinKeeperModel", name := "count", desc := "(II)I" } : Jvm.MethodName).desc).map (fun d => d.parameters.length) = some 2 := by decide +kernel
set_option maxHeartbeats 8000000 in
set_option maxRecDepth 100000 in
theorem wb_M_message_45 {p : Program} {l : Launch} {e : Env} {s : State} {m : MethodId} {args : Array Value} {below : List Frame} {meth : Method} {c : Code} {D : va_G} {cy : Nat → ClassId} {A : Nat → Prop} {ad : Nat → Nat} {o : Nat} {q : Nat → Nat} {z : Nat → Int32} {g_store : Nat → Int32} {g_tAt : Nat → Int32} {g_tSize : Nat → Int32} {g_tIn : Nat → Int32} {g_tIns : Nat → Int32} {g_iAt : Nat → Int32} {g_iSequence : Nat → Int32} {g_tOutAt : Nat → Int32} {fu : Nat} {k_45 : Int32 → Int32 → Int32 → (Nat → Int32) → Option (Int32 × (Nat → Int32))} (F : Fx p s m args meth c b_M_message 6 "CoinKeeperModel" "message" (some .int) D cy ad A) (hk_45 : I_M_message_45 p l e s m args below meth c D cy A ad o q z g_store g_tAt g_tSize g_tIn g_tIns g_iAt g_iSequence g_tOutAt k_45) : I_M_message_45 p l e s m args below meth c D cy A ad o q z g_store g_tAt g_tSize g_tIn g_tIns g_iAt g_iSequence g_tOutAt (xb_M_message_45 fu z g_store g_tAt g_tSize g_tIn g_tIns g_iAt g_iSequence g_tOutAt k_45) := by
  obtain ⟨hx, hb, hr, hml, hown, hts, hlocks, hK, hA, hSt, hnm, hex⟩ := id F
  intro x1 x2 x3 u0 res hf H locs ls hP hD hS hl
  unfold xb_M_message_45 at hf
  refine lv_iload_n hx hb d_M_message_45 rfl (lv_at hl 3 rfl) ?_
  refine lv_aload_n hx hb d_M_message_46 rfl (lv_at hl 0 rfl) ?_
  refine va_get (D := D) (ci := 12) (v := .ref (q 15)) (C := "CoinKeeperModel") (T := F_12) (N := 98) hx hb hts i_12 hown hK hP 0 rfl rfl 20 (by decide) (hts _ gw_1439) (fun _ h9 => h9) rfl d_M_message_47 ?_
  refine lv_iload_n hx hb d_M_message_50 rfl (lv_at hl 1 rfl) ?_
  obtain ⟨hg, hf⟩ := gdp hf
  refine va_iald hx hb hK hP 4 1 rfl rfl (inb_in hg) d_M_message_51 ?_
  refine lv_topi (fun v1 ev => ?_)
  have hf := bn ev hf
  clear ev
  refine lv_aload_n hx hb d_M_message_52 rfl (lv_at hl 0 rfl) ?_
  refine va_get (D := D) (ci := 12) (v := .ref (q 16)) (C := "CoinKeeperModel") (T := F_12) (N := 98) hx hb hts i_12 hown hK hP 0 rfl rfl 21 (by decide) (hts _ gw_1440) (fun _ h9 => h9) rfl d_M_message_53 ?_
  refine lv_iload_n hx hb d_M_message_56 rfl (lv_at hl 1 rfl) ?_
  obtain ⟨hg, hf⟩ := gdp hf
  refine va_iald hx hb hK hP 5 1 rfl rfl (inb_in hg) d_M_message_57 ?_
  refine lv_topi (fun v2 ev => ?_)
  have hf := bn ev hf
  clear ev
  refine lv_iadd hx hb d_M_message_58 ?_
  refine lv_icmp_ge (tgt := 186) hx hb d_M_message_59 (by decide) (fun cx => ?_) (fun cx => ?_)
  · have hf := ifp cx hf
    refine lv_aload_n hx hb d_M_message_186 rfl (lv_at hl 0 rfl) ?_
    refine va_get (D := D) (ci := 12) (v := .ref (q 72)) (C := "CoinKeeperModel") (T := F_12) (N := 98) hx hb hts i_12 hown hK hP 0 rfl rfl 88 (by decide) (hts _ gw_1507) (fun _ h9 => h9) rfl d_M_message_187 ?_
    refine lv_iload_n hx hb d_M_message_190 rfl (lv_at hl 1 rfl) ?_
    obtain ⟨hg, hf⟩ := gdp hf
    refine va_iald hx hb hK hP 9 1 rfl rfl (inb_in hg) d_M_message_191 ?_
    refine lv_topi (fun v3 ev => ?_)
    have hf := bn ev hf
    clear ev
    refine lv_istore_n (lv' := [(3, .int v3), (0, .ref o), (1, .int x1), (2, .int x2)]) hx hb d_M_message_192 rfl hl (by decide) rfl (fun ls hl => ?_)
    refine lv_aload_n hx hb d_M_message_193 rfl (lv_at hl 1 rfl) ?_
    refine va_get (D := D) (ci := 12) (v := .ref (q 12)) (C := "CoinKeeperModel") (T := F_12) (N := 98) hx hb hts i_12 hown hK hP 0 rfl rfl 17 (by decide) (hts _ gw_1436) (fun _ h9 => h9) rfl d_M_message_194 ?_
    refine lv_iload_n hx hb d_M_message_197 rfl (lv_at hl 2 rfl) ?_
    obtain ⟨hg, hf⟩ := gdp hf
    refine va_iald hx hb hK hP 2 1 rfl rfl (inb_in hg) d_M_message_198 ?_
    refine lv_topi (fun v4 ev => ?_)
    have hf := bn ev hf
    clear ev
    refine lv_aload_n hx hb d_M_message_199 rfl (lv_at hl 1 rfl) ?_
    refine va_get (D := D) (ci := 12) (v := .ref (q 13)) (C := "CoinKeeperModel") (T := F_12) (N := 98) hx hb hts i_12 hown hK hP 0 rfl rfl 18 (by decide) (hts _ gw_1437) (fun _ h9 => h9) rfl d_M_message_200 ?_
    refine lv_iload_n hx hb d_M_message_203 rfl (lv_at hl 2 rfl) ?_
    obtain ⟨hg, hf⟩ := gdp hf
    refine va_iald hx hb hK hP 3 1 rfl rfl (inb_in hg) d_M_message_204 ?_
    refine lv_topi (fun v5 ev => ?_)
    have hf := bn ev hf
    clear ev
    refine lv_iadd hx hb d_M_message_205 ?_
    refine lv_topi (fun v6 ev => ?_)
    have hf := bn ev hf
    clear ev
    refine lv_iload_n hx hb d_M_message_206 rfl (lv_at hl 0 rfl) ?_
    refine lv_isub hx hb d_M_message_207 ?_
    refine lv_topi (fun v7 ev => ?_)
    have hf := bn ev hf
    clear ev
    refine lv_istore (lv' := [(4, .int v7), (3, .int v3), (0, .ref o), (1, .int x1), (2, .int x2)]) hx hb d_M_message_208 hl (by decide) rfl (fun ls hl => ?_)
    refine lv_aload_n hx hb d_M_message_210 rfl (lv_at hl 2 rfl) ?_
    refine va_get (D := D) (ci := 12) (v := .ref (q 1)) (C := "CoinKeeperModel") (T := F_12) (N := 98) hx hb hts i_12 hown hK hP 0 rfl rfl 1 (by decide) (hts _ gw_1420) (fun _ h9 => h9) rfl d_M_message_211 ?_
    refine lv_iload_n hx hb d_M_message_214 rfl (lv_at hl 1 rfl) ?_
    refine lv_aload_n hx hb d_M_message_215 rfl (lv_at hl 2 rfl) ?_
    refine va_get (D := D) (ci := 12) (v := .ref (q 71)) (C := "CoinKeeperModel") (T := F_12) (N := 98) hx hb hts i_12 hown hK hP 0 rfl rfl 87 (by decide) (hts _ gw_1506) (fun _ h9 => h9) rfl d_M_message_216 ?_
    refine lv_iload_n hx hb d_M_message_219 rfl (lv_at hl 4 rfl) ?_
    refine lv_iload hx hb d_M_message_220 (lv_at hl 0 rfl) ?_
    obtain ⟨hg, hf⟩ := gdp hf
    obtain ⟨hg2, hf⟩ := gdp hf
    refine va_copyi (rest := []) hx hb (hml.trans hl.1.symm) hown (hts _ gw_1398) (hts _ gw_497) (hts _ gw_496) (hts _ gw_17) hK hP hD hS 1 8 0 0 rfl rfl rfl rfl rfl (cpk_p hg).1 (cpk_p hg).2.1 (cpk_p hg).2.2.1 (cpk_p hg).2.2.2.1 (cpk_p hg).2.2.2.2 (bfit_p hg2) (by decide) (by decide) d_M_message_222 (fun H locs hP hD hS => ?_)
    obtain ⟨f8, ev, hf⟩ := bne hf
    have hP : va_P D classes [(o, .inr (12, mo q z)), ((q 1), .inl (cy 0, 103000, .inl g_store)), ((q 12), .inl (cy 1, 2200, .inl g_tAt)), ((q 13), .inl (cy 1, 2200, .inl g_tSize)), ((q 15), .inl (cy 1, 2200, .inl g_tIn)), ((q 16), .inl (cy 1, 2200, .inl g_tIns)), ((q 20), .inl (cy 1, 2600, .inl g_iAt)), ((q 23), .inl (cy 1, 2600, .inl g_iSequence)), ((q 71), .inl (cy 0, 100100, .inl f8)), ((q 72), .inl (cy 1, 2200, .inl g_tOutAt))] H := by rw [ev]; exact hP
    have hD : va_D A [(o, .inr (12, mo q z)), ((q 1), .inl (cy 0, 103000, .inl g_store)), ((q 12), .inl (cy 1, 2200, .inl g_tAt)), ((q 13), .inl (cy 1, 2200, .inl g_tSize)), ((q 15), .inl (cy 1, 2200, .inl g_tIn)), ((q 16), .inl (cy 1, 2200, .inl g_tIns)), ((q 20), .inl (cy 1, 2600, .inl g_iAt)), ((q 23), .inl (cy 1, 2600, .inl g_iSequence)), ((q 71), .inl (cy 0, 100100, .inl f8)), ((q 72), .inl (cy 1, 2200, .inl g_tOutAt))] := by rw [ev]; exact hD
    clear ev
    refine lv_iload_n hx hb d_M_message_225 rfl (lv_at hl 4 rfl) ?_
    refine lv_iload hx hb d_M_message_226 (lv_at hl 0 rfl) ?_
    refine lv_iadd hx hb d_M_message_228 ?_
    refine lv_topi (fun v9 ev => ?_)
    have hf := bn ev hf
    clear ev
    refine lv_istore_n (lv' := [(2, .int v9), (4, .int v7), (3, .int v3), (0, .ref o), (1, .int x1)]) hx hb d_M_message_229 rfl hl (by decide) rfl (fun ls hl => ?_)
    refine lv_iconst (v := 0) hx hb d_M_message_230 (by decide) ?_
    refine lv_istore (lv' := [(5, .int (0 : Int32)), (2, .int v9), (4, .int v7), (3, .int v3), (0, .ref o), (1, .int x1)]) hx hb d_M_message_231 hl (by decide) rfl (fun ls hl => ?_)
    exact w_M_message_233 F fu _ _ _ _ hf _ _ _ hP hD hS (lv_sub hl [4, 1, 0] rfl)
  · have hf := ifn cx hf
    refine lv_aload_n hx hb d_M_message_62 rfl (lv_at hl 0 rfl) ?_
    refine va_get (D := D) (ci := 12) (v := .ref (q 1)) (C := "CoinKeeperModel") (T := F_12) (N := 98) hx hb hts i_12 hown hK hP 0 rfl rfl 1 (by decide) (hts _ gw_1420) (fun _ h9 => h9) rfl d_M_message_63 ?_
    refine lv_aload_n hx hb d_M_message_66 rfl (lv_at hl 0 rfl) ?_
    refine va_get (D := D) (ci := 12) (v := .ref (q 20)) (C := "CoinKeeperModel") (T := F_12) (N := 98) hx hb hts i_12 hown hK hP 0 rfl rfl 26 (by decide) (hts _ gw_1445) (fun _ h9 => h9) rfl d_M_message_67 ?_
    refine lv_iload_n hx hb d_M_message_70 rfl (lv_at hl 3 rfl) ?_
    obtain ⟨hg, hf⟩ := gdp hf
    refine va_iald hx hb hK hP 6 1 rfl rfl (inb_in hg) d_M_message_71 ?_
    refine lv_topi (fun v10 ev => ?_)
    have hf := bn ev hf
    clear ev
    refine lv_aload_n hx hb d_M_message_72 rfl (lv_at hl 0 rfl) ?_
    refine va_get (D := D) (ci := 12) (v := .ref (q 71)) (C := "CoinKeeperModel") (T := F_12) (N := 98) hx hb hts i_12 hown hK hP 0 rfl rfl 87 (by decide) (hts _ gw_1506) (fun _ h9 => h9) rfl d_M_message_73 ?_
    refine lv_iload_n hx hb d_M_message_76 rfl (lv_at hl 2 rfl) ?_
    refine lv_bipush (v := 36) hx hb d_M_message_77 (by decide) ?_
    obtain ⟨hg, hf⟩ := gdp hf
    obtain ⟨hg2, hf⟩ := gdp hf
    refine va_copyi (rest := []) hx hb (hml.trans hl.1.symm) hown (hts _ gw_1398) (hts _ gw_497) (hts _ gw_496) (hts _ gw_17) hK hP hD hS 1 8 0 0 rfl rfl rfl rfl rfl (cpk_p hg).1 (cpk_p hg).2.1 (cpk_p hg).2.2.1 (cpk_p hg).2.2.2.1 (cpk_p hg).2.2.2.2 (bfit_p hg2) (by decide) (by decide) d_M_message_79 (fun H locs hP hD hS => ?_)
    obtain ⟨f11, ev, hf⟩ := bne hf
    have hP : va_P D classes [(o, .inr (12, mo q z)), ((q 1), .inl (cy 0, 103000, .inl g_store)), ((q 12), .inl (cy 1, 2200, .inl g_tAt)), ((q 13), .inl (cy 1, 2200, .inl g_tSize)), ((q 15), .inl (cy 1, 2200, .inl g_tIn)), ((q 16), .inl (cy 1, 2200, .inl g_tIns)), ((q 20), .inl (cy 1, 2600, .inl g_iAt)), ((q 23), .inl (cy 1, 2600, .inl g_iSequence)), ((q 71), .inl (cy 0, 100100, .inl f11)), ((q 72), .inl (cy 1, 2200, .inl g_tOutAt))] H := by rw [ev]; exact hP
    have hD : va_D A [(o, .inr (12, mo q z)), ((q 1), .inl (cy 0, 103000, .inl g_store)), ((q 12), .inl (cy 1, 2200, .inl g_tAt)), ((q 13), .inl (cy 1, 2200, .inl g_tSize)), ((q 15), .inl (cy 1, 2200, .inl g_tIn)), ((q 16), .inl (cy 1, 2200, .inl g_tIns)), ((q 20), .inl (cy 1, 2600, .inl g_iAt)), ((q 23), .inl (cy 1, 2600, .inl g_iSequence)), ((q 71), .inl (cy 0, 100100, .inl f11)), ((q 72), .inl (cy 1, 2200, .inl g_tOutAt))] := by rw [ev]; exact hD
    clear ev
    obtain ⟨v12, ev, hf⟩ := bne hf
    refine lv_iinc (v := v12) (lv' := [(2, .int v12), (0, .ref o), (1, .int x1), (3, .int x3)]) hx hb d_M_message_82 hl (k := 2) rfl (by rw [ev]; rfl) (by decide) rfl (fun ls hl => ?_)
    clear ev
    refine lv_iload_n hx hb d_M_message_85 rfl (lv_at hl 3 rfl) ?_
    refine lv_aload_n hx hb d_M_message_86 rfl (lv_at hl 1 rfl) ?_
    refine va_get (D := D) (ci := 12) (v := .int (z 12)) (C := "CoinKeeperModel") (T := F_12) (N := 98) hx hb hts i_12 hown hK hP 0 rfl rfl 83 (by decide) (hts _ gw_1502) (fun _ h9 => h9) rfl d_M_message_87 ?_
    refine lv_icmp_ne (tgt := 133) hx hb d_M_message_90 (by decide) (fun cx => ?_) (fun cx => ?_)
    · have hf := ifn cx hf
      refine lv_aload_n hx hb d_M_message_133 rfl (lv_at hl 1 rfl) ?_
      refine va_get (D := D) (ci := 12) (v := .ref (q 71)) (C := "CoinKeeperModel") (T := F_12) (N := 98) hx hb hts i_12 hown hK hP 0 rfl rfl 87 (by decide) (hts _ gw_1506) (fun _ h9 => h9) rfl d_M_message_134 ?_
      refine lv_iload_n hx hb d_M_message_137 rfl (lv_at hl 0 rfl) ?_
      obtain ⟨v13, ev, hf⟩ := bne hf
      refine lv_iinc (v := v13) (lv' := [(2, .int v13), (0, .ref o), (1, .int x1), (3, .int x3)]) hx hb d_M_message_138 hl (k := 0) rfl (by rw [ev]; rfl) (by decide) rfl (fun ls hl => ?_)
      clear ev
      refine lv_iconst (v := 0) hx hb d_M_message_141 (by decide) ?_
      obtain ⟨hg, hf⟩ := gdp hf
      refine va_bast hx hb hK hP hD hS 8 0 rfl rfl (inb_in hg) d_M_message_142 (fun H locs hP hD hS => ?_)
      obtain ⟨f14, ev, hf⟩ := bne hf
      have hP : va_P D classes [(o, .inr (12, mo q z)), ((q 1), .inl (cy 0, 103000, .inl g_store)), ((q 12), .inl (cy 1, 2200, .inl g_tAt)), ((q 13), .inl (cy 1, 2200, .inl g_tSize)), ((q 15), .inl (cy 1, 2200, .inl g_tIn)), ((q 16), .inl (cy 1, 2200, .inl g_tIns)), ((q 20), .inl (cy 1, 2600, .inl g_iAt)), ((q 23), .inl (cy 1, 2600, .inl g_iSequence)), ((q 71), .inl (cy 0, 100100, .inl f14)), ((q 72), .inl (cy 1, 2200, .inl g_tOutAt))] H := by rw [ev]; exact hP
      have hD : va_D A [(o, .inr (12, mo q z)), ((q 1), .inl (cy 0, 103000, .inl g_store)), ((q 12), .inl (cy 1, 2200, .inl g_tAt)), ((q 13), .inl (cy 1, 2200, .inl g_tSize)), ((q 15), .inl (cy 1, 2200, .inl g_tIn)), ((q 16), .inl (cy 1, 2200, .inl g_tIns)), ((q 20), .inl (cy 1, 2600, .inl g_iAt)), ((q 23), .inl (cy 1, 2600, .inl g_iSequence)), ((q 71), .inl (cy 0, 100100, .inl f14)), ((q 72), .inl (cy 1, 2200, .inl g_tOutAt))] := by rw [ev]; exact hD
      clear ev
      exact wb_M_message_143 (fu := fu) F hk_45 _ _ _ _ _ hf _ _ _ hP hD hS (lv_sub hl [1, 2, 0, 3] rfl)
    · have hf := ifp cx hf
      refine lv_aload_n hx hb d_M_message_93 rfl (lv_at hl 1 rfl) ?_
      refine lv_iload_n hx hb d_M_message_94 rfl (lv_at hl 0 rfl) ?_
      refine lv_aload_n hx hb d_M_message_95 rfl (lv_at hl 1 rfl) ?_
      refine va_get (D := D) (ci := 12) (v := .int (z 15)) (C := "CoinKeeperModel") (T := F_12) (N := 98) hx hb hts i_12 hown hK hP 0 rfl rfl 86 (by decide) (hts _ gw_1505) (fun _ h9 => h9) rfl d_M_message_96 ?_
      obtain ⟨v15, f16, hc, hf⟩ := bdp2 hf
      refine q_ai (wr := [((q 1), .inl (cy 0, 103000, .inl g_store)), ((q 12), .inl (cy 1, 2200, .inl g_tAt)), ((q 13), .inl (cy 1, 2200, .inl g_tSize)), ((q 15), .inl (cy 1, 2200, .inl g_tIn)), ((q 16), .inl (cy 1, 2200, .inl g_tIns)), ((q 20), .inl (cy 1, 2600, .inl g_iAt)), ((q 23), .inl (cy 1, 2600, .inl g_iSequence)), ((q 72), .inl (cy 1, 2200, .inl g_tOutAt))]) (va_runV (C := "CoinKeeperModel") (As := [.int v12, .int (z 15)]) (rest := []) ⟨hx, hb, hml, hown, hts⟩ (c_M_count1 l D cy ad fu o q z v12 (z 15) f11 _ hc H.size) ⟨q_cB hts gw_1962 gw_18 gw_1959 hdm_42 ⟨by decide, by decide⟩, hts _ gw_1961, hts _ gs_109⟩ (q_preV (q_pre (hP.sub [0, 8] rfl) (hD.sub [0, 8] (by decide) rfl) hK hSt hS (va_free hD hS hA [0, 8] rfl) _) (va_recv hK (hP.sub [0, 8] rfl) (ci := 12) (q0 := 0) rfl rfl)) rfl rfl hl.1 rfl (lv_room (Nat.le_of_ble_eq_true rfl)) d_M_message_99 ⟨Nat.le_of_ble_eq_true rfl, Nat.le_of_ble_eq_true rfl⟩) hP hD hS hA [0, 8] [1, 2, 3, 4, 5, 6, 7, 9] rfl rfl (by decide) (by decide) (fun H locs hP hD hS => ?_)
      clear hc
      have hP : va_P D classes [((q 1), .inl (cy 0, 103000, .inl g_store)), ((q 12), .inl (cy 1, 2200, .inl g_tAt)), ((q 13), .inl (cy 1, 2200, .inl g_tSize)), ((q 15), .inl (cy 1, 2200, .inl g_tIn)), ((q 16), .inl (cy 1, 2200, .inl g_tIns)), ((q 20), .inl (cy 1, 2600, .inl g_iAt)), ((q 23), .inl (cy 1, 2600, .inl g_iSequence)), ((q 72), .inl (cy 1, 2200, .inl g_tOutAt)), (o, .inr (12, mo q z)), ((q 71), .inl (cy 0, 100100, .inl f16))] H := hP
      have hD : va_D A [((q 1), .inl (cy 0, 103000, .inl g_store)), ((q 12), .inl (cy 1, 2200, .inl g_tAt)), ((q 13), .inl (cy 1, 2200, .inl g_tSize)), ((q 15), .inl (cy 1, 2200, .inl g_tIn)), ((q 16), .inl (cy 1, 2200, .inl g_tIns)), ((q 20), .inl (cy 1, 2600, .inl g_iAt)), ((q 23), .inl (cy 1, 2600, .inl g_iSequence)), ((q 72), .inl (cy 1, 2200, .inl g_tOutAt)), (o, .inr (12, mo q z)), ((q 71), .inl (cy 0, 100100, .inl f16))] := hD
      refine lv_istore_n (lv' := [(2, .int v15), (0, .ref o), (1, .int x1), (3, .int x3)]) hx hb d_M_message_102 rfl hl (by decide) rfl (fun ls hl => ?_)
      refine lv_aload_n hx hb d_M_message_103 rfl (lv_at hl 1 rfl) ?_
      refine va_get (D := D) (ci := 12) (v := .ref (q 1)) (C := "CoinKeeperModel") (T := F_12) (N := 98) hx hb hts i_12 hown hK hP 8 rfl rfl 1 (by decide) (hts _ gw_1420) (fun _ h9 => h9) rfl d_M_message_104 ?_
      refine lv_aload_n hx hb d_M_message_107 rfl (lv_at hl 1 rfl) ?_
      refine va_get (D := D) (ci := 12) (v := .int (z 14)) (C := "CoinKeeperModel") (T := F_12) (N := 98) hx hb hts i_12 hown hK hP 8 rfl rfl 85 (by decide) (hts _ gw_1504) (fun _ h9 => h9) rfl d_M_message_108 ?_
      refine lv_aload_n hx hb d_M_message_111 rfl (lv_at hl 1 rfl) ?_
      refine va_get (D := D) (ci := 12) (v := .ref (q 71)) (C := "CoinKeeperModel") (T := F_12) (N := 98) hx hb hts i_12 hown hK hP 8 rfl rfl 87 (by decide) (hts _ gw_1506) (fun _ h9 => h9) rfl d_M_message_112 ?_
      refine lv_iload_n hx hb d_M_message_115 rfl (lv_at hl 0 rfl) ?_
      refine lv_aload_n hx hb d_M_message_116 rfl (lv_at hl 1 rfl) ?_
      refine va_get (D := D) (ci := 12) (v := .int (z 15)) (C := "CoinKeeperModel") (T := F_12) (N := 98) hx hb hts i_12 hown hK hP 8 rfl rfl 86 (by decide) (hts _ gw_1505) (fun _ h9 => h9) rfl d_M_message_117 ?_
      obtain ⟨hg, hf⟩ := gdp hf
      obtain ⟨hg2, hf⟩ := gdp hf
      refine va_copyi (rest := []) hx hb (hml.trans hl.1.symm) hown (hts _ gw_1398) (hts _ gw_497) (hts _ gw_496) (hts _ gw_17) hK hP hD hS 0 9 0 0 rfl rfl rfl rfl rfl (cpk_p hg).1 (cpk_p hg).2.1 (cpk_p hg).2.2.1 (cpk_p hg).2.2.2.1 (cpk_p hg).2.2.2.2 (bfit_p hg2) (by decide) (by decide) d_M_message_120 (fun H locs hP hD hS => ?_)
      obtain ⟨f17, ev, hf⟩ := bne hf
      have hP : va_P D classes [((q 1), .inl (cy 0, 103000, .inl g_store)), ((q 12), .inl (cy 1, 2200, .inl g_tAt)), ((q 13), .inl (cy 1, 2200, .inl g_tSize)), ((q 15), .inl (cy 1, 2200, .inl g_tIn)), ((q 16), .inl (cy 1, 2200, .inl g_tIns)), ((q 20), .inl (cy 1, 2600, .inl g_iAt)), ((q 23), .inl (cy 1, 2600, .inl g_iSequence)), ((q 72), .inl (cy 1, 2200, .inl g_tOutAt)), (o, .inr (12, mo q z)), ((q 71), .inl (cy 0, 100100, .inl f17))] H := by rw [ev]; exact hP
      have hD : va_D A [((q 1), .inl (cy 0, 103000, .inl g_store)), ((q 12), .inl (cy 1, 2200, .inl g_tAt)), ((q 13), .inl (cy 1, 2200, .inl g_tSize)), ((q 15), .inl (cy 1, 2200, .inl g_tIn)), ((q 16), .inl (cy 1, 2200, .inl g_tIns)), ((q 20), .inl (cy 1, 2600, .inl g_iAt)), ((q 23), .inl (cy 1, 2600, .inl g_iSequence)), ((q 72), .inl (cy 1, 2200, .inl g_tOutAt)), (o, .inr (12, mo q z)), ((q 71), .inl (cy 0, 100100, .inl f17))] := by rw [ev]; exact hD
      clear ev
      refine lv_iload_n hx hb d_M_message_123 rfl (lv_at hl 0 rfl) ?_
      refine lv_aload_n hx hb d_M_message_124 rfl (lv_at hl 1 rfl) ?_
      refine va_get (D := D) (ci := 12) (v := .int (z 15)) (C := "CoinKeeperModel") (T := F_12) (N := 98) hx hb hts i_12 hown hK hP 8 rfl rfl 86 (by decide) (hts _ gw_1505) (fun _ h9 => h9) rfl d_M_message_125 ?_
      refine lv_iadd hx hb d_M_message_128 ?_
      refine lv_topi (fun v18 ev => ?_)
      have hf := bn ev hf
      clear ev
      refine lv_istore_n (lv' := [(2, .int v18), (0, .ref o), (1, .int x1), (3, .int x3)]) hx hb d_M_message_129 rfl hl (by decide) rfl (fun ls hl => ?_)
      refine lv_goto (tgt := 143) hx hb d_M_message_130 (by decide) ?_
      exact wb_M_message_143 (fu := fu) F hk_45 _ _ _ _ _ hf _ _ _ (hP.sub (ws' := [(o, .inr (12, mo q z)), ((q 1), .inl (cy 0, 103000, .inl g_store)), ((q 12), .inl (cy 1, 2200, .inl g_tAt)), ((q 13), .inl (cy 1, 2200, .inl g_tSize)), ((q 15), .inl (cy 1, 2200, .inl g_tIn)), ((q 16), .inl (cy 1, 2200, .inl g_tIns)), ((q 20), .inl (cy 1, 2600, .inl g_iAt)), ((q 23), .inl (cy 1, 2600, .inl g_iSequence)), ((q 71), .inl (cy 0, 100100, .inl f17)), ((q 72), .inl (cy 1, 2200, .inl g_tOutAt))]) [8, 0, 1, 2, 3, 4, 5, 6, 9, 7] rfl) (hD.sub (ws' := [(o, .inr (12, mo q z)), ((q 1), .inl (cy 0, 103000, .inl g_store)), ((q 12), .inl (cy 1, 2200, .inl g_tAt)), ((q 13), .inl (cy 1, 2200, .inl g_tSize)), ((q 15), .inl (cy 1, 2200, .inl g_tIn)), ((q 16), .inl (cy 1, 2200, .inl g_tIns)), ((q 20), .inl (cy 1, 2600, .inl g_iAt)), ((q 23), .inl (cy 1, 2600, .inl g_iSequence)), ((q 71), .inl (cy 0, 100100, .inl f17)), ((q 72), .inl (cy 1, 2200, .inl g_tOutAt))]) [8, 0, 1, 2, 3, 4, 5, 6, 9, 7] (by decide) rfl) hS (lv_sub hl [1, 2, 0, 3] rfl)
theorem w_M_message_45 {p : Program} {l : Launch} {e : Env} {s : State} {m : MethodId} {args : Array Value} {below : List Frame} {meth : Method} {c : Code} {D : va_G} {cy : Nat → ClassId} {A : Nat → Prop} {ad : Nat → Nat} {o : Nat} {q : Nat → Nat} {z : Nat → Int32} {g_store : Nat → Int32} {g_tAt : Nat → Int32} {g_tSize : Nat → Int32} {g_tIn : Nat → Int32} {g_tIns : Nat → Int32} {g_iAt : Nat → Int32} {g_iSequence : Nat → Int32} {g_tOutAt : Nat → Int32} {fu : Nat} (F : Fx p s m args meth c b_M_message 6 "CoinKeeperModel" "message" (some .int) D cy ad A) : ∀ n : Nat, I_M_message_45 p l e s m args below meth c D cy A ad o q z g_store g_tAt g_tSize g_tIn g_tIns g_iAt g_iSequence g_tOutAt (x_M_message_45 fu z g_store g_tAt g_tSize g_tIn g_tIns g_iAt g_iSequence g_tOutAt n)
  | 0 => fun _ _ _ _ _ hf => nomatch (show (none : Option (Int32 × (Nat → Int32))) = some _ from hf)
  | n + 1 => wb_M_message_45 F (w_M_message_45 F n)
set_option maxHeartbeats 8000000 in
set_option maxRecDepth 100000 in
theorem we_M_message {p : Program} {l : Launch} {e : Env} {s : State} {m : MethodId} {args : Array Value} {below : List Frame} {meth : Method} {c : Code} {D : va_G} {cy : Nat → ClassId} {A : Nat → Prop} {ad : Nat → Nat} {o : Nat} {q : Nat → Nat} {z : Nat → Int32} {g_store : Nat → Int32} {g_tAt : Nat → Int32} {g_tSize : Nat → Int32} {g_tIn : Nat → Int32} {g_tIns : Nat → Int32} {g_iAt : Nat → Int32} {g_iSequence : Nat → Int32} {g_tOutAt : Nat → Int32} {fu : Nat} (F : Fx p s m args meth c b_M_message 6 "CoinKeeperModel" "message" (some .int) D cy ad A) : I_M_message_e p l e s m args below meth c D cy A ad o q z g_store g_tAt g_tSize g_tIn g_tIns g_iAt g_iSequence g_tOutAt (x_M_message fu z g_store g_tAt g_tSize g_tIn g_tIns g_iAt g_iSequence g_tOutAt) := by
  obtain ⟨hx, hb, hr, hml, hown, hts, hlocks, hK, hA, hSt, hnm, hex⟩ := id F
  intro u0 res hf H locs ls hP hD hS hl
  unfold x_M_message at hf
  refine lv_aload_n hx hb d_M_message_0 rfl (lv_at hl 0 rfl) ?_
  refine va_get (D := D) (ci := 12) (v := .int (z 13)) (C := "CoinKeeperModel") (T := F_12) (N := 98) hx hb hts i_12 hown hK hP 0 rfl rfl 84 (by decide) (hts _ gw_1503) (fun _ h9 => h9) rfl d_M_message_1 ?_
  refine lv_istore_n (lv' := [(1, .int (z 13)), (0, .ref o)]) hx hb d_M_message_4 rfl hl (by decide) rfl (fun ls hl => ?_)
  refine lv_iconst (v := 4) hx hb d_M_message_5 (by decide) ?_
  refine lv_istore_n (lv' := [(2, .int (4 : Int32)), (1, .int (z 13)), (0, .ref o)]) hx hb d_M_message_6 rfl hl (by decide) rfl (fun ls hl => ?_)
  refine lv_aload_n hx hb d_M_message_7 rfl (lv_at hl 2 rfl) ?_
  refine va_get (D := D) (ci := 12) (v := .ref (q 1)) (C := "CoinKeeperModel") (T := F_12) (N := 98) hx hb hts i_12 hown hK hP 0 rfl rfl 1 (by decide) (hts _ gw_1420) (fun _ h9 => h9) rfl d_M_message_8 ?_
  refine lv_aload_n hx hb d_M_message_11 rfl (lv_at hl 2 rfl) ?_
  refine va_get (D := D) (ci := 12) (v := .ref (q 12)) (C := "CoinKeeperModel") (T := F_12) (N := 98) hx hb hts i_12 hown hK hP 0 rfl rfl 17 (by decide) (hts _ gw_1436) (fun _ h9 => h9) rfl d_M_message_12 ?_
  refine lv_iload_n hx hb d_M_message_15 rfl (lv_at hl 1 rfl) ?_
  obtain ⟨hg, hf⟩ := gdp hf
  refine va_iald hx hb hK hP 2 1 rfl rfl (inb_in hg) d_M_message_16 ?_
  refine lv_topi (fun v1 ev => ?_)
  have hf := bn ev hf
  clear ev
  refine lv_aload_n hx hb d_M_message_17 rfl (lv_at hl 2 rfl) ?_
  refine va_get (D := D) (ci := 12) (v := .ref (q 71)) (C := "CoinKeeperModel") (T := F_12) (N := 98) hx hb hts i_12 hown hK hP 0 rfl rfl 87 (by decide) (hts _ gw_1506) (fun _ h9 => h9) rfl d_M_message_18 ?_
  refine lv_iconst (v := 0) hx hb d_M_message_21 (by decide) ?_
  refine lv_iconst (v := 4) hx hb d_M_message_22 (by decide) ?_
  obtain ⟨hg, hf⟩ := gdp hf
  obtain ⟨hg2, hf⟩ := gdp hf
  refine va_copyi (rest := []) hx hb (hml.trans hl.1.symm) hown (hts _ gw_1398) (hts _ gw_497) (hts _ gw_496) (hts _ gw_17) hK hP hD hS 1 8 0 0 rfl rfl rfl rfl rfl (cpk_p hg).1 (cpk_p hg).2.1 (cpk_p hg).2.2.1 (cpk_p hg).2.2.2.1 (cpk_p hg).2.2.2.2 (bfit_p hg2) (by decide) (by decide) d_M_message_23 (fun H locs hP hD hS => ?_)
  obtain ⟨f2, ev, hf⟩ := bne hf
  have hP : va_P D classes [(o, .inr (12, mo q z)), ((q 1), .inl (cy 0, 103000, .inl g_store)), ((q 12), .inl (cy 1, 2200, .inl g_tAt)), ((q 13), .inl (cy 1, 2200, .inl g_tSize)), ((q 15), .inl (cy 1, 2200, .inl g_tIn)), ((q 16), .inl (cy 1, 2200, .inl g_tIns)), ((q 20), .inl (cy 1, 2600, .inl g_iAt)), ((q 23), .inl (cy 1, 2600, .inl g_iSequence)), ((q 71), .inl (cy 0, 100100, .inl f2)), ((q 72), .inl (cy 1, 2200, .inl g_tOutAt))] H := by rw [ev]; exact hP
  have hD : va_D A [(o, .inr (12, mo q z)), ((q 1), .inl (cy 0, 103000, .inl g_store)), ((q 12), .inl (cy 1, 2200, .inl g_tAt)), ((q 13), .inl (cy 1, 2200, .inl g_tSize)), ((q 15), .inl (cy 1, 2200, .inl g_tIn)), ((q 16), .inl (cy 1, 2200, .inl g_tIns)), ((q 20), .inl (cy 1, 2600, .inl g_iAt)), ((q 23), .inl (cy 1, 2600, .inl g_iSequence)), ((q 71), .inl (cy 0, 100100, .inl f2)), ((q 72), .inl (cy 1, 2200, .inl g_tOutAt))] := by rw [ev]; exact hD
  clear ev
  refine lv_aload_n hx hb d_M_message_26 rfl (lv_at hl 2 rfl) ?_
  refine lv_iload_n hx hb d_M_message_27 rfl (lv_at hl 0 rfl) ?_
  refine lv_aload_n hx hb d_M_message_28 rfl (lv_at hl 2 rfl) ?_
  refine va_get (D := D) (ci := 12) (v := .ref (q 16)) (C := "CoinKeeperModel") (T := F_12) (N := 98) hx hb hts i_12 hown hK hP 0 rfl rfl 21 (by decide) (hts _ gw_1440) (fun _ h9 => h9) rfl d_M_message_29 ?_
  refine lv_iload_n hx hb d_M_message_32 rfl (lv_at hl 1 rfl) ?_
  obtain ⟨hg, hf⟩ := gdp hf
  refine va_iald hx hb hK hP 5 1 rfl rfl (inb_in hg) d_M_message_33 ?_
  refine lv_topi (fun v3 ev => ?_)
  have hf := bn ev hf
  clear ev
  obtain ⟨v4, f5, hc, hf⟩ := bdp2 hf
  refine q_ai (wr := [((q 1), .inl (cy 0, 103000, .inl g_store)), ((q 12), .inl (cy 1, 2200, .inl g_tAt)), ((q 13), .inl (cy 1, 2200, .inl g_tSize)), ((q 15), .inl (cy 1, 2200, .inl g_tIn)), ((q 16), .inl (cy 1, 2200, .inl g_tIns)), ((q 20), .inl (cy 1, 2600, .inl g_iAt)), ((q 23), .inl (cy 1, 2600, .inl g_iSequence)), ((q 72), .inl (cy 1, 2200, .inl g_tOutAt))]) (va_runV (C := "CoinKeeperModel") (As := [.int (4 : Int32), .int v3]) (rest := []) ⟨hx, hb, hml, hown, hts⟩ (c_M_count1 l D cy ad fu o q z (4 : Int32) v3 f2 _ hc H.size) ⟨q_cB hts gw_1962 gw_18 gw_1959 hdm_42 ⟨by decide, by decide⟩, hts _ gw_1961, hts _ gs_109⟩ (q_preV (q_pre (hP.sub [0, 8] rfl) (hD.sub [0, 8] (by decide) rfl) hK hSt hS (va_free hD hS hA [0, 8] rfl) _) (va_recv hK (hP.sub [0, 8] rfl) (ci := 12) (q0 := 0) rfl rfl)) rfl rfl hl.1 rfl (lv_room (Nat.le_of_ble_eq_true rfl)) d_M_message_34 ⟨Nat.le_of_ble_eq_true rfl, Nat.le_of_ble_eq_true rfl⟩) hP hD hS hA [0, 8] [1, 2, 3, 4, 5, 6, 7, 9] rfl rfl (by decide) (by decide) (fun H locs hP hD hS => ?_)
  clear hc
  have hP : va_P D classes [((q 1), .inl (cy 0, 103000, .inl g_store)), ((q 12), .inl (cy 1, 2200, .inl g_tAt)), ((q 13), .inl (cy 1, 2200, .inl g_tSize)), ((q 15), .inl (cy 1, 2200, .inl g_tIn)), ((q 16), .inl (cy 1, 2200, .inl g_tIns)), ((q 20), .inl (cy 1, 2600, .inl g_iAt)), ((q 23), .inl (cy 1, 2600, .inl g_iSequence)), ((q 72), .inl (cy 1, 2200, .inl g_tOutAt)), (o, .inr (12, mo q z)), ((q 71), .inl (cy 0, 100100, .inl f5))] H := hP
  have hD : va_D A [((q 1), .inl (cy 0, 103000, .inl g_store)), ((q 12), .inl (cy 1, 2200, .inl g_tAt)), ((q 13), .inl (cy 1, 2200, .inl g_tSize)), ((q 15), .inl (cy 1, 2200, .inl g_tIn)), ((q 16), .inl (cy 1, 2200, .inl g_tIns)), ((q 20), .inl (cy 1, 2600, .inl g_iAt)), ((q 23), .inl (cy 1, 2600, .inl g_iSequence)), ((q 72), .inl (cy 1, 2200, .inl g_tOutAt)), (o, .inr (12, mo q z)), ((q 71), .inl (cy 0, 100100, .inl f5))] := hD
  refine lv_istore_n (lv' := [(2, .int v4), (1, .int (z 13)), (0, .ref o)]) hx hb d_M_message_37 rfl hl (by decide) rfl (fun ls hl => ?_)
  refine lv_aload_n hx hb d_M_message_38 rfl (lv_at hl 2 rfl) ?_
  refine va_get (D := D) (ci := 12) (v := .ref (q 15)) (C := "CoinKeeperModel") (T := F_12) (N := 98) hx hb hts i_12 hown hK hP 8 rfl rfl 20 (by decide) (hts _ gw_1439) (fun _ h9 => h9) rfl d_M_message_39 ?_
  refine lv_iload_n hx hb d_M_message_42 rfl (lv_at hl 1 rfl) ?_
  obtain ⟨hg, hf⟩ := gdp hf
  refine va_iald hx hb hK hP 3 1 rfl rfl (inb_in hg) d_M_message_43 ?_
  refine lv_topi (fun v6 ev => ?_)
  have hf := bn ev hf
  clear ev
  refine lv_istore_n (lv' := [(3, .int v6), (2, .int v4), (1, .int (z 13)), (0, .ref o)]) hx hb d_M_message_44 rfl hl (by decide) rfl (fun ls hl => ?_)
  exact w_M_message_45 F fu _ _ _ _ _ hf _ _ _ (hP.sub (ws' := [(o, .inr (12, mo q z)), ((q 1), .inl (cy 0, 103000, .inl g_store)), ((q 12), .inl (cy 1, 2200, .inl g_tAt)), ((q 13), .inl (cy 1, 2200, .inl g_tSize)), ((q 15), .inl (cy 1, 2200, .inl g_tIn)), ((q 16), .inl (cy 1, 2200, .inl g_tIns)), ((q 20), .inl (cy 1, 2600, .inl g_iAt)), ((q 23), .inl (cy 1, 2600, .inl g_iSequence)), ((q 71), .inl (cy 0, 100100, .inl f5)), ((q 72), .inl (cy 1, 2200, .inl g_tOutAt))]) [8, 0, 1, 2, 3, 4, 5, 6, 9, 7] rfl) (hD.sub (ws' := [(o, .inr (12, mo q z)), ((q 1), .inl (cy 0, 103000, .inl g_store)), ((q 12), .inl (cy 1, 2200, .inl g_tAt)), ((q 13), .inl (cy 1, 2200, .inl g_tSize)), ((q 15), .inl (cy 1, 2200, .inl g_tIn)), ((q 16), .inl (cy 1, 2200, .inl g_tIns)), ((q 20), .inl (cy 1, 2600, .inl g_iAt)), ((q 23), .inl (cy 1, 2600, .inl g_iSequence)), ((q 71), .inl (cy 0, 100100, .inl f5)), ((q 72), .inl (cy 1, 2200, .inl g_tOutAt))]) [8, 0, 1, 2, 3, 4, 5, 6, 9, 7] (by decide) rfl) hS (lv_sub hl [3, 2, 1, 0] rfl)
theorem c_M_message (l : Launch) (D : va_G) (cy : Nat → ClassId) (ad : Nat → Nat) (fu : Nat) (o : Nat) (q : Nat → Nat) (z : Nat → Int32) (g_store : Nat → Int32) (g_tAt : Nat → Int32) (g_tSize : Nat → Int32) (g_tIn : Nat → Int32) (g_tIns : Nat → Int32) (g_iAt : Nat → Int32) (g_iSequence : Nat → Int32) (g_tOutAt : Nat → Int32) (u0 : Nat → Int32) (res : Int32 × (Nat → Int32)) (hf : x_M_message fu z g_store g_tAt g_tSize g_tIn g_tIns g_iAt g_iSequence g_tOutAt u0 = some res) (sz : Nat) : Met l ({ cls := "CoinKeeperModel", name := "message", desc := "()I" } : Jvm.MethodName) (.code ({ cls := "CoinKeeperModel", name := "message", desc := "()I" } : Jvm.MethodName) b_M_message 6 (some .int) :: gw) rm_M_message (va_Pc [.ref o] (Pr D cy ad [(o, .inr (12, mo q z)), ((q 1), .inl (cy 0, 103000, .inl g_store)), ((q 12), .inl (cy 1, 2200, .inl g_tAt)), ((q 13), .inl (cy 1, 2200, .inl g_tSize)), ((q 15), .inl (cy 1, 2200, .inl g_tIn)), ((q 16), .inl (cy 1, 2200, .inl g_tIns)), ((q 20), .inl (cy 1, 2600, .inl g_iAt)), ((q 23), .inl (cy 1, 2600, .inl g_iSequence)), ((q 71), .inl (cy 0, 100100, .inl u0)), ((q 72), .inl (cy 1, 2200, .inl g_tOutAt))] sz)) (q_M_message D cy (va_A [(o, .inr (12, mo q z)), ((q 1), .inl (cy 0, 103000, .inl g_store)), ((q 12), .inl (cy 1, 2200, .inl g_tAt)), ((q 13), .inl (cy 1, 2200, .inl g_tSize)), ((q 15), .inl (cy 1, 2200, .inl g_tIn)), ((q 16), .inl (cy 1, 2200, .inl g_tIns)), ((q 20), .inl (cy 1, 2600, .inl g_iAt)), ((q 23), .inl (cy 1, 2600, .inl g_iSequence)), ((q 71), .inl (cy 0, 100100, .inl u0)), ((q 72), .inl (cy 1, 2200, .inl g_tOutAt))] sz) o q z g_store g_tAt g_tSize g_tIn g_tIns g_iAt g_iSequence g_tOutAt res) 0 0 (va_A [(o, .inr (12, mo q z)), ((q 1), .inl (cy 0, 103000, .inl g_store)), ((q 12), .inl (cy 1, 2200, .inl g_tAt)), ((q 13), .inl (cy 1, 2200, .inl g_tSize)), ((q 15), .inl (cy 1, 2200, .inl g_tIn)), ((q 16), .inl (cy 1, 2200, .inl g_tIns)), ((q 20), .inl (cy 1, 2600, .inl g_iAt)), ((q 23), .inl (cy 1, 2600, .inl g_iSequence)), ((q 71), .inl (cy 0, 100100, .inl u0)), ((q 72), .inl (cy 1, 2200, .inl g_tOutAt))] sz) :=
  q_met (Qc := fun A => q_M_message D cy A o q z g_store g_tAt g_tSize g_tIn g_tIns g_iAt g_iSequence g_tOutAt res) (by decide) rfl rfl (Nat.le_of_ble_eq_true rfl) (fun p e s m below meth c ls F hP hD hS hl => we_M_message (fu := fu) F u0 res hf _ _ _ hP hD hS hl) sz
abbrev b_M_isSig : ByteArray := prog_14_method_55_code
theorem d_M_isSig_0 : decode b_M_isSig 0 = .ok (.aload_n 0, 1) := by decide +kernel
theorem d_M_isSig_1 : decode b_M_isSig 1 = .ok (.getfield 513, 3) := by decide +kernel
theorem d_M_isSig_4 : decode b_M_isSig 4 = .ok (.ifCond .ge 5, 3) := by decide +kernel
theorem d_M_isSig_7 : decode b_M_isSig 7 = .ok (.iconst 0, 1) := by decide +kernel
theorem d_M_isSig_8 : decode b_M_isSig 8 = .ok (.ireturn, 1) := by decide +kernel
theorem d_M_isSig_9 : decode b_M_isSig 9 = .ok (.aload_n 0, 1) := by decide +kernel
theorem d_M_isSig_10 : decode b_M_isSig 10 = .ok (.getfield 224, 3) := by decide +kernel
theorem d_M_isSig_13 : decode b_M_isSig 13 = .ok (.iload_n 2, 1) := by decide +kernel
theorem d_M_isSig_14 : decode b_M_isSig 14 = .ok (.iaload, 1) := by decide +kernel
theorem d_M_isSig_15 : decode b_M_isSig 15 = .ok (.istore_n 3, 1) := by decide +kernel
theorem d_M_isSig_16 : decode b_M_isSig 16 = .ok (.iload_n 3, 1) := by decide +kernel
theorem d_M_isSig_17 : decode b_M_isSig 17 = .ok (.ifCond .eq 21, 3) := by decide +kernel
theorem d_M_isSig_20 : decode b_M_isSig 20 = .ok (.aload_n 0, 1) := by decide +kernel
theorem d_M_isSig_21 : decode b_M_isSig 21 = .ok (.getfield 221, 3) := by decide +kernel
theorem d_M_isSig_24 : decode b_M_isSig 24 = .ok (.sipush 256, 3) := by decide +kernel
theorem d_M_isSig_27 : decode b_M_isSig 27 = .ok (.iload_n 2, 1) := by decide +kernel
theorem d_M_isSig_28 : decode b_M_isSig 28 = .ok (.imul, 1) := by decide +kernel
theorem d_M_isSig_29 : decode b_M_isSig 29 = .ok (.iload_n 3, 1) := by decide +kernel
theorem d_M_isSig_30 : decode b_M_isSig 30 = .ok (.iadd, 1) := by decide +kernel
theorem d_M_isSig_31 : decode b_M_isSig 31 = .ok (.iconst 1, 1) := by decide +kernel
theorem d_M_isSig_32 : decode b_M_isSig 32 = .ok (.isub, 1) := by decide +kernel
theorem d_M_isSig_33 : decode b_M_isSig 33 = .ok (.baload, 1) := by decide +kernel
theorem d_M_isSig_34 : decode b_M_isSig 34 = .ok (.iconst 1, 1) := by decide +kernel
theorem d_M_isSig_35 : decode b_M_isSig 35 = .ok (.if_icmp .eq 5, 3) := by decide +kernel
theorem d_M_isSig_38 : decode b_M_isSig 38 = .ok (.iconst 0, 1) := by decide +kernel
theorem d_M_isSig_39 : decode b_M_isSig 39 = .ok (.ireturn, 1) := by decide +kernel
theorem d_M_isSig_40 : decode b_M_isSig 40 = .ok (.aload_n 0, 1) := by decide +kernel
theorem d_M_isSig_41 : decode b_M_isSig 41 = .ok (.aload_n 0, 1) := by decide +kernel
theorem d_M_isSig_42 : decode b_M_isSig 42 = .ok (.getfield 231, 3) := by decide +kernel
theorem d_M_isSig_45 : decode b_M_isSig 45 = .ok (.iconst 0, 1) := by decide +kernel
theorem d_M_isSig_46 : decode b_M_isSig 46 = .ok (.aload_n 0, 1) := by decide +kernel
theorem d_M_isSig_47 : decode b_M_isSig 47 = .ok (.invokevirtual 516, 3) := by decide +kernel
theorem d_M_isSig_50 : decode b_M_isSig 50 = .ok (.invokevirtual 519, 3) := by decide +kernel
theorem d_M_isSig_53 : decode b_M_isSig 53 = .ok (.aload_n 0, 1) := by decide +kernel
theorem d_M_isSig_54 : decode b_M_isSig 54 = .ok (.aload_n 0, 1) := by decide +kernel
theorem d_M_isSig_55 : decode b_M_isSig 55 = .ok (.getfield 221, 3) := by decide +kernel
theorem d_M_isSig_58 : decode b_M_isSig 58 = .ok (.sipush 256, 3) := by decide +kernel
theorem d_M_isSig_61 : decode b_M_isSig 61 = .ok (.iload_n 1, 1) := by decide +kernel
theorem d_M_isSig_62 : decode b_M_isSig 62 = .ok (.imul, 1) := by decide +kernel
theorem d_M_isSig_63 : decode b_M_isSig 63 = .ok (.aload_n 0, 1) := by decide +kernel
theorem d_M_isSig_64 : decode b_M_isSig 64 = .ok (.getfield 224, 3) := by decide +kernel
theorem d_M_isSig_67 : decode b_M_isSig 67 = .ok (.iload_n 1, 1) := by decide +kernel
theorem d_M_isSig_68 : decode b_M_isSig 68 = .ok (.iaload, 1) := by decide +kernel
theorem d_M_isSig_69 : decode b_M_isSig 69 = .ok (.aload_n 0, 1) := by decide +kernel
theorem d_M_isSig_70 : decode b_M_isSig 70 = .ok (.getfield 221, 3) := by decide +kernel
theorem d_M_isSig_73 : decode b_M_isSig 73 = .ok (.sipush 256, 3) := by decide +kernel
theorem d_M_isSig_76 : decode b_M_isSig 76 = .ok (.iload_n 2, 1) := by decide +kernel
theorem d_M_isSig_77 : decode b_M_isSig 77 = .ok (.imul, 1) := by decide +kernel
theorem d_M_isSig_78 : decode b_M_isSig 78 = .ok (.iload_n 3, 1) := by decide +kernel
theorem d_M_isSig_79 : decode b_M_isSig 79 = .ok (.invokevirtual 522, 3) := by decide +kernel
theorem d_M_isSig_82 : decode b_M_isSig 82 = .ok (.ireturn, 1) := by decide +kernel
abbrev rm_M_isSig : Room := { frames := 7, cells := 0, slots := 0, locals := 168 }
abbrev q_M_isSig (D : va_G) (cy : Nat → ClassId) (A : Nat → Prop) (o : Nat) (q : Nat → Nat) (g_store : Nat → Int32) (g_tAt : Nat → Int32) (g_tSize : Nat → Int32) (g_tIn : Nat → Int32) (g_tIns : Nat → Int32) (g_iAt : Nat → Int32) (g_iSequence : Nat → Int32) (g_one : Nat → Int32) (g_thing : Nat → Int32) (g_size : Nat → Int32) (g_tOutAt : Nat → Int32) (res : Int32 × (Nat → Int32) × (Nat → Int32) × (Nat → Int32) × (Nat → Int32) × (Nat → Int32) × (Nat → Int32) × (Nat → Int32) × (Nat → Int32) × (Nat → Int32) × (Nat → Int32) × (Nat → Int32) × (Nat → Int32) × (Nat → Int32) × (Nat → Int32) × (Nat → Int32) × (Nat → Int32) × (Nat → Int32) × (Nat → Int32) × (Nat → Int32) × (Nat → Int32) × (Nat → Int32) × (Nat → Int32) × (Nat → Int32) × (Nat → Int32) × (Nat → Int32) × (Nat → Int32) × (Nat → Int32)) : Array Value → State → Outcome → State → Prop := va_Qi (fun r' (_ : Unit) => r' = res.1) (fun _ t => Po D cy A [(o, .inr (12, mo q res.2.1)), ((q 1), .inl (cy 0, 103000, .inl g_store)), ((q 12), .inl (cy 1, 2200, .inl g_tAt)), ((q 13), .inl (cy 1, 2200, .inl g_tSize)), ((q 15), .inl (cy 1, 2200, .inl g_tIn)), ((q 16), .inl (cy 1, 2200, .inl g_tIns)), ((q 20), .inl (cy 1, 2600, .inl g_iAt)), ((q 23), .inl (cy 1, 2600, .inl g_iSequence)), ((q 34), .inl (cy 1, 8, .inl res.2.2.1)), ((q 35), .inl (cy 1, 64, .inl res.2.2.2.1)), ((q 36), .inl (cy 0, 32, .inl res.2.2.2.2.1)), ((q 37), .inl (cy 0, 100200, .inl res.2.2.2.2.2.1)), ((q 39), .inl (cy 1, 8, .inl g_one)), ((q 41), .inl (cy 1, 8, .inl res.2.2.2.2.2.2.1)), ((q 48), .inl (cy 1, 8, .inl res.2.2.2.2.2.2.2.1)), ((q 49), .inl (cy 1, 8, .inl res.2.2.2.2.2.2.2.2.1)), ((q 50), .inl (cy 1, 16, .inl res.2.2.2.2.2.2.2.2.2.1)), ((q 51), .inl (cy 1, 8, .inl res.2.2.2.2.2.2.2.2.2.2.1)), ((q 52), .inl (cy 1, 8, .inl res.2.2.2.2.2.2.2.2.2.2.2.1)), ((q 53), .inl (cy 1, 8, .inl res.2.2.2.2.2.2.2.2.2.2.2.2.1)), ((q 54), .inl (cy 1, 8, .inl res.2.2.2.2.2.2.2.2.2.2.2.2.2.1)), ((q 55), .inl (cy 1, 8, .inl res.2.2.2.2.2.2.2.2.2.2.2.2.2.2.1)), ((q 56), .inl (cy 1, 8, .inl res.2.2.2.2.2.2.2.2.2.2.2.2.2.2.2.1)), ((q 57), .inl (cy 1, 8, .inl res.2.2.2.2.2.2.2.2.2.2.2.2.2.2.2.2.1)), ((q 58), .inl (cy 1, 8, .inl res.2.2.2.2.2.2.2.2.2.2.2.2.2.2.2.2.2.1)), ((q 59), .inl (cy 1, 8, .inl res.2.2.2.2.2.2.2.2.2.2.2.2.2.2.2.2.2.2.1)), ((q 60), .inl (cy 1, 8, .inl res.2.2.2.2.2.2.2.2.2.2.2.2.2.2.2.2.2.2.2.1)), ((q 61), .inl (cy 1, 8, .inl res.2.2.2.2.2.2.2.2.2.2.2.2.2.2.2.2.2.2.2.2.1)), ((q 62), .inl (cy 1, 8, .inl res.2.2.2.2.2.2.2.2.2.2.2.2.2.2.2.2.2.2.2.2.2.1)), ((q 63), .inl (cy 1, 8, .inl res.2.2.2.2.2.2.2.2.2.2.2.2.2.2.2.2.2.2.2.2.2.2.1)), ((q 64), .inl (cy 1, 8, .inl res.2.2.2.2.2.2.2.2.2.2.2.2.2.2.2.2.2.2.2.2.2.2.2.1)), ((q 65), .inl (cy 1, 8, .inl res.2.2.2.2.2.2.2.2.2.2.2.2.2.2.2.2.2.2.2.2.2.2.2.2.1)), ((q 66), .inl (cy 1, 8, .inl res.2.2.2.2.2.2.2.2.2.2.2.2.2.2.2.2.2.2.2.2.2.2.2.2.2.1)), ((q 67), .inl (cy 1, 8, .inl res.2.2.2.2.2.2.2.2.2.2.2.2.2.2.2.2.2.2.2.2.2.2.2.2.2.2.1)), ((q 68), .inl (cy 0, 104448, .inl g_thing)), ((q 69), .inl (cy 1, 408, .inl g_size)), ((q 71), .inl (cy 0, 100100, .inl res.2.2.2.2.2.2.2.2.2.2.2.2.2.2.2.2.2.2.2.2.2.2.2.2.2.2.2)), ((q 72), .inl (cy 1, 2200, .inl g_tOutAt))] t) A
def I_M_isSig_e (p : Program) (l : Launch) (e : Env) (s : State) (m : MethodId) (args : Array Value) (below : List Frame) (meth : Method) (c : Code) (D : va_G) (cy : Nat → ClassId) (A : Nat → Prop) (ad : Nat → Nat) (o : Nat) (q : Nat → Nat) (g_store : Nat → Int32) (g_tAt : Nat → Int32) (g_tSize : Nat → Int32) (g_tIn : Nat → Int32) (g_tIns : Nat → Int32) (g_iAt : Nat → Int32) (g_iSequence : Nat → Int32) (g_one : Nat → Int32) (g_thing : Nat → Int32) (g_size : Nat → Int32) (g_tOutAt : Nat → Int32) (k : Int32 → Int32 → (Nat → Int32) → (Nat → Int32) → (Nat → Int32) → (Nat → Int32) → (Nat → Int32) → (Nat → Int32) → (Nat → Int32) → (Nat → Int32) → (Nat → Int32) → (Nat → Int32) → (Nat → Int32) → (Nat → Int32) → (Nat → Int32) → (Nat → Int32) → (Nat → Int32) → (Nat → Int32) → (Nat → Int32) → (Nat → Int32) → (Nat → Int32) → (Nat → Int32) → (Nat → Int32) → (Nat → Int32) → (Nat → Int32) → (Nat → Int32) → (Nat → Int32) → (Nat → Int32) → (Nat → Int32) → Option (Int32 × (Nat → Int32) × (Nat → Int32) × (Nat → Int32) × (Nat → Int32) × (Nat → Int32) × (Nat → Int32) × (Nat → Int32) × (Nat → Int32) × (Nat → Int32) × (Nat → Int32) × (Nat → Int32) × (Nat → Int32) × (Nat → Int32) × (Nat → Int32) × (Nat → Int32) × (Nat → Int32) × (Nat → Int32) × (Nat → Int32) × (Nat → Int32) × (Nat → Int32) × (Nat → Int32) × (Nat → Int32) × (Nat → Int32) × (Nat → Int32) × (Nat → Int32) × (Nat → Int32) × (Nat → Int32))) : Prop :=
  ∀ (a1 : Int32) (a2 : Int32) (u0 : Nat → Int32) (u1 : Nat → Int32) (u2 : Nat → Int32) (u3 : Nat → Int32) (u4 : Nat → Int32) (u5 : Nat → Int32) (u6 : Nat → Int32) (u7 : Nat → Int32) (u8 : Nat → Int32) (u9 : Nat → Int32) (u10 : Nat → Int32) (u11 : Nat → Int32) (u12 : Nat → Int32) (u13 : Nat → Int32) (u14 : Nat → Int32) (u15 : Nat → Int32) (u16 : Nat → Int32) (u17 : Nat → Int32) (u18 : Nat → Int32) (u19 : Nat → Int32) (u20 : Nat → Int32) (u21 : Nat → Int32) (u22 : Nat → Int32) (u23 : Nat → Int32) (u24 : Nat → Int32) (u25 : Nat → Int32) (u26 : Nat → Int32) (res : Int32 × (Nat → Int32) × (Nat → Int32) × (Nat → Int32) × (Nat → Int32) × (Nat → Int32) × (Nat → Int32) × (Nat → Int32) × (Nat → Int32) × (Nat → Int32) × (Nat → Int32) × (Nat → Int32) × (Nat → Int32) × (Nat → Int32) × (Nat → Int32) × (Nat → Int32) × (Nat → Int32) × (Nat → Int32) × (Nat → Int32) × (Nat → Int32) × (Nat → Int32) × (Nat → Int32) × (Nat → Int32) × (Nat → Int32) × (Nat → Int32) × (Nat → Int32) × (Nat → Int32) × (Nat → Int32)), k a1 a2 u0 u1 u2 u3 u4 u5 u6 u7 u8 u9 u10 u11 u12 u13 u14 u15 u16 u17 u18 u19 u20 u21 u22 u23 u24 u25 u26 = some res → ∀ (H : Heap) (locs : List Loc) (ls : Array Slot), va_P D classes [(o, .inr (12, mo q u0)), ((q 1), .inl (cy 0, 103000, .inl g_store)), ((q 12), .inl (cy 1, 2200, .inl g_tAt)), ((q 13), .inl (cy 1, 2200, .inl g_tSize)), ((q 15), .inl (cy 1, 2200, .inl g_tIn)), ((q 16), .inl (cy 1, 2200, .inl g_tIns)), ((q 20), .inl (cy 1, 2600, .inl g_iAt)), ((q 23), .inl (cy 1, 2600, .inl g_iSequence)), ((q 34), .inl (cy 1, 8, .inl u1)), ((q 35), .inl (cy 1, 64, .inl u2)), ((q 36), .inl (cy 0, 32, .inl u3)), ((q 37), .inl (cy 0, 100200, .inl u4)), ((q 39), .inl (cy 1, 8, .inl g_one)), ((q 41), .inl (cy 1, 8, .inl u5)), ((q 48), .inl (cy 1, 8, .inl u6)), ((q 49), .inl (cy 1, 8, .inl u7)), ((q 50), .inl (cy 1, 16, .inl u8)), ((q 51), .inl (cy 1, 8, .inl u9)), ((q 52), .inl (cy 1, 8, .inl u10)), ((q 53), .inl (cy 1, 8, .inl u11)), ((q 54), .inl (cy 1, 8, .inl u12)), ((q 55), .inl (cy 1, 8, .inl u13)), ((q 56), .inl (cy 1, 8, .inl u14)), ((q 57), .inl (cy 1, 8, .inl u15)), ((q 58), .inl (cy 1, 8, .inl u16)), ((q 59), .inl (cy 1, 8, .inl u17)), ((q 60), .inl (cy 1, 8, .inl u18)), ((q 61), .inl (cy 1, 8, .inl u19)), ((q 62), .inl (cy 1, 8, .inl u20)), ((q 63), .inl (cy 1, 8, .inl u21)), ((q 64), .inl (cy 1, 8, .inl u22)), ((q 65), .inl (cy 1, 8, .inl u23)), ((q 66), .inl (cy 1, 8, .inl u24)), ((q 67), .inl (cy 1, 8, .inl u25)), ((q 68), .inl (cy 0, 104448, .inl g_thing)), ((q 69), .inl (cy 1, 408, .inl g_size)), ((q 71), .inl (cy 0, 100100, .inl u26)), ((q 72), .inl (cy 1, 2200, .inl g_tOutAt))] H → va_D A [(o, .inr (12, mo q u0)), ((q 1), .inl (cy 0, 103000, .inl g_store)), ((q 12), .inl (cy 1, 2200, .inl g_tAt)), ((q 13), .inl (cy 1, 2200, .inl g_tSize)), ((q 15), .inl (cy 1, 2200, .inl g_tIn)), ((q 16), .inl (cy 1, 2200, .inl g_tIns)), ((q 20), .inl (cy 1, 2600, .inl g_iAt)), ((q 23), .inl (cy 1, 2600, .inl g_iSequence)), ((q 34), .inl (cy 1, 8, .inl u1)), ((q 35), .inl (cy 1, 64, .inl u2)), ((q 36), .inl (cy 0, 32, .inl u3)), ((q 37), .inl (cy 0, 100200, .inl u4)), ((q 39), .inl (cy 1, 8, .inl g_one)), ((q 41), .inl (cy 1, 8, .inl u5)), ((q 48), .inl (cy 1, 8, .inl u6)), ((q 49), .inl (cy 1, 8, .inl u7)), ((q 50), .inl (cy 1, 16, .inl u8)), ((q 51), .inl (cy 1, 8, .inl u9)), ((q 52), .inl (cy 1, 8, .inl u10)), ((q 53), .inl (cy 1, 8, .inl u11)), ((q 54), .inl (cy 1, 8, .inl u12)), ((q 55), .inl (cy 1, 8, .inl u13)), ((q 56), .inl (cy 1, 8, .inl u14)), ((q 57), .inl (cy 1, 8, .inl u15)), ((q 58), .inl (cy 1, 8, .inl u16)), ((q 59), .inl (cy 1, 8, .inl u17)), ((q 60), .inl (cy 1, 8, .inl u18)), ((q 61), .inl (cy 1, 8, .inl u19)), ((q 62), .inl (cy 1, 8, .inl u20)), ((q 63), .inl (cy 1, 8, .inl u21)), ((q 64), .inl (cy 1, 8, .inl u22)), ((q 65), .inl (cy 1, 8, .inl u23)), ((q 66), .inl (cy 1, 8, .inl u24)), ((q 67), .inl (cy 1, 8, .inl u25)), ((q 68), .inl (cy 0, 104448, .inl g_thing)), ((q 69), .inl (cy 1, 408, .inl g_size)), ((q 71), .inl (cy 0, 100100, .inl u26)), ((q 72), .inl (cy 1, 2200, .inl g_tOutAt))] → va_S A s.heap H locs → lv_has ls 4 [(0, .ref o), (1, .int a1), (2, .int a2)] → W p l e rm_M_isSig s m args below meth c H locs 0 0 (MQ below (q_M_isSig D cy A o q g_store g_tAt g_tSize g_tIn g_tIns g_iAt g_iSequence g_one g_thing g_size g_tOutAt res) args s 0 0 A) (F0 m 0 ls [])
theorem hdm_43 : ({ cls := "CoinKeeperModel", name := "message", desc := "()I" } : Jvm.MethodName).cls ≠ "java/lang/invoke/MethodHandle" ∧ ({ cls := "CoinKeeperModel", name := "message", desc := "()I" } : Jvm.MethodName).cls ≠ "java/lang/invoke/VarHandle" ∧ (parseMethodDescriptor ({ cls := "CoinKeeperModel", name := "message", desc := "()I" } : Jvm.MethodName).desc).map (fun d => d.parameters.length) = some 0 := by decide +kernel
set_option maxHeartbeats 8000000 in
set_option maxRecDepth 100000 in
theorem we_M_isSig {p : Program} {l : Launch} {e : Env} {s : State} {m : MethodId} {args : Array Value} {below : List Frame} {meth : Method} {c : Code} {D : va_G} {cy : Nat → ClassId} {A : Nat → Prop} {ad : Nat → Nat} {o : Nat} {q : Nat → Nat} {g_store : Nat → Int32} {g_tAt : Nat → Int32} {g_tSize : Nat → Int32} {g_tIn : Nat → Int32} {g_tIns : Nat → Int32} {g_iAt : Nat → Int32} {g_iSequence : Nat → Int32} {g_one : Nat → Int32} {g_thing : Nat → Int32} {g_size : Nat → Int32} {g_tOutAt : Nat → Int32} {fu : Nat} (F : Fx p s m args meth c b_M_isSig 4 "CoinKeeperModel" "isSig" (some .boolean) D cy ad A) : I_M_isSig_e p l e s m args below meth c D cy A ad o q g_store g_tAt g_tSize g_tIn g_tIns g_iAt g_iSequence g_one g_thing g_size g_tOutAt (x_M_isSig fu g_store g_tAt g_tSize g_tIn g_tIns g_iAt g_iSequence g_one g_thing g_size g_tOutAt) := by
  obtain ⟨hx, hb, hr, hml, hown, hts, hlocks, hK, hA, hSt, hnm, hex⟩ := id F
  intro a1 a2 u0 u1 u2 u3 u4 u5 u6 u7 u8 u9 u10 u11 u12 u13 u14 u15 u16 u17 u18 u19 u20 u21 u22 u23 u24 u25 u26 res hf H locs ls hP hD hS hl
  unfold x_M_isSig at hf
  refine lv_aload_n hx hb d_M_isSig_0 rfl (lv_at hl 0 rfl) ?_
  refine va_get (D := D) (ci := 12) (v := .int (u0 12)) (C := "CoinKeeperModel") (T := F_12) (N := 98) hx hb hts i_12 hown hK hP 0 rfl rfl 83 (by decide) (hts _ gw_1502) (fun _ h9 => h9) rfl d_M_isSig_1 ?_
  refine lv_if_ge (tgt := 9) hx hb d_M_isSig_4 (by decide) (fun cx => ?_) (fun cx => ?_)
  · have hf := ifp cx hf
    refine lv_aload_n hx hb d_M_isSig_9 rfl (lv_at hl 0 rfl) ?_
    refine va_get (D := D) (ci := 12) (v := .ref (q 69)) (C := "CoinKeeperModel") (T := F_12) (N := 98) hx hb hts i_12 hown hK hP 0 rfl rfl 78 (by decide) (hts _ gw_1497) (fun _ h9 => h9) rfl d_M_isSig_10 ?_
    refine lv_iload_n hx hb d_M_isSig_13 rfl (lv_at hl 2 rfl) ?_
    obtain ⟨hg, hf⟩ := gdp hf
    refine va_iald hx hb hK hP 35 1 rfl rfl (inb_in hg) d_M_isSig_14 ?_
    refine lv_topi (fun v1 ev => ?_)
    have hf := bn ev hf
    clear ev
    refine lv_istore_n (lv' := [(3, .int v1), (0, .ref o), (1, .int a1), (2, .int a2)]) hx hb d_M_isSig_15 rfl hl (by decide) rfl (fun ls hl => ?_)
    refine lv_iload_n hx hb d_M_isSig_16 rfl (lv_at hl 0 rfl) ?_
    refine lv_if_eq (tgt := 38) hx hb d_M_isSig_17 (by decide) (fun cx => ?_) (fun cx => ?_)
    · have hf := ifp cx hf
      refine lv_iconst (v := 0) hx hb d_M_isSig_38 (by decide) ?_
      obtain rfl := Option.some.inj hf
      exact q_rz hx hb hr hlocks hK hP hD hS (isb_n (v := 0) (by decide)) d_M_isSig_39
    · have hf := ifn cx hf
      refine lv_aload_n hx hb d_M_isSig_20 rfl (lv_at hl 1 rfl) ?_
      refine va_get (D := D) (ci := 12) (v := .ref (q 68)) (C := "CoinKeeperModel") (T := F_12) (N := 98) hx hb hts i_12 hown hK hP 0 rfl rfl 77 (by decide) (hts _ gw_1496) (fun _ h9 => h9) rfl d_M_isSig_21 ?_
      refine lv_sipush (v := 256) hx hb d_M_isSig_24 (by decide) ?_
      refine lv_iload_n hx hb d_M_isSig_27 rfl (lv_at hl 3 rfl) ?_
      refine lv_imul hx hb d_M_isSig_28 ?_
      refine lv_topi (fun v2 ev => ?_)
      have hf := bn ev hf
      clear ev
      refine lv_iload_n hx hb d_M_isSig_29 rfl (lv_at hl 0 rfl) ?_
      refine lv_iadd hx hb d_M_isSig_30 ?_
      refine lv_topi (fun v3 ev => ?_)
      have hf := bn ev hf
      clear ev
      refine lv_iconst (v := 1) hx hb d_M_isSig_31 (by decide) ?_
      refine lv_isub hx hb d_M_isSig_32 ?_
      refine lv_topi (fun v4 ev => ?_)
      have hf := bn ev hf
      clear ev
      obtain ⟨hg, hf⟩ := gdp hf
      refine va_bald hx hb hK hP 34 0 rfl rfl (inb_in hg) d_M_isSig_33 ?_
      refine lv_topi (fun v5 ev => ?_)
      have hf := bn ev hf
      clear ev
      refine lv_iconst (v := 1) hx hb d_M_isSig_34 (by decide) ?_
      refine lv_icmp_eq (tgt := 40) hx hb d_M_isSig_35 (by decide) (fun cx => ?_) (fun cx => ?_)
      · have hf := ifp cx hf
        refine lv_aload_n hx hb d_M_isSig_40 rfl (lv_at hl 1 rfl) ?_
        refine lv_aload_n hx hb d_M_isSig_41 rfl (lv_at hl 1 rfl) ?_
        refine va_get (D := D) (ci := 12) (v := .ref (q 71)) (C := "CoinKeeperModel") (T := F_12) (N := 98) hx hb hts i_12 hown hK hP 0 rfl rfl 87 (by decide) (hts _ gw_1506) (fun _ h9 => h9) rfl d_M_isSig_42 ?_
        refine lv_iconst (v := 0) hx hb d_M_isSig_45 (by decide) ?_
        refine lv_aload_n hx hb d_M_isSig_46 rfl (lv_at hl 1 rfl) ?_
        obtain ⟨v6, f7, hc, hf⟩ := bdp2 hf
        refine q_ai (wr := [((q 34), .inl (cy 1, 8, .inl u1)), ((q 35), .inl (cy 1, 64, .inl u2)), ((q 36), .inl (cy 0, 32, .inl u3)), ((q 37), .inl (cy 0, 100200, .inl u4)), ((q 39), .inl (cy 1, 8, .inl g_one)), ((q 41), .inl (cy 1, 8, .inl u5)), ((q 48), .inl (cy 1, 8, .inl u6)), ((q 49), .inl (cy 1, 8, .inl u7)), ((q 50), .inl (cy 1, 16, .inl u8)), ((q 51), .inl (cy 1, 8, .inl u9)), ((q 52), .inl (cy 1, 8, .inl u10)), ((q 53), .inl (cy 1, 8, .inl u11)), ((q 54), .inl (cy 1, 8, .inl u12)), ((q 55), .inl (cy 1, 8, .inl u13)), ((q 56), .inl (cy 1, 8, .inl u14)), ((q 57), .inl (cy 1, 8, .inl u15)), ((q 58), .inl (cy 1, 8, .inl u16)), ((q 59), .inl (cy 1, 8, .inl u17)), ((q 60), .inl (cy 1, 8, .inl u18)), ((q 61), .inl (cy 1, 8, .inl u19)), ((q 62), .inl (cy 1, 8, .inl u20)), ((q 63), .inl (cy 1, 8, .inl u21)), ((q 64), .inl (cy 1, 8, .inl u22)), ((q 65), .inl (cy 1, 8, .inl u23)), ((q 66), .inl (cy 1, 8, .inl u24)), ((q 67), .inl (cy 1, 8, .inl u25)), ((q 68), .inl (cy 0, 104448, .inl g_thing)), ((q 69), .inl (cy 1, 408, .inl g_size))]) (va_runV (C := "CoinKeeperModel") (As := []) (rest := [.int (0 : Int32), .ref (q 71), .ref o]) ⟨hx, hb, hml, hown, hts⟩ (c_M_message l D cy ad fu o q u0 g_store g_tAt g_tSize g_tIn g_tIns g_iAt g_iSequence g_tOutAt u26 _ hc H.size) ⟨q_cB hts gw_1958 gw_18 gw_1955 hdm_43 ⟨by decide, by decide⟩, hts _ gw_1957, hts _ gs_108⟩ (q_preV (q_pre (hP.sub [0, 1, 2, 3, 4, 5, 6, 7, 36, 37] rfl) (hD.sub [0, 1, 2, 3, 4, 5, 6, 7, 36, 37] (by decide) rfl) hK hSt hS (va_free hD hS hA [0, 1, 2, 3, 4, 5, 6, 7, 36, 37] rfl) _) (va_recv hK (hP.sub [0, 1, 2, 3, 4, 5, 6, 7, 36, 37] rfl) (ci := 12) (q0 := 0) rfl rfl)) rfl rfl hl.1 rfl (lv_room (Nat.le_of_ble_eq_true rfl)) d_M_isSig_47 ⟨Nat.le_of_ble_eq_true rfl, Nat.le_of_ble_eq_true rfl⟩) hP hD hS hA [0, 1, 2, 3, 4, 5, 6, 7, 36, 37] [8, 9, 10, 11, 12, 13, 14, 15, 16, 17, 18, 19, 20, 21, 22, 23, 24, 25, 26, 27, 28, 29, 30, 31, 32, 33, 34, 35] rfl rfl (by decide) (by decide) (fun H locs hP hD hS => ?_)
        clear hc
        have hP : va_P D classes [((q 34), .inl (cy 1, 8, .inl u1)), ((q 35), .inl (cy 1, 64, .inl u2)), ((q 36), .inl (cy 0, 32, .inl u3)), ((q 37), .inl (cy 0, 100200, .inl u4)), ((q 39), .inl (cy 1, 8, .inl g_one)), ((q 41), .inl (cy 1, 8, .inl u5)), ((q 48), .inl (cy 1, 8, .inl u6)), ((q 49), .inl (cy 1, 8, .inl u7)), ((q 50), .inl (cy 1, 16, .inl u8)), ((q 51), .inl (cy 1, 8, .inl u9)), ((q 52), .inl (cy 1, 8, .inl u10)), ((q 53), .inl (cy 1, 8, .inl u11)), ((q 54), .inl (cy 1, 8, .inl u12)), ((q 55), .inl (cy 1, 8, .inl u13)), ((q 56), .inl (cy 1, 8, .inl u14)), ((q 57), .inl (cy 1, 8, .inl u15)), ((q 58), .inl (cy 1, 8, .inl u16)), ((q 59), .inl (cy 1, 8, .inl u17)), ((q 60), .inl (cy 1, 8, .inl u18)), ((q 61), .inl (cy 1, 8, .inl u19)), ((q 62), .inl (cy 1, 8, .inl u20)), ((q 63), .inl (cy 1, 8, .inl u21)), ((q 64), .inl (cy 1, 8, .inl u22)), ((q 65), .inl (cy 1, 8, .inl u23)), ((q 66), .inl (cy 1, 8, .inl u24)), ((q 67), .inl (cy 1, 8, .inl u25)), ((q 68), .inl (cy 0, 104448, .inl g_thing)), ((q 69), .inl (cy 1, 408, .inl g_size)), (o, .inr (12, mo q u0)), ((q 1), .inl (cy 0, 103000, .inl g_store)), ((q 12), .inl (cy 1, 2200, .inl g_tAt)), ((q 13), .inl (cy 1, 2200, .inl g_tSize)), ((q 15), .inl (cy 1, 2200, .inl g_tIn)), ((q 16), .inl (cy 1, 2200, .inl g_tIns)), ((q 20), .inl (cy 1, 2600, .inl g_iAt)), ((q 23), .inl (cy 1, 2600, .inl g_iSequence)), ((q 71), .inl (cy 0, 100100, .inl f7)), ((q 72), .inl (cy 1, 2200, .inl g_tOutAt))] H := hP
        have hD : va_D A [((q 34), .inl (cy 1, 8, .inl u1)), ((q 35), .inl (cy 1, 64, .inl u2)), ((q 36), .inl (cy 0, 32, .inl u3)), ((q 37), .inl (cy 0, 100200, .inl u4)), ((q 39), .inl (cy 1, 8, .inl g_one)), ((q 41), .inl (cy 1, 8, .inl u5)), ((q 48), .inl (cy 1, 8, .inl u6)), ((q 49), .inl (cy 1, 8, .inl u7)), ((q 50), .inl (cy 1, 16, .inl u8)), ((q 51), .inl (cy 1, 8, .inl u9)), ((q 52), .inl (cy 1, 8, .inl u10)), ((q 53), .inl (cy 1, 8, .inl u11)), ((q 54), .inl (cy 1, 8, .inl u12)), ((q 55), .inl (cy 1, 8, .inl u13)), ((q 56), .inl (cy 1, 8, .inl u14)), ((q 57), .inl (cy 1, 8, .inl u15)), ((q 58), .inl (cy 1, 8, .inl u16)), ((q 59), .inl (cy 1, 8, .inl u17)), ((q 60), .inl (cy 1, 8, .inl u18)), ((q 61), .inl (cy 1, 8, .inl u19)), ((q 62), .inl (cy 1, 8, .inl u20)), ((q 63), .inl (cy 1, 8, .inl u21)), ((q 64), .inl (cy 1, 8, .inl u22)), ((q 65), .inl (cy 1, 8, .inl u23)), ((q 66), .inl (cy 1, 8, .inl u24)), ((q 67), .inl (cy 1, 8, .inl u25)), ((q 68), .inl (cy 0, 104448, .inl g_thing)), ((q 69), .inl (cy 1, 408, .inl g_size)), (o, .inr (12, mo q u0)), ((q 1), .inl (cy 0, 103000, .inl g_store)), ((q 12), .inl (cy 1, 2200, .inl g_tAt)), ((q 13), .inl (cy 1, 2200, .inl g_tSize)), ((q 15), .inl (cy 1, 2200, .inl g_tIn)), ((q 16), .inl (cy 1, 2200, .inl g_tIns)), ((q 20), .inl (cy 1, 2600, .inl g_iAt)), ((q 23), .inl (cy 1, 2600, .inl g_iSequence)), ((q 71), .inl (cy 0, 100100, .inl f7)), ((q 72), .inl (cy 1, 2200, .inl g_tOutAt))] := hD
        obtain ⟨f8, f9, f10, f11, hc, hf⟩ := bdp4 hf
        refine q_av (wr := [((q 39), .inl (cy 1, 8, .inl g_one)), ((q 41), .inl (cy 1, 8, .inl u5)), ((q 48), .inl (cy 1, 8, .inl u6)), ((q 49), .inl (cy 1, 8, .inl u7)), ((q 50), .inl (cy 1, 16, .inl u8)), ((q 51), .inl (cy 1, 8, .inl u9)), ((q 52), .inl (cy 1, 8, .inl u10)), ((q 53), .inl (cy 1, 8, .inl u11)), ((q 54), .inl (cy 1, 8, .inl u12)), ((q 55), .inl (cy 1, 8, .inl u13)), ((q 56), .inl (cy 1, 8, .inl u14)), ((q 57), .inl (cy 1, 8, .inl u15)), ((q 58), .inl (cy 1, 8, .inl u16)), ((q 59), .inl (cy 1, 8, .inl u17)), ((q 60), .inl (cy 1, 8, .inl u18)), ((q 61), .inl (cy 1, 8, .inl u19)), ((q 62), .inl (cy 1, 8, .inl u20)), ((q 63), .inl (cy 1, 8, .inl u21)), ((q 64), .inl (cy 1, 8, .inl u22)), ((q 65), .inl (cy 1, 8, .inl u23)), ((q 66), .inl (cy 1, 8, .inl u24)), ((q 67), .inl (cy 1, 8, .inl u25)), ((q 68), .inl (cy 0, 104448, .inl g_thing)), ((q 69), .inl (cy 1, 408, .inl g_size)), ((q 1), .inl (cy 0, 103000, .inl g_store)), ((q 12), .inl (cy 1, 2200, .inl g_tAt)), ((q 13), .inl (cy 1, 2200, .inl g_tSize)), ((q 15), .inl (cy 1, 2200, .inl g_tIn)), ((q 16), .inl (cy 1, 2200, .inl g_tIns)), ((q 20), .inl (cy 1, 2600, .inl g_iAt)), ((q 23), .inl (cy 1, 2600, .inl g_iSequence)), ((q 72), .inl (cy 1, 2200, .inl g_tOutAt))]) (va_runV (C := "CoinKeeperModel") (As := [.ref (q 71), .int (0 : Int32), .int v6]) (rest := []) ⟨hx, hb, hml, hown, hts⟩ (c_M_twice l D cy ad fu o q (q 71) u0 100100 f7 (0 : Int32) v6 u1 u2 u3 u4 _ hc H.size) ⟨q_cB hts gw_1761 gw_18 gw_1758 hdm_3 ⟨by decide, by decide⟩, hts _ gw_1760, hts _ gs_72⟩ (q_preV (q_pre (hP.sub [28, 0, 1, 2, 3, 36] rfl) (hD.sub [28, 0, 1, 2, 3, 36] (by decide) rfl) hK hSt hS (va_free hD hS hA [28, 0, 1, 2, 3, 36] rfl) _) (va_recv hK (hP.sub [28, 0, 1, 2, 3, 36] rfl) (ci := 12) (q0 := 0) rfl rfl)) rfl rfl hl.1 rfl (lv_room (Nat.le_of_ble_eq_true rfl)) d_M_isSig_50 ⟨Nat.le_of_ble_eq_true rfl, Nat.le_of_ble_eq_true rfl⟩) hP hD hS hA [28, 0, 1, 2, 3, 36] [4, 5, 6, 7, 8, 9, 10, 11, 12, 13, 14, 15, 16, 17, 18, 19, 20, 21, 22, 23, 24, 25, 26, 27, 29, 30, 31, 32, 33, 34, 35, 37] rfl rfl (by decide) (by decide) (fun H locs hP hD hS => ?_)
        clear hc
        have hP : va_P D classes [((q 39), .inl (cy 1, 8, .inl g_one)), ((q 41), .inl (cy 1, 8, .inl u5)), ((q 48), .inl (cy 1, 8, .inl u6)), ((q 49), .inl (cy 1, 8, .inl u7)), ((q 50), .inl (cy 1, 16, .inl u8)), ((q 51), .inl (cy 1, 8, .inl u9)), ((q 52), .inl (cy 1, 8, .inl u10)), ((q 53), .inl (cy 1, 8, .inl u11)), ((q 54), .inl (cy 1, 8, .inl u12)), ((q 55), .inl (cy 1, 8, .inl u13)), ((q 56), .inl (cy 1, 8, .inl u14)), ((q 57), .inl (cy 1, 8, .inl u15)), ((q 58), .inl (cy 1, 8, .inl u16)), ((q 59), .inl (cy 1, 8, .inl u17)), ((q 60), .inl (cy 1, 8, .inl u18)), ((q 61), .inl (cy 1, 8, .inl u19)), ((q 62), .inl (cy 1, 8, .inl u20)), ((q 63), .inl (cy 1, 8, .inl u21)), ((q 64), .inl (cy 1, 8, .inl u22)), ((q 65), .inl (cy 1, 8, .inl u23)), ((q 66), .inl (cy 1, 8, .inl u24)), ((q 67), .inl (cy 1, 8, .inl u25)), ((q 68), .inl (cy 0, 104448, .inl g_thing)), ((q 69), .inl (cy 1, 408, .inl g_size)), ((q 1), .inl (cy 0, 103000, .inl g_store)), ((q 12), .inl (cy 1, 2200, .inl g_tAt)), ((q 13), .inl (cy 1, 2200, .inl g_tSize)), ((q 15), .inl (cy 1, 2200, .inl g_tIn)), ((q 16), .inl (cy 1, 2200, .inl g_tIns)), ((q 20), .inl (cy 1, 2600, .inl g_iAt)), ((q 23), .inl (cy 1, 2600, .inl g_iSequence)), ((q 72), .inl (cy 1, 2200, .inl g_tOutAt)), (o, .inr (12, mo q u0)), ((q 34), .inl (cy 1, 8, .inl f8)), ((q 35), .inl (cy 1, 64, .inl f9)), ((q 36), .inl (cy 0, 32, .inl f10)), ((q 37), .inl (cy 0, 100200, .inl f11)), ((q 71), .inl (cy 0, 100100, .inl f7))] H := hP
        have hD : va_D A [((q 39), .inl (cy 1, 8, .inl g_one)), ((q 41), .inl (cy 1, 8, .inl u5)), ((q 48), .inl (cy 1, 8, .inl u6)), ((q 49), .inl (cy 1, 8, .inl u7)), ((q 50), .inl (cy 1, 16, .inl u8)), ((q 51), .inl (cy 1, 8, .inl u9)), ((q 52), .inl (cy 1, 8, .inl u10)), ((q 53), .inl (cy 1, 8, .inl u11)), ((q 54), .inl (cy 1, 8, .inl u12)), ((q 55), .inl (cy 1, 8, .inl u13)), ((q 56), .inl (cy 1, 8, .inl u14)), ((q 57), .inl (cy 1, 8, .inl u15)), ((q 58), .inl (cy 1, 8, .inl u16)), ((q 59), .inl (cy 1, 8, .inl u17)), ((q 60), .inl (cy 1, 8, .inl u18)), ((q 61), .inl (cy 1, 8, .inl u19)), ((q 62), .inl (cy 1, 8, .inl u20)), ((q 63), .inl (cy 1, 8, .inl u21)), ((q 64), .inl (cy 1, 8, .inl u22)), ((q 65), .inl (cy 1, 8, .inl u23)), ((q 66), .inl (cy 1, 8, .inl u24)), ((q 67), .inl (cy 1, 8, .inl u25)), ((q 68), .inl (cy 0, 104448, .inl g_thing)), ((q 69), .inl (cy 1, 408, .inl g_size)), ((q 1), .inl (cy 0, 103000, .inl g_store)), ((q 12), .inl (cy 1, 2200, .inl g_tAt)), ((q 13), .inl (cy 1, 2200, .inl g_tSize)), ((q 15), .inl (cy 1, 2200, .inl g_tIn)), ((q 16), .inl (cy 1, 2200, .inl g_tIns)), ((q 20), .inl (cy 1, 2600, .inl g_iAt)), ((q 23), .inl (cy 1, 2600, .inl g_iSequence)), ((q 72), .inl (cy 1, 2200, .inl g_tOutAt)), (o, .inr (12, mo q u0)), ((q 34), .inl (cy 1, 8, .inl f8)), ((q 35), .inl (cy 1, 64, .inl f9)), ((q 36), .inl (cy 0, 32, .inl f10)), ((q 37), .inl (cy 0, 100200, .inl f11)), ((q 71), .inl (cy 0, 100100, .inl f7))] := hD
        refine lv_aload_n hx hb d_M_isSig_53 rfl (lv_at hl 1 rfl) ?_
        refine lv_aload_n hx hb d_M_isSig_54 rfl (lv_at hl 1 rfl) ?_
        refine va_get (D := D) (ci := 12) (v := .ref (q 68)) (C := "CoinKeeperModel") (T := F_12) (N := 98) hx hb hts i_12 hown hK hP 32 rfl rfl 77 (by decide) (hts _ gw_1496) (fun _ h9 => h9) rfl d_M_isSig_55 ?_
        refine lv_sipush (v := 256) hx hb d_M_isSig_58 (by decide) ?_
        refine lv_iload_n hx hb d_M_isSig_61 rfl (lv_at hl 2 rfl) ?_
        refine lv_imul hx hb d_M_isSig_62 ?_
        refine lv_topi (fun v12 ev => ?_)
        have hf := bn ev hf
        clear ev
        refine lv_aload_n hx hb d_M_isSig_63 rfl (lv_at hl 1 rfl) ?_
        refine va_get (D := D) (ci := 12) (v := .ref (q 69)) (C := "CoinKeeperModel") (T := F_12) (N := 98) hx hb hts i_12 hown hK hP 32 rfl rfl 78 (by decide) (hts _ gw_1497) (fun _ h9 => h9) rfl d_M_isSig_64 ?_
        refine lv_iload_n hx hb d_M_isSig_67 rfl (lv_at hl 2 rfl) ?_
        obtain ⟨hg, hf⟩ := gdp hf
        refine va_iald hx hb hK hP 23 1 rfl rfl (inb_in hg) d_M_isSig_68 ?_
        refine lv_topi (fun v13 ev => ?_)
        have hf := bn ev hf
        clear ev
        refine lv_aload_n hx hb d_M_isSig_69 rfl (lv_at hl 1 rfl) ?_
        refine va_get (D := D) (ci := 12) (v := .ref (q 68)) (C := "CoinKeeperModel") (T := F_12) (N := 98) hx hb hts i_12 hown hK hP 32 rfl rfl 77 (by decide) (hts _ gw_1496) (fun _ h9 => h9) rfl d_M_isSig_70 ?_
        refine lv_sipush (v := 256) hx hb d_M_isSig_73 (by decide) ?_
        refine lv_iload_n hx hb d_M_isSig_76 rfl (lv_at hl 3 rfl) ?_
        refine lv_imul hx hb d_M_isSig_77 ?_
        refine lv_topi (fun v14 ev => ?_)
        have hf := bn ev hf
        clear ev
        refine lv_iload_n hx hb d_M_isSig_78 rfl (lv_at hl 0 rfl) ?_
        obtain ⟨v15, f16, f17, f18, f19, f20, f21, f22, f23, f24, f25, f26, f27, f28, f29, f30, f31, f32, f33, f34, f35, f36, f37, hc, hf⟩ := bdp23 hf
        refine q_ai (wr := [((q 69), .inl (cy 1, 408, .inl g_size)), ((q 1), .inl (cy 0, 103000, .inl g_store)), ((q 12), .inl (cy 1, 2200, .inl g_tAt)), ((q 13), .inl (cy 1, 2200, .inl g_tSize)), ((q 15), .inl (cy 1, 2200, .inl g_tIn)), ((q 16), .inl (cy 1, 2200, .inl g_tIns)), ((q 20), .inl (cy 1, 2600, .inl g_iAt)), ((q 23), .inl (cy 1, 2600, .inl g_iSequence)), ((q 72), .inl (cy 1, 2200, .inl g_tOutAt)), ((q 34), .inl (cy 1, 8, .inl f8)), ((q 35), .inl (cy 1, 64, .inl f9)), ((q 37), .inl (cy 0, 100200, .inl f11)), ((q 71), .inl (cy 0, 100100, .inl f7))]) (va_runV (C := "CoinKeeperModel") (As := [.ref (q 68), .int v12, .int v13, .ref (q 68), .int v14, .int v1]) (rest := []) ⟨hx, hb, hml, hown, hts⟩ (c_M_isSigned_e41 l D cy ad fu o q (q 68) f10 g_one 104448 g_thing v12 v13 v14 v1 u0 u5 u6 u7 u8 u9 u10 u11 u12 u13 u14 u15 u16 u17 u18 u19 u20 u21 u22 u23 u24 u25 _ hc H.size) ⟨q_cB hts gw_1966 gw_18 gw_1963 hdm_36 ⟨by decide, by decide⟩, hts _ gw_1965, hts _ gs_110⟩ (q_preV (q_pre (hP.sub [32, 35, 0, 1, 2, 3, 4, 5, 6, 7, 8, 9, 10, 11, 12, 13, 14, 15, 16, 17, 18, 19, 20, 21, 22] rfl) (hD.sub [32, 35, 0, 1, 2, 3, 4, 5, 6, 7, 8, 9, 10, 11, 12, 13, 14, 15, 16, 17, 18, 19, 20, 21, 22] (by decide) rfl) hK hSt hS (va_free hD hS hA [32, 35, 0, 1, 2, 3, 4, 5, 6, 7, 8, 9, 10, 11, 12, 13, 14, 15, 16, 17, 18, 19, 20, 21, 22] rfl) _) (va_recv hK (hP.sub [32, 35, 0, 1, 2, 3, 4, 5, 6, 7, 8, 9, 10, 11, 12, 13, 14, 15, 16, 17, 18, 19, 20, 21, 22] rfl) (ci := 12) (q0 := 0) rfl rfl)) rfl rfl hl.1 rfl (lv_room (Nat.le_of_ble_eq_true rfl)) d_M_isSig_79 ⟨Nat.le_of_ble_eq_true rfl, Nat.le_of_ble_eq_true rfl⟩) hP hD hS hA [32, 35, 0, 1, 2, 3, 4, 5, 6, 7, 8, 9, 10, 11, 12, 13, 14, 15, 16, 17, 18, 19, 20, 21, 22] [23, 24, 25, 26, 27, 28, 29, 30, 31, 33, 34, 36, 37] rfl rfl (by decide) (by decide) (fun H locs hP hD hS => ?_)
        clear hc
        have hP : va_P D classes [((q 69), .inl (cy 1, 408, .inl g_size)), ((q 1), .inl (cy 0, 103000, .inl g_store)), ((q 12), .inl (cy 1, 2200, .inl g_tAt)), ((q 13), .inl (cy 1, 2200, .inl g_tSize)), ((q 15), .inl (cy 1, 2200, .inl g_tIn)), ((q 16), .inl (cy 1, 2200, .inl g_tIns)), ((q 20), .inl (cy 1, 2600, .inl g_iAt)), ((q 23), .inl (cy 1, 2600, .inl g_iSequence)), ((q 72), .inl (cy 1, 2200, .inl g_tOutAt)), ((q 34), .inl (cy 1, 8, .inl f8)), ((q 35), .inl (cy 1, 64, .inl f9)), ((q 37), .inl (cy 0, 100200, .inl f11)), ((q 71), .inl (cy 0, 100100, .inl f7)), (o, .inr (12, mo q f16)), ((q 36), .inl (cy 0, 32, .inl f10)), ((q 39), .inl (cy 1, 8, .inl g_one)), ((q 41), .inl (cy 1, 8, .inl f17)), ((q 48), .inl (cy 1, 8, .inl f18)), ((q 49), .inl (cy 1, 8, .inl f19)), ((q 50), .inl (cy 1, 16, .inl f20)), ((q 51), .inl (cy 1, 8, .inl f21)), ((q 52), .inl (cy 1, 8, .inl f22)), ((q 53), .inl (cy 1, 8, .inl f23)), ((q 54), .inl (cy 1, 8, .inl f24)), ((q 55), .inl (cy 1, 8, .inl f25)), ((q 56), .inl (cy 1, 8, .inl f26)), ((q 57), .inl (cy 1, 8, .inl f27)), ((q 58), .inl (cy 1, 8, .inl f28)), ((q 59), .inl (cy 1, 8, .inl f29)), ((q 60), .inl (cy 1, 8, .inl f30)), ((q 61), .inl (cy 1, 8, .inl f31)), ((q 62), .inl (cy 1, 8, .inl f32)), ((q 63), .inl (cy 1, 8, .inl f33)), ((q 64), .inl (cy 1, 8, .inl f34)), ((q 65), .inl (cy 1, 8, .inl f35)), ((q 66), .inl (cy 1, 8, .inl f36)), ((q 67), .inl (cy 1, 8, .inl f37)), ((q 68), .inl (cy 0, 104448, .inl g_thing))] H := hP
        have hD : va_D A [((q 69), .inl (cy 1, 408, .inl g_size)), ((q 1), .inl (cy 0, 103000, .inl g_store)), ((q 12), .inl (cy 1, 2200, .inl g_tAt)), ((q 13), .inl (cy 1, 2200, .inl g_tSize)), ((q 15), .inl (cy 1, 2200, .inl g_tIn)), ((q 16), .inl (cy 1, 2200, .inl g_tIns)), ((q 20), .inl (cy 1, 2600, .inl g_iAt)), ((q 23), .inl (cy 1, 2600, .inl g_iSequence)), ((q 72), .inl (cy 1, 2200, .inl g_tOutAt)), ((q 34), .inl (cy 1, 8, .inl f8)), ((q 35), .inl (cy 1, 64, .inl f9)), ((q 37), .inl (cy 0, 100200, .inl f11)), ((q 71), .inl (cy 0, 100100, .inl f7)), (o, .inr (12, mo q f16)), ((q 36), .inl (cy 0, 32, .inl f10)), ((q 39), .inl (cy 1, 8, .inl g_one)), ((q 41), .inl (cy 1, 8, .inl f17)), ((q 48), .inl (cy 1, 8, .inl f18)), ((q 49), .inl (cy 1, 8, .inl f19)), ((q 50), .inl (cy 1, 16, .inl f20)), ((q 51), .inl (cy 1, 8, .inl f21)), ((q 52), .inl (cy 1, 8, .inl f22)), ((q 53), .inl (cy 1, 8, .inl f23)), ((q 54), .inl (cy 1, 8, .inl f24)), ((q 55), .inl (cy 1, 8, .inl f25)), ((q 56), .inl (cy 1, 8, .inl f26)), ((q 57), .inl (cy 1, 8, .inl f27)), ((q 58), .inl (cy 1, 8, .inl f28)), ((q 59), .inl (cy 1, 8, .inl f29)), ((q 60), .inl (cy 1, 8, .inl f30)), ((q 61), .inl (cy 1, 8, .inl f31)), ((q 62), .inl (cy 1, 8, .inl f32)), ((q 63), .inl (cy 1, 8, .inl f33)), ((q 64), .inl (cy 1, 8, .inl f34)), ((q 65), .inl (cy 1, 8, .inl f35)), ((q 66), .inl (cy 1, 8, .inl f36)), ((q 67), .inl (cy 1, 8, .inl f37)), ((q 68), .inl (cy 0, 104448, .inl g_thing))] := hD
        obtain ⟨hg, hf⟩ := gdp hf
        obtain rfl := Option.some.inj hf
        exact q_rz hx hb hr hlocks hK (hP.sub [13, 1, 2, 3, 4, 5, 6, 7, 9, 10, 14, 11, 15, 16, 17, 18, 19, 20, 21, 22, 23, 24, 25, 26, 27, 28, 29, 30, 31, 32, 33, 34, 35, 36, 37, 0, 12, 8] rfl) (hD.sub [13, 1, 2, 3, 4, 5, 6, 7, 9, 10, 14, 11, 15, 16, 17, 18, 19, 20, 21, 22, 23, 24, 25, 26, 27, 28, 29, 30, 31, 32, 33, 34, 35, 36, 37, 0, 12, 8] (by decide) rfl) hS (isb_n hg) d_M_isSig_82
      · have hf := ifn cx hf
        refine lv_iconst (v := 0) hx hb d_M_isSig_38 (by decide) ?_
        obtain rfl := Option.some.inj hf
        exact q_rz hx hb hr hlocks hK hP hD hS (isb_n (v := 0) (by decide)) d_M_isSig_39
  · have hf := ifn cx hf
    refine lv_iconst (v := 0) hx hb d_M_isSig_7 (by decide) ?_
    obtain rfl := Option.some.inj hf
    exact q_rz hx hb hr hlocks hK hP hD hS (isb_n (v := 0) (by decide)) d_M_isSig_8
theorem c_M_isSig (l : Launch) (D : va_G) (cy : Nat → ClassId) (ad : Nat → Nat) (fu : Nat) (o : Nat) (q : Nat → Nat) (g_store : Nat → Int32) (g_tAt : Nat → Int32) (g_tSize : Nat → Int32) (g_tIn : Nat → Int32) (g_tIns : Nat → Int32) (g_iAt : Nat → Int32) (g_iSequence : Nat → Int32) (g_one : Nat → Int32) (g_thing : Nat → Int32) (g_size : Nat → Int32) (g_tOutAt : Nat → Int32) (a1 : Int32) (a2 : Int32) (u0 : Nat → Int32) (u1 : Nat → Int32) (u2 : Nat → Int32) (u3 : Nat → Int32) (u4 : Nat → Int32) (u5 : Nat → Int32) (u6 : Nat → Int32) (u7 : Nat → Int32) (u8 : Nat → Int32) (u9 : Nat → Int32) (u10 : Nat → Int32) (u11 : Nat → Int32) (u12 : Nat → Int32) (u13 : Nat → Int32) (u14 : Nat → Int32) (u15 : Nat → Int32) (u16 : Nat → Int32) (u17 : Nat → Int32) (u18 : Nat → Int32) (u19 : Nat → Int32) (u20 : Nat → Int32) (u21 : Nat → Int32) (u22 : Nat → Int32) (u23 : Nat → Int32) (u24 : Nat → Int32) (u25 : Nat → Int32) (u26 : Nat → Int32) (res : Int32 × (Nat → Int32) × (Nat → Int32) × (Nat → Int32) × (Nat → Int32) × (Nat → Int32) × (Nat → Int32) × (Nat → Int32) × (Nat → Int32) × (Nat → Int32) × (Nat → Int32) × (Nat → Int32) × (Nat → Int32) × (Nat → Int32) × (Nat → Int32) × (Nat → Int32) × (Nat → Int32) × (Nat → Int32) × (Nat → Int32) × (Nat → Int32) × (Nat → Int32) × (Nat → Int32) × (Nat → Int32) × (Nat → Int32) × (Nat → Int32) × (Nat → Int32) × (Nat → Int32) × (Nat → Int32)) (hf : x_M_isSig fu g_store g_tAt g_tSize g_tIn g_tIns g_iAt g_iSequence g_one g_thing g_size g_tOutAt a1 a2 u0 u1 u2 u3 u4 u5 u6 u7 u8 u9 u10 u11 u12 u13 u14 u15 u16 u17 u18 u19 u20 u21 u22 u23 u24 u25 u26 = some res) (sz : Nat) : Met l ({ cls := "CoinKeeperModel", name := "isSig", desc := "(II)Z" } : Jvm.MethodName) (.code ({ cls := "CoinKeeperModel", name := "isSig", desc := "(II)Z" } : Jvm.MethodName) b_M_isSig 4 (some .boolean) :: gw) rm_M_isSig (va_Pc [.ref o, .int a1, .int a2] (Pr D cy ad [(o, .inr (12, mo q u0)), ((q 1), .inl (cy 0, 103000, .inl g_store)), ((q 12), .inl (cy 1, 2200, .inl g_tAt)), ((q 13), .inl (cy 1, 2200, .inl g_tSize)), ((q 15), .inl (cy 1, 2200, .inl g_tIn)), ((q 16), .inl (cy 1, 2200, .inl g_tIns)), ((q 20), .inl (cy 1, 2600, .inl g_iAt)), ((q 23), .inl (cy 1, 2600, .inl g_iSequence)), ((q 34), .inl (cy 1, 8, .inl u1)), ((q 35), .inl (cy 1, 64, .inl u2)), ((q 36), .inl (cy 0, 32, .inl u3)), ((q 37), .inl (cy 0, 100200, .inl u4)), ((q 39), .inl (cy 1, 8, .inl g_one)), ((q 41), .inl (cy 1, 8, .inl u5)), ((q 48), .inl (cy 1, 8, .inl u6)), ((q 49), .inl (cy 1, 8, .inl u7)), ((q 50), .inl (cy 1, 16, .inl u8)), ((q 51), .inl (cy 1, 8, .inl u9)), ((q 52), .inl (cy 1, 8, .inl u10)), ((q 53), .inl (cy 1, 8, .inl u11)), ((q 54), .inl (cy 1, 8, .inl u12)), ((q 55), .inl (cy 1, 8, .inl u13)), ((q 56), .inl (cy 1, 8, .inl u14)), ((q 57), .inl (cy 1, 8, .inl u15)), ((q 58), .inl (cy 1, 8, .inl u16)), ((q 59), .inl (cy 1, 8, .inl u17)), ((q 60), .inl (cy 1, 8, .inl u18)), ((q 61), .inl (cy 1, 8, .inl u19)), ((q 62), .inl (cy 1, 8, .inl u20)), ((q 63), .inl (cy 1, 8, .inl u21)), ((q 64), .inl (cy 1, 8, .inl u22)), ((q 65), .inl (cy 1, 8, .inl u23)), ((q 66), .inl (cy 1, 8, .inl u24)), ((q 67), .inl (cy 1, 8, .inl u25)), ((q 68), .inl (cy 0, 104448, .inl g_thing)), ((q 69), .inl (cy 1, 408, .inl g_size)), ((q 71), .inl (cy 0, 100100, .inl u26)), ((q 72), .inl (cy 1, 2200, .inl g_tOutAt))] sz)) (q_M_isSig D cy (va_A [(o, .inr (12, mo q u0)), ((q 1), .inl (cy 0, 103000, .inl g_store)), ((q 12), .inl (cy 1, 2200, .inl g_tAt)), ((q 13), .inl (cy 1, 2200, .inl g_tSize)), ((q 15), .inl (cy 1, 2200, .inl g_tIn)), ((q 16), .inl (cy 1, 2200, .inl g_tIns)), ((q 20), .inl (cy 1, 2600, .inl g_iAt)), ((q 23), .inl (cy 1, 2600, .inl g_iSequence)), ((q 34), .inl (cy 1, 8, .inl u1)), ((q 35), .inl (cy 1, 64, .inl u2)), ((q 36), .inl (cy 0, 32, .inl u3)), ((q 37), .inl (cy 0, 100200, .inl u4)), ((q 39), .inl (cy 1, 8, .inl g_one)), ((q 41), .inl (cy 1, 8, .inl u5)), ((q 48), .inl (cy 1, 8, .inl u6)), ((q 49), .inl (cy 1, 8, .inl u7)), ((q 50), .inl (cy 1, 16, .inl u8)), ((q 51), .inl (cy 1, 8, .inl u9)), ((q 52), .inl (cy 1, 8, .inl u10)), ((q 53), .inl (cy 1, 8, .inl u11)), ((q 54), .inl (cy 1, 8, .inl u12)), ((q 55), .inl (cy 1, 8, .inl u13)), ((q 56), .inl (cy 1, 8, .inl u14)), ((q 57), .inl (cy 1, 8, .inl u15)), ((q 58), .inl (cy 1, 8, .inl u16)), ((q 59), .inl (cy 1, 8, .inl u17)), ((q 60), .inl (cy 1, 8, .inl u18)), ((q 61), .inl (cy 1, 8, .inl u19)), ((q 62), .inl (cy 1, 8, .inl u20)), ((q 63), .inl (cy 1, 8, .inl u21)), ((q 64), .inl (cy 1, 8, .inl u22)), ((q 65), .inl (cy 1, 8, .inl u23)), ((q 66), .inl (cy 1, 8, .inl u24)), ((q 67), .inl (cy 1, 8, .inl u25)), ((q 68), .inl (cy 0, 104448, .inl g_thing)), ((q 69), .inl (cy 1, 408, .inl g_size)), ((q 71), .inl (cy 0, 100100, .inl u26)), ((q 72), .inl (cy 1, 2200, .inl g_tOutAt))] sz) o q g_store g_tAt g_tSize g_tIn g_tIns g_iAt g_iSequence g_one g_thing g_size g_tOutAt res) 0 0 (va_A [(o, .inr (12, mo q u0)), ((q 1), .inl (cy 0, 103000, .inl g_store)), ((q 12), .inl (cy 1, 2200, .inl g_tAt)), ((q 13), .inl (cy 1, 2200, .inl g_tSize)), ((q 15), .inl (cy 1, 2200, .inl g_tIn)), ((q 16), .inl (cy 1, 2200, .inl g_tIns)), ((q 20), .inl (cy 1, 2600, .inl g_iAt)), ((q 23), .inl (cy 1, 2600, .inl g_iSequence)), ((q 34), .inl (cy 1, 8, .inl u1)), ((q 35), .inl (cy 1, 64, .inl u2)), ((q 36), .inl (cy 0, 32, .inl u3)), ((q 37), .inl (cy 0, 100200, .inl u4)), ((q 39), .inl (cy 1, 8, .inl g_one)), ((q 41), .inl (cy 1, 8, .inl u5)), ((q 48), .inl (cy 1, 8, .inl u6)), ((q 49), .inl (cy 1, 8, .inl u7)), ((q 50), .inl (cy 1, 16, .inl u8)), ((q 51), .inl (cy 1, 8, .inl u9)), ((q 52), .inl (cy 1, 8, .inl u10)), ((q 53), .inl (cy 1, 8, .inl u11)), ((q 54), .inl (cy 1, 8, .inl u12)), ((q 55), .inl (cy 1, 8, .inl u13)), ((q 56), .inl (cy 1, 8, .inl u14)), ((q 57), .inl (cy 1, 8, .inl u15)), ((q 58), .inl (cy 1, 8, .inl u16)), ((q 59), .inl (cy 1, 8, .inl u17)), ((q 60), .inl (cy 1, 8, .inl u18)), ((q 61), .inl (cy 1, 8, .inl u19)), ((q 62), .inl (cy 1, 8, .inl u20)), ((q 63), .inl (cy 1, 8, .inl u21)), ((q 64), .inl (cy 1, 8, .inl u22)), ((q 65), .inl (cy 1, 8, .inl u23)), ((q 66), .inl (cy 1, 8, .inl u24)), ((q 67), .inl (cy 1, 8, .inl u25)), ((q 68), .inl (cy 0, 104448, .inl g_thing)), ((q 69), .inl (cy 1, 408, .inl g_size)), ((q 71), .inl (cy 0, 100100, .inl u26)), ((q 72), .inl (cy 1, 2200, .inl g_tOutAt))] sz) :=
  q_met (Qc := fun A => q_M_isSig D cy A o q g_store g_tAt g_tSize g_tIn g_tIns g_iAt g_iSequence g_one g_thing g_size g_tOutAt res) (by decide) rfl rfl (Nat.le_of_ble_eq_true rfl) (fun p e s m below meth c ls F hP hD hS hl => we_M_isSig (fu := fu) F a1 a2 u0 u1 u2 u3 u4 u5 u6 u7 u8 u9 u10 u11 u12 u13 u14 u15 u16 u17 u18 u19 u20 u21 u22 u23 u24 u25 u26 res hf _ _ _ hP hD hS hl) sz
abbrev b_M_pushTruth : ByteArray := prog_14_method_43_code
theorem d_M_pushTruth_0 : decode b_M_pushTruth 0 = .ok (.aload_n 0, 1) := by decide +kernel
theorem d_M_pushTruth_1 : decode b_M_pushTruth 1 = .ok (.iload_n 1, 1) := by decide +kernel
theorem d_M_pushTruth_2 : decode b_M_pushTruth 2 = .ok (.ifCond .eq 7, 3) := by decide +kernel
theorem d_M_pushTruth_5 : decode b_M_pushTruth 5 = .ok (.lconst 1, 1) := by decide +kernel
theorem d_M_pushTruth_6 : decode b_M_pushTruth 6 = .ok (.goto 4, 3) := by decide +kernel
theorem d_M_pushTruth_9 : decode b_M_pushTruth 9 = .ok (.lconst 0, 1) := by decide +kernel
theorem d_M_pushTruth_10 : decode b_M_pushTruth 10 = .ok (.invokevirtual 442, 3) := by decide +kernel
theorem d_M_pushTruth_13 : decode b_M_pushTruth 13 = .ok (.return_, 1) := by decide +kernel
abbrev rm_M_pushTruth : Room := { frames := 1, cells := 0, slots := 0, locals := 26 }
abbrev q_M_pushTruth (D : va_G) (cy : Nat → ClassId) (A : Nat → Prop) (o : Nat) (q : Nat → Nat) (res : (Nat → Int32) × (Nat → Int32) × (Nat → Int32)) : Array Value → State → Outcome → State → Prop := va_Qv (fun (_ : Unit) => True) (fun _ t => Po D cy A [(o, .inr (12, mo q res.1)), ((q 68), .inl (cy 0, 104448, .inl res.2.1)), ((q 69), .inl (cy 1, 408, .inl res.2.2))] t) A
def I_M_pushTruth_10 (p : Program) (l : Launch) (e : Env) (s : State) (m : MethodId) (args : Array Value) (below : List Frame) (meth : Method) (c : Code) (D : va_G) (cy : Nat → ClassId) (A : Nat → Prop) (ad : Nat → Nat) (o : Nat) (q : Nat → Nat) (k : Int64 → (Nat → Int32) → (Nat → Int32) → (Nat → Int32) → Option ((Nat → Int32) × (Nat → Int32) × (Nat → Int32))) : Prop :=
  ∀ (y0 : Int64) (u0 : Nat → Int32) (u1 : Nat → Int32) (u2 : Nat → Int32) (res : (Nat → Int32) × (Nat → Int32) × (Nat → Int32)), k y0 u0 u1 u2 = some res → ∀ (H : Heap) (locs : List Loc) (ls : Array Slot), va_P D classes [(o, .inr (12, mo q u0)), ((q 68), .inl (cy 0, 104448, .inl u1)), ((q 69), .inl (cy 1, 408, .inl u2))] H → va_D A [(o, .inr (12, mo q u0)), ((q 68), .inl (cy 0, 104448, .inl u1)), ((q 69), .inl (cy 1, 408, .inl u2))] → va_S A s.heap H locs → lv_has ls 2 [] → W p l e rm_M_pushTruth s m args below meth c H locs 0 0 (MQ below (q_M_pushTruth D cy A o q res) args s 0 0 A) (F0 m 10 ls [.long y0, .ref o])
def I_M_pushTruth_e (p : Program) (l : Launch) (e : Env) (s : State) (m : MethodId) (args : Array Value) (below : List Frame) (meth : Method) (c : Code) (D : va_G) (cy : Nat → ClassId) (A : Nat → Prop) (ad : Nat → Nat) (o : Nat) (q : Nat → Nat) (k : Int32 → (Nat → Int32) → (Nat → Int32) → (Nat → Int32) → Option ((Nat → Int32) × (Nat → Int32) × (Nat → Int32))) : Prop :=
  ∀ (a1 : Int32) (u0 : Nat → Int32) (u1 : Nat → Int32) (u2 : Nat → Int32) (res : (Nat → Int32) × (Nat → Int32) × (Nat → Int32)), k a1 u0 u1 u2 = some res → ∀ (H : Heap) (locs : List Loc) (ls : Array Slot), va_P D classes [(o, .inr (12, mo q u0)), ((q 68), .inl (cy 0, 104448, .inl u1)), ((q 69), .inl (cy 1, 408, .inl u2))] H → va_D A [(o, .inr (12, mo q u0)), ((q 68), .inl (cy 0, 104448, .inl u1)), ((q 69), .inl (cy 1, 408, .inl u2))] → va_S A s.heap H locs → lv_has ls 2 [(0, .ref o), (1, .int a1)] → W p l e rm_M_pushTruth s m args below meth c H locs 0 0 (MQ below (q_M_pushTruth D cy A o q res) args s 0 0 A) (F0 m 0 ls [])
set_option maxHeartbeats 8000000 in
set_option maxRecDepth 100000 in
theorem wb_M_pushTruth_10 {p : Program} {l : Launch} {e : Env} {s : State} {m : MethodId} {args : Array Value} {below : List Frame} {meth : Method} {c : Code} {D : va_G} {cy : Nat → ClassId} {A : Nat → Prop} {ad : Nat → Nat} {o : Nat} {q : Nat → Nat} {fu : Nat} (F : Fx p s m args meth c b_M_pushTruth 2 "CoinKeeperModel" "pushTruth" none D cy ad A) : I_M_pushTruth_10 p l e s m args below meth c D cy A ad o q (xb_M_pushTruth_10 fu) := by
  obtain ⟨hx, hb, hr, hml, hown, hts, hlocks, hK, hA, hSt, hnm, hex⟩ := id F
  intro y0 u0 u1 u2 res hf H locs ls hP hD hS hl
  unfold xb_M_pushTruth_10 at hf
  obtain ⟨f1, f2, f3, hc, hf⟩ := bdp3 hf
  refine q_av (wr := []) (va_runV (C := "CoinKeeperModel") (As := [.long y0]) (rest := []) ⟨hx, hb, hml, hown, hts⟩ (c_M_pushNumber l D cy ad fu o q y0 u0 u1 u2 _ hc H.size) ⟨q_cB hts gw_1831 gw_18 gw_1828 hdm_37 ⟨by decide, by decide⟩, hts _ gw_1830, hts _ gs_83⟩ (q_preV (q_pre (hP.sub [0, 1, 2] rfl) (hD.sub [0, 1, 2] (by decide) rfl) hK hSt hS (va_free hD hS hA [0, 1, 2] rfl) _) (va_recv hK (hP.sub [0, 1, 2] rfl) (ci := 12) (q0 := 0) rfl rfl)) rfl rfl hl.1 rfl (lv_room (Nat.le_of_ble_eq_true rfl)) d_M_pushTruth_10 ⟨Nat.le_of_ble_eq_true rfl, Nat.le_of_ble_eq_true rfl⟩) hP hD hS hA [0, 1, 2] [] rfl rfl (by decide) (by decide) (fun H locs hP hD hS => ?_)
  clear hc
  have hP : va_P D classes [(o, .inr (12, mo q f1)), ((q 68), .inl (cy 0, 104448, .inl f2)), ((q 69), .inl (cy 1, 408, .inl f3))] H := hP
  have hD : va_D A [(o, .inr (12, mo q f1)), ((q 68), .inl (cy 0, 104448, .inl f2)), ((q 69), .inl (cy 1, 408, .inl f3))] := hD
  obtain rfl := Option.some.inj hf
  exact q_rv hx hb hr hlocks hK hP hD hS d_M_pushTruth_13
set_option maxHeartbeats 8000000 in
set_option maxRecDepth 100000 in
theorem we_M_pushTruth {p : Program} {l : Launch} {e : Env} {s : State} {m : MethodId} {args : Array Value} {below : List Frame} {meth : Method} {c : Code} {D : va_G} {cy : Nat → ClassId} {A : Nat → Prop} {ad : Nat → Nat} {o : Nat} {q : Nat → Nat} {fu : Nat} (F : Fx p s m args meth c b_M_pushTruth 2 "CoinKeeperModel" "pushTruth" none D cy ad A) : I_M_pushTruth_e p l e s m args below meth c D cy A ad o q (x_M_pushTruth fu) := by
  obtain ⟨hx, hb, hr, hml, hown, hts, hlocks, hK, hA, hSt, hnm, hex⟩ := id F
  intro a1 u0 u1 u2 res hf H locs ls hP hD hS hl
  unfold x_M_pushTruth at hf
  refine lv_aload_n hx hb d_M_pushTruth_0 rfl (lv_at hl 0 rfl) ?_
  refine lv_iload_n hx hb d_M_pushTruth_1 rfl (lv_at hl 1 rfl) ?_
  refine lv_if_eq (tgt := 9) hx hb d_M_pushTruth_2 (by decide) (fun cx => ?_) (fun cx => ?_)
  · have hf := ifp cx hf
    refine lv_lconst (v := 0) hx hb d_M_pushTruth_9 (by decide) ?_
    exact wb_M_pushTruth_10 (fu := fu) F _ _ _ _ _ hf _ _ _ hP hD hS (lv_sub hl [] rfl)
  · have hf := ifn cx hf
    refine lv_lconst (v := 1) hx hb d_M_pushTruth_5 (by decide) ?_
    refine lv_goto (tgt := 10) hx hb d_M_pushTruth_6 (by decide) ?_
    exact wb_M_pushTruth_10 (fu := fu) F _ _ _ _ _ hf _ _ _ hP hD hS (lv_sub hl [] rfl)
theorem c_M_pushTruth (l : Launch) (D : va_G) (cy : Nat → ClassId) (ad : Nat → Nat) (fu : Nat) (o : Nat) (q : Nat → Nat) (a1 : Int32) (u0 : Nat → Int32) (u1 : Nat → Int32) (u2 : Nat → Int32) (res : (Nat → Int32) × (Nat → Int32) × (Nat → Int32)) (hf : x_M_pushTruth fu a1 u0 u1 u2 = some res) (sz : Nat) : Met l ({ cls := "CoinKeeperModel", name := "pushTruth", desc := "(Z)V" } : Jvm.MethodName) (.code ({ cls := "CoinKeeperModel", name := "pushTruth", desc := "(Z)V" } : Jvm.MethodName) b_M_pushTruth 2 none :: gw) rm_M_pushTruth (va_Pc [.ref o, .int a1] (Pr D cy ad [(o, .inr (12, mo q u0)), ((q 68), .inl (cy 0, 104448, .inl u1)), ((q 69), .inl (cy 1, 408, .inl u2))] sz)) (q_M_pushTruth D cy (va_A [(o, .inr (12, mo q u0)), ((q 68), .inl (cy 0, 104448, .inl u1)), ((q 69), .inl (cy 1, 408, .inl u2))] sz) o q res) 0 0 (va_A [(o, .inr (12, mo q u0)), ((q 68), .inl (cy 0, 104448, .inl u1)), ((q 69), .inl (cy 1, 408, .inl u2))] sz) :=
  q_met (Qc := fun A => q_M_pushTruth D cy A o q res) (by decide) rfl rfl (Nat.le_of_ble_eq_true rfl) (fun p e s m below meth c ls F hP hD hS hl => we_M_pushTruth (fu := fu) F a1 u0 u1 u2 res hf _ _ _ hP hD hS hl) sz
