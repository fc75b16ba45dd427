abbrev b_Cu_makeTwice : ByteArray := prog_4_method_8_code
theorem d_Cu_makeTwice_0 : decode b_Cu_makeTwice 0 = .ok (.aload_n 1, 1) := by decide +kernel
theorem d_Cu_makeTwice_1 : decode b_Cu_makeTwice 1 = .ok (.getfield 100, 3) := by decide +kernel
theorem d_Cu_makeTwice_4 : decode b_Cu_makeTwice 4 = .ok (.ifCond .eq 4, 3) := by decide +kernel
theorem d_Cu_makeTwice_7 : decode b_Cu_makeTwice 7 = .ok (.return_, 1) := by decide +kernel
theorem d_Cu_makeTwice_8 : decode b_Cu_makeTwice 8 = .ok (.aload_n 1, 1) := by decide +kernel
theorem d_Cu_makeTwice_9 : decode b_Cu_makeTwice 9 = .ok (.getfield 50, 3) := by decide +kernel
theorem d_Cu_makeTwice_12 : decode b_Cu_makeTwice 12 = .ok (.aload_n 1, 1) := by decide +kernel
theorem d_Cu_makeTwice_13 : decode b_Cu_makeTwice 13 = .ok (.getfield 97, 3) := by decide +kernel
theorem d_Cu_makeTwice_16 : decode b_Cu_makeTwice 16 = .ok (.aload_n 1, 1) := by decide +kernel
theorem d_Cu_makeTwice_17 : decode b_Cu_makeTwice 17 = .ok (.getfield 97, 3) := by decide +kernel
theorem d_Cu_makeTwice_20 : decode b_Cu_makeTwice 20 = .ok (.invokestatic 44, 3) := by decide +kernel
theorem d_Cu_makeTwice_23 : decode b_Cu_makeTwice 23 = .ok (.aload_n 1, 1) := by decide +kernel
theorem d_Cu_makeTwice_24 : decode b_Cu_makeTwice 24 = .ok (.getfield 35, 3) := by decide +kernel
theorem d_Cu_makeTwice_27 : decode b_Cu_makeTwice 27 = .ok (.aload_n 1, 1) := by decide +kernel
theorem d_Cu_makeTwice_28 : decode b_Cu_makeTwice 28 = .ok (.getfield 35, 3) := by decide +kernel
theorem d_Cu_makeTwice_31 : decode b_Cu_makeTwice 31 = .ok (.aload_n 0, 1) := by decide +kernel
theorem d_Cu_makeTwice_32 : decode b_Cu_makeTwice 32 = .ok (.getfield 20, 3) := by decide +kernel
theorem d_Cu_makeTwice_35 : decode b_Cu_makeTwice 35 = .ok (.invokestatic 44, 3) := by decide +kernel
theorem d_Cu_makeTwice_38 : decode b_Cu_makeTwice 38 = .ok (.aload_n 1, 1) := by decide +kernel
theorem d_Cu_makeTwice_39 : decode b_Cu_makeTwice 39 = .ok (.getfield 50, 3) := by decide +kernel
theorem d_Cu_makeTwice_42 : decode b_Cu_makeTwice 42 = .ok (.aload_n 1, 1) := by decide +kernel
theorem d_Cu_makeTwice_43 : decode b_Cu_makeTwice 43 = .ok (.getfield 50, 3) := by decide +kernel
theorem d_Cu_makeTwice_46 : decode b_Cu_makeTwice 46 = .ok (.aload_n 0, 1) := by decide +kernel
theorem d_Cu_makeTwice_47 : decode b_Cu_makeTwice 47 = .ok (.getfield 23, 3) := by decide +kernel
theorem d_Cu_makeTwice_50 : decode b_Cu_makeTwice 50 = .ok (.invokestatic 44, 3) := by decide +kernel
theorem d_Cu_makeTwice_53 : decode b_Cu_makeTwice 53 = .ok (.aload_n 1, 1) := by decide +kernel
theorem d_Cu_makeTwice_54 : decode b_Cu_makeTwice 54 = .ok (.getfield 35, 3) := by decide +kernel
theorem d_Cu_makeTwice_57 : decode b_Cu_makeTwice 57 = .ok (.aload_n 0, 1) := by decide +kernel
theorem d_Cu_makeTwice_58 : decode b_Cu_makeTwice 58 = .ok (.getfield 23, 3) := by decide +kernel
theorem d_Cu_makeTwice_61 : decode b_Cu_makeTwice 61 = .ok (.aload_n 0, 1) := by decide +kernel
theorem d_Cu_makeTwice_62 : decode b_Cu_makeTwice 62 = .ok (.getfield 26, 3) := by decide +kernel
theorem d_Cu_makeTwice_65 : decode b_Cu_makeTwice 65 = .ok (.invokestatic 44, 3) := by decide +kernel
theorem d_Cu_makeTwice_68 : decode b_Cu_makeTwice 68 = .ok (.aload_n 0, 1) := by decide +kernel
theorem d_Cu_makeTwice_69 : decode b_Cu_makeTwice 69 = .ok (.getfield 23, 3) := by decide +kernel
theorem d_Cu_makeTwice_72 : decode b_Cu_makeTwice 72 = .ok (.aload_n 0, 1) := by decide +kernel
theorem d_Cu_makeTwice_73 : decode b_Cu_makeTwice 73 = .ok (.getfield 23, 3) := by decide +kernel
theorem d_Cu_makeTwice_76 : decode b_Cu_makeTwice 76 = .ok (.aload_n 0, 1) := by decide +kernel
theorem d_Cu_makeTwice_77 : decode b_Cu_makeTwice 77 = .ok (.getfield 23, 3) := by decide +kernel
theorem d_Cu_makeTwice_80 : decode b_Cu_makeTwice 80 = .ok (.invokestatic 44, 3) := by decide +kernel
theorem d_Cu_makeTwice_83 : decode b_Cu_makeTwice 83 = .ok (.iconst 0, 1) := by decide +kernel
theorem d_Cu_makeTwice_84 : decode b_Cu_makeTwice 84 = .ok (.istore_n 2, 1) := by decide +kernel
theorem d_Cu_makeTwice_85 : decode b_Cu_makeTwice 85 = .ok (.iload_n 2, 1) := by decide +kernel
theorem d_Cu_makeTwice_86 : decode b_Cu_makeTwice 86 = .ok (.bipush 10, 2) := by decide +kernel
theorem d_Cu_makeTwice_88 : decode b_Cu_makeTwice 88 = .ok (.if_icmp .ge 33, 3) := by decide +kernel
theorem d_Cu_makeTwice_91 : decode b_Cu_makeTwice 91 = .ok (.aload_n 0, 1) := by decide +kernel
theorem d_Cu_makeTwice_92 : decode b_Cu_makeTwice 92 = .ok (.getfield 20, 3) := by decide +kernel
theorem d_Cu_makeTwice_95 : decode b_Cu_makeTwice 95 = .ok (.iload_n 2, 1) := by decide +kernel
theorem d_Cu_makeTwice_96 : decode b_Cu_makeTwice 96 = .ok (.dup2, 1) := by decide +kernel
theorem d_Cu_makeTwice_97 : decode b_Cu_makeTwice 97 = .ok (.laload, 1) := by decide +kernel
theorem d_Cu_makeTwice_98 : decode b_Cu_makeTwice 98 = .ok (.ldc2_w 104, 3) := by decide +kernel
theorem d_Cu_makeTwice_101 : decode b_Cu_makeTwice 101 = .ok (.lmul, 1) := by decide +kernel
theorem d_Cu_makeTwice_102 : decode b_Cu_makeTwice 102 = .ok (.lastore, 1) := by decide +kernel
theorem d_Cu_makeTwice_103 : decode b_Cu_makeTwice 103 = .ok (.aload_n 1, 1) := by decide +kernel
theorem d_Cu_makeTwice_104 : decode b_Cu_makeTwice 104 = .ok (.getfield 97, 3) := by decide +kernel
theorem d_Cu_makeTwice_107 : decode b_Cu_makeTwice 107 = .ok (.iload_n 2, 1) := by decide +kernel
theorem d_Cu_makeTwice_108 : decode b_Cu_makeTwice 108 = .ok (.dup2, 1) := by decide +kernel
theorem d_Cu_makeTwice_109 : decode b_Cu_makeTwice 109 = .ok (.laload, 1) := by decide +kernel
theorem d_Cu_makeTwice_110 : decode b_Cu_makeTwice 110 = .ok (.ldc2_w 106, 3) := by decide +kernel
theorem d_Cu_makeTwice_113 : decode b_Cu_makeTwice 113 = .ok (.lmul, 1) := by decide +kernel
theorem d_Cu_makeTwice_114 : decode b_Cu_makeTwice 114 = .ok (.lastore, 1) := by decide +kernel
theorem d_Cu_makeTwice_115 : decode b_Cu_makeTwice 115 = .ok (.iinc 2 1, 3) := by decide +kernel
theorem d_Cu_makeTwice_118 : decode b_Cu_makeTwice 118 = .ok (.goto (-33), 3) := by decide +kernel
theorem d_Cu_makeTwice_121 : decode b_Cu_makeTwice 121 = .ok (.aload_n 0, 1) := by decide +kernel
theorem d_Cu_makeTwice_122 : decode b_Cu_makeTwice 122 = .ok (.getfield 20, 3) := by decide +kernel
theorem d_Cu_makeTwice_125 : decode b_Cu_makeTwice 125 = .ok (.aload_n 0, 1) := by decide +kernel
theorem d_Cu_makeTwice_126 : decode b_Cu_makeTwice 126 = .ok (.getfield 20, 3) := by decide +kernel
theorem d_Cu_makeTwice_129 : decode b_Cu_makeTwice 129 = .ok (.aload_n 0, 1) := by decide +kernel
theorem d_Cu_makeTwice_130 : decode b_Cu_makeTwice 130 = .ok (.getfield 29, 3) := by decide +kernel
theorem d_Cu_makeTwice_133 : decode b_Cu_makeTwice 133 = .ok (.invokestatic 44, 3) := by decide +kernel
theorem d_Cu_makeTwice_136 : decode b_Cu_makeTwice 136 = .ok (.iconst 0, 1) := by decide +kernel
theorem d_Cu_makeTwice_137 : decode b_Cu_makeTwice 137 = .ok (.istore_n 2, 1) := by decide +kernel
theorem d_Cu_makeTwice_138 : decode b_Cu_makeTwice 138 = .ok (.iload_n 2, 1) := by decide +kernel
theorem d_Cu_makeTwice_139 : decode b_Cu_makeTwice 139 = .ok (.bipush 10, 2) := by decide +kernel
theorem d_Cu_makeTwice_141 : decode b_Cu_makeTwice 141 = .ok (.if_icmp .ge 55, 3) := by decide +kernel
theorem d_Cu_makeTwice_144 : decode b_Cu_makeTwice 144 = .ok (.aload_n 1, 1) := by decide +kernel
theorem d_Cu_makeTwice_145 : decode b_Cu_makeTwice 145 = .ok (.getfield 35, 3) := by decide +kernel
theorem d_Cu_makeTwice_148 : decode b_Cu_makeTwice 148 = .ok (.iload_n 2, 1) := by decide +kernel
theorem d_Cu_makeTwice_149 : decode b_Cu_makeTwice 149 = .ok (.aload_n 0, 1) := by decide +kernel
theorem d_Cu_makeTwice_150 : decode b_Cu_makeTwice 150 = .ok (.getfield 29, 3) := by decide +kernel
theorem d_Cu_makeTwice_153 : decode b_Cu_makeTwice 153 = .ok (.iload_n 2, 1) := by decide +kernel
theorem d_Cu_makeTwice_154 : decode b_Cu_makeTwice 154 = .ok (.laload, 1) := by decide +kernel
theorem d_Cu_makeTwice_155 : decode b_Cu_makeTwice 155 = .ok (.ldc2_w 108, 3) := by decide +kernel
theorem d_Cu_makeTwice_158 : decode b_Cu_makeTwice 158 = .ok (.aload_n 0, 1) := by decide +kernel
theorem d_Cu_makeTwice_159 : decode b_Cu_makeTwice 159 = .ok (.getfield 26, 3) := by decide +kernel
theorem d_Cu_makeTwice_162 : decode b_Cu_makeTwice 162 = .ok (.iload_n 2, 1) := by decide +kernel
theorem d_Cu_makeTwice_163 : decode b_Cu_makeTwice 163 = .ok (.laload, 1) := by decide +kernel
theorem d_Cu_makeTwice_164 : decode b_Cu_makeTwice 164 = .ok (.lmul, 1) := by decide +kernel
theorem d_Cu_makeTwice_165 : decode b_Cu_makeTwice 165 = .ok (.lsub, 1) := by decide +kernel
theorem d_Cu_makeTwice_166 : decode b_Cu_makeTwice 166 = .ok (.lastore, 1) := by decide +kernel
theorem d_Cu_makeTwice_167 : decode b_Cu_makeTwice 167 = .ok (.aload_n 0, 1) := by decide +kernel
theorem d_Cu_makeTwice_168 : decode b_Cu_makeTwice 168 = .ok (.getfield 26, 3) := by decide +kernel
theorem d_Cu_makeTwice_171 : decode b_Cu_makeTwice 171 = .ok (.iload_n 2, 1) := by decide +kernel
theorem d_Cu_makeTwice_172 : decode b_Cu_makeTwice 172 = .ok (.ldc2_w 110, 3) := by decide +kernel
theorem d_Cu_makeTwice_175 : decode b_Cu_makeTwice 175 = .ok (.aload_n 0, 1) := by decide +kernel
theorem d_Cu_makeTwice_176 : decode b_Cu_makeTwice 176 = .ok (.getfield 26, 3) := by decide +kernel
theorem d_Cu_makeTwice_179 : decode b_Cu_makeTwice 179 = .ok (.iload_n 2, 1) := by decide +kernel
theorem d_Cu_makeTwice_180 : decode b_Cu_makeTwice 180 = .ok (.laload, 1) := by decide +kernel
theorem d_Cu_makeTwice_181 : decode b_Cu_makeTwice 181 = .ok (.lmul, 1) := by decide +kernel
theorem d_Cu_makeTwice_182 : decode b_Cu_makeTwice 182 = .ok (.aload_n 1, 1) := by decide +kernel
theorem d_Cu_makeTwice_183 : decode b_Cu_makeTwice 183 = .ok (.getfield 35, 3) := by decide +kernel
theorem d_Cu_makeTwice_186 : decode b_Cu_makeTwice 186 = .ok (.iload_n 2, 1) := by decide +kernel
theorem d_Cu_makeTwice_187 : decode b_Cu_makeTwice 187 = .ok (.laload, 1) := by decide +kernel
theorem d_Cu_makeTwice_188 : decode b_Cu_makeTwice 188 = .ok (.lsub, 1) := by decide +kernel
theorem d_Cu_makeTwice_189 : decode b_Cu_makeTwice 189 = .ok (.lastore, 1) := by decide +kernel
theorem d_Cu_makeTwice_190 : decode b_Cu_makeTwice 190 = .ok (.iinc 2 1, 3) := by decide +kernel
theorem d_Cu_makeTwice_193 : decode b_Cu_makeTwice 193 = .ok (.goto (-55), 3) := by decide +kernel
theorem d_Cu_makeTwice_196 : decode b_Cu_makeTwice 196 = .ok (.aload_n 0, 1) := by decide +kernel
theorem d_Cu_makeTwice_197 : decode b_Cu_makeTwice 197 = .ok (.getfield 20, 3) := by decide +kernel
theorem d_Cu_makeTwice_200 : decode b_Cu_makeTwice 200 = .ok (.aload_n 0, 1) := by decide +kernel
theorem d_Cu_makeTwice_201 : decode b_Cu_makeTwice 201 = .ok (.getfield 26, 3) := by decide +kernel
theorem d_Cu_makeTwice_204 : decode b_Cu_makeTwice 204 = .ok (.aload_n 1, 1) := by decide +kernel
theorem d_Cu_makeTwice_205 : decode b_Cu_makeTwice 205 = .ok (.getfield 50, 3) := by decide +kernel
theorem d_Cu_makeTwice_208 : decode b_Cu_makeTwice 208 = .ok (.invokestatic 44, 3) := by decide +kernel
theorem d_Cu_makeTwice_211 : decode b_Cu_makeTwice 211 = .ok (.iconst 0, 1) := by decide +kernel
theorem d_Cu_makeTwice_212 : decode b_Cu_makeTwice 212 = .ok (.istore_n 2, 1) := by decide +kernel
theorem d_Cu_makeTwice_213 : decode b_Cu_makeTwice 213 = .ok (.iload_n 2, 1) := by decide +kernel
theorem d_Cu_makeTwice_214 : decode b_Cu_makeTwice 214 = .ok (.bipush 10, 2) := by decide +kernel
theorem d_Cu_makeTwice_216 : decode b_Cu_makeTwice 216 = .ok (.if_icmp .ge 28, 3) := by decide +kernel
theorem d_Cu_makeTwice_219 : decode b_Cu_makeTwice 219 = .ok (.aload_n 1, 1) := by decide +kernel
theorem d_Cu_makeTwice_220 : decode b_Cu_makeTwice 220 = .ok (.getfield 50, 3) := by decide +kernel
theorem d_Cu_makeTwice_223 : decode b_Cu_makeTwice 223 = .ok (.iload_n 2, 1) := by decide +kernel
theorem d_Cu_makeTwice_224 : decode b_Cu_makeTwice 224 = .ok (.dup2, 1) := by decide +kernel
theorem d_Cu_makeTwice_225 : decode b_Cu_makeTwice 225 = .ok (.laload, 1) := by decide +kernel
theorem d_Cu_makeTwice_226 : decode b_Cu_makeTwice 226 = .ok (.ldc2_w 108, 3) := by decide +kernel
theorem d_Cu_makeTwice_229 : decode b_Cu_makeTwice 229 = .ok (.aload_n 0, 1) := by decide +kernel
theorem d_Cu_makeTwice_230 : decode b_Cu_makeTwice 230 = .ok (.getfield 23, 3) := by decide +kernel
theorem d_Cu_makeTwice_233 : decode b_Cu_makeTwice 233 = .ok (.iload_n 2, 1) := by decide +kernel
theorem d_Cu_makeTwice_234 : decode b_Cu_makeTwice 234 = .ok (.laload, 1) := by decide +kernel
theorem d_Cu_makeTwice_235 : decode b_Cu_makeTwice 235 = .ok (.lmul, 1) := by decide +kernel
theorem d_Cu_makeTwice_236 : decode b_Cu_makeTwice 236 = .ok (.lsub, 1) := by decide +kernel
theorem d_Cu_makeTwice_237 : decode b_Cu_makeTwice 237 = .ok (.lastore, 1) := by decide +kernel
theorem d_Cu_makeTwice_238 : decode b_Cu_makeTwice 238 = .ok (.iinc 2 1, 3) := by decide +kernel
theorem d_Cu_makeTwice_241 : decode b_Cu_makeTwice 241 = .ok (.goto (-28), 3) := by decide +kernel
theorem d_Cu_makeTwice_244 : decode b_Cu_makeTwice 244 = .ok (.aload_n 1, 1) := by decide +kernel
theorem d_Cu_makeTwice_245 : decode b_Cu_makeTwice 245 = .ok (.iconst 0, 1) := by decide +kernel
theorem d_Cu_makeTwice_246 : decode b_Cu_makeTwice 246 = .ok (.putfield 112, 3) := by decide +kernel
theorem d_Cu_makeTwice_249 : decode b_Cu_makeTwice 249 = .ok (.return_, 1) := by decide +kernel
abbrev rm_Cu_makeTwice : Room := { frames := 1, cells := 0, slots := 0, locals := 84 }
abbrev q_Cu_makeTwice (D : va_G) (cy : Nat → ClassId) (A : Nat → Prop) (o : Nat) (r_rows : Value) (v_a_limbs : Value) (v_a_f : Value) (a_a : Nat) (a_b : Nat) (a_c : Nat) (a_d : Nat) (o1 : Nat) (a1_x : Nat) (a1_y : Nat) (a1_z : Nat) (i1_isNone : Int32) (res : (Nat → Int64) × (Nat → Int64) × (Nat → Int64) × (Nat → Int64) × Int32 × (Nat → Int64) × (Nat → Int64) × (Nat → Int64)) : Array Value → State → Outcome → State → Prop := va_Qv (fun (_ : Unit) => True) (fun _ t => Po D cy A [(o, .inr (3, [r_rows, v_a_limbs, .ref a_a, .ref a_b, .ref a_c, .ref a_d, v_a_f])), (a_a, .inl (cy 2, 10, .inr (.inl res.1))), (a_b, .inl (cy 2, 10, .inr (.inl res.2.1))), (a_c, .inl (cy 2, 10, .inr (.inl res.2.2.1))), (a_d, .inl (cy 2, 10, .inr (.inl res.2.2.2.1))), (o1, .inr (7, [.ref a1_x, .ref a1_y, .ref a1_z, .int i1_isNone, .int res.2.2.2.2.1])), (a1_x, .inl (cy 2, 10, .inr (.inl res.2.2.2.2.2.1))), (a1_y, .inl (cy 2, 10, .inr (.inl res.2.2.2.2.2.2.1))), (a1_z, .inl (cy 2, 10, .inr (.inl res.2.2.2.2.2.2.2)))] t) A
def I_Cu_makeTwice_213 (p : Program) (l : Launch) (e : Env) (s : State) (m : MethodId) (args : Array Value) (below : List Frame) (meth : Method) (c : Code) (D : va_G) (cy : Nat → ClassId) (A : Nat → Prop) (ad : Nat → Nat) (o : Nat) (r_rows : Value) (v_a_limbs : Value) (v_a_f : Value) (a_a : Nat) (a_b : Nat) (a_c : Nat) (a_d : Nat) (o1 : Nat) (a1_x : Nat) (a1_y : Nat) (a1_z : Nat) (i1_isNone : Int32) (k : Int32 → (Nat → Int64) → (Nat → Int64) → (Nat → Int64) → (Nat → Int64) → Int32 → (Nat → Int64) → (Nat → Int64) → (Nat → Int64) → Option ((Nat → Int64) × (Nat → Int64) × (Nat → Int64) × (Nat → Int64) × Int32 × (Nat → Int64) × (Nat → Int64) × (Nat → Int64))) : Prop :=
  ∀ (x2 : Int32) (u0 : Nat → Int64) (u1 : Nat → Int64) (u2 : Nat → Int64) (u3 : Nat → Int64) (u4 : Int32) (u5 : Nat → Int64) (u6 : Nat → Int64) (u7 : Nat → Int64) (res : (Nat → Int64) × (Nat → Int64) × (Nat → Int64) × (Nat → Int64) × Int32 × (Nat → Int64) × (Nat → Int64) × (Nat → Int64)), k x2 u0 u1 u2 u3 u4 u5 u6 u7 = some res → ∀ (H : Heap) (locs : List Loc) (ls : Array Slot), va_P D classes [(o, .inr (3, [r_rows, v_a_limbs, .ref a_a, .ref a_b, .ref a_c, .ref a_d, v_a_f])), (a_a, .inl (cy 2, 10, .inr (.inl u0))), (a_b, .inl (cy 2, 10, .inr (.inl u1))), (a_c, .inl (cy 2, 10, .inr (.inl u2))), (a_d, .inl (cy 2, 10, .inr (.inl u3))), (o1, .inr (7, [.ref a1_x, .ref a1_y, .ref a1_z, .int i1_isNone, .int u4])), (a1_x, .inl (cy 2, 10, .inr (.inl u5))), (a1_y, .inl (cy 2, 10, .inr (.inl u6))), (a1_z, .inl (cy 2, 10, .inr (.inl u7)))] H → va_D A [(o, .inr (3, [r_rows, v_a_limbs, .ref a_a, .ref a_b, .ref a_c, .ref a_d, v_a_f])), (a_a, .inl (cy 2, 10, .inr (.inl u0))), (a_b, .inl (cy 2, 10, .inr (.inl u1))), (a_c, .inl (cy 2, 10, .inr (.inl u2))), (a_d, .inl (cy 2, 10, .inr (.inl u3))), (o1, .inr (7, [.ref a1_x, .ref a1_y, .ref a1_z, .int i1_isNone, .int u4])), (a1_x, .inl (cy 2, 10, .inr (.inl u5))), (a1_y, .inl (cy 2, 10, .inr (.inl u6))), (a1_z, .inl (cy 2, 10, .inr (.inl u7)))] → va_S A s.heap H locs → lv_has ls 3 [(0, .ref o), (1, .ref o1), (2, .int x2)] → W p l e rm_Cu_makeTwice s m args below meth c H locs 0 0 (MQ below (q_Cu_makeTwice D cy A o r_rows v_a_limbs v_a_f a_a a_b a_c a_d o1 a1_x a1_y a1_z i1_isNone res) args s 0 0 A) (F0 m 213 ls [])
def I_Cu_makeTwice_138 (p : Program) (l : Launch) (e : Env) (s : State) (m : MethodId) (args : Array Value) (below : List Frame) (meth : Method) (c : Code) (D : va_G) (cy : Nat → ClassId) (A : Nat → Prop) (ad : Nat → Nat) (o : Nat) (r_rows : Value) (v_a_limbs : Value) (v_a_f : Value) (a_a : Nat) (a_b : Nat) (a_c : Nat) (a_d : Nat) (o1 : Nat) (a1_x : Nat) (a1_y : Nat) (a1_z : Nat) (i1_isNone : Int32) (k : Int32 → (Nat → Int64) → (Nat → Int64) → (Nat → Int64) → (Nat → Int64) → Int32 → (Nat → Int64) → (Nat → Int64) → (Nat → Int64) → Option ((Nat → Int64) × (Nat → Int64) × (Nat → Int64) × (Nat → Int64) × Int32 × (Nat → Int64) × (Nat → Int64) × (Nat → Int64))) : Prop :=
  ∀ (x2 : Int32) (u0 : Nat → Int64) (u1 : Nat → Int64) (u2 : Nat → Int64) (u3 : Nat → Int64) (u4 : Int32) (u5 : Nat → Int64) (u6 : Nat → Int64) (u7 : Nat → Int64) (res : (Nat → Int64) × (Nat → Int64) × (Nat → Int64) × (Nat → Int64) × Int32 × (Nat → Int64) × (Nat → Int64) × (Nat → Int64)), k x2 u0 u1 u2 u3 u4 u5 u6 u7 = some res → ∀ (H : Heap) (locs : List Loc) (ls : Array Slot), va_P D classes [(o, .inr (3, [r_rows, v_a_limbs, .ref a_a, .ref a_b, .ref a_c, .ref a_d, v_a_f])), (a_a, .inl (cy 2, 10, .inr (.inl u0))), (a_b, .inl (cy 2, 10, .inr (.inl u1))), (a_c, .inl (cy 2, 10, .inr (.inl u2))), (a_d, .inl (cy 2, 10, .inr (.inl u3))), (o1, .inr (7, [.ref a1_x, .ref a1_y, .ref a1_z, .int i1_isNone, .int u4])), (a1_x, .inl (cy 2, 10, .inr (.inl u5))), (a1_y, .inl (cy 2, 10, .inr (.inl u6))), (a1_z, .inl (cy 2, 10, .inr (.inl u7)))] H → va_D A [(o, .inr (3, [r_rows, v_a_limbs, .ref a_a, .ref a_b, .ref a_c, .ref a_d, v_a_f])), (a_a, .inl (cy 2, 10, .inr (.inl u0))), (a_b, .inl (cy 2, 10, .inr (.inl u1))), (a_c, .inl (cy 2, 10, .inr (.inl u2))), (a_d, .inl (cy 2, 10, .inr (.inl u3))), (o1, .inr (7, [.ref a1_x, .ref a1_y, .ref a1_z, .int i1_isNone, .int u4])), (a1_x, .inl (cy 2, 10, .inr (.inl u5))), (a1_y, .inl (cy 2, 10, .inr (.inl u6))), (a1_z, .inl (cy 2, 10, .inr (.inl u7)))] → va_S A s.heap H locs → lv_has ls 3 [(0, .ref o), (1, .ref o1), (2, .int x2)] → W p l e rm_Cu_makeTwice s m args below meth c H locs 0 0 (MQ below (q_Cu_makeTwice D cy A o r_rows v_a_limbs v_a_f a_a a_b a_c a_d o1 a1_x a1_y a1_z i1_isNone res) args s 0 0 A) (F0 m 138 ls [])
def I_Cu_makeTwice_85 (p : Program) (l : Launch) (e : Env) (s : State) (m : MethodId) (args : Array Value) (below : List Frame) (meth : Method) (c : Code) (D : va_G) (cy : Nat → ClassId) (A : Nat → Prop) (ad : Nat → Nat) (o : Nat) (r_rows : Value) (v_a_limbs : Value) (v_a_f : Value) (a_a : Nat) (a_b : Nat) (a_c : Nat) (a_d : Nat) (o1 : Nat) (a1_x : Nat) (a1_y : Nat) (a1_z : Nat) (i1_isNone : Int32) (k : Int32 → (Nat → Int64) → (Nat → Int64) → (Nat → Int64) → (Nat → Int64) → Int32 → (Nat → Int64) → (Nat → Int64) → (Nat → Int64) → Option ((Nat → Int64) × (Nat → Int64) × (Nat → Int64) × (Nat → Int64) × Int32 × (Nat → Int64) × (Nat → Int64) × (Nat → Int64))) : Prop :=
  ∀ (x2 : Int32) (u0 : Nat → Int64) (u1 : Nat → Int64) (u2 : Nat → Int64) (u3 : Nat → Int64) (u4 : Int32) (u5 : Nat → Int64) (u6 : Nat → Int64) (u7 : Nat → Int64) (res : (Nat → Int64) × (Nat → Int64) × (Nat → Int64) × (Nat → Int64) × Int32 × (Nat → Int64) × (Nat → Int64) × (Nat → Int64)), k x2 u0 u1 u2 u3 u4 u5 u6 u7 = some res → ∀ (H : Heap) (locs : List Loc) (ls : Array Slot), va_P D classes [(o, .inr (3, [r_rows, v_a_limbs, .ref a_a, .ref a_b, .ref a_c, .ref a_d, v_a_f])), (a_a, .inl (cy 2, 10, .inr (.inl u0))), (a_b, .inl (cy 2, 10, .inr (.inl u1))), (a_c, .inl (cy 2, 10, .inr (.inl u2))), (a_d, .inl (cy 2, 10, .inr (.inl u3))), (o1, .inr (7, [.ref a1_x, .ref a1_y, .ref a1_z, .int i1_isNone, .int u4])), (a1_x, .inl (cy 2, 10, .inr (.inl u5))), (a1_y, .inl (cy 2, 10, .inr (.inl u6))), (a1_z, .inl (cy 2, 10, .inr (.inl u7)))] H → va_D A [(o, .inr (3, [r_rows, v_a_limbs, .ref a_a, .ref a_b, .ref a_c, .ref a_d, v_a_f])), (a_a, .inl (cy 2, 10, .inr (.inl u0))), (a_b, .inl (cy 2, 10, .inr (.inl u1))), (a_c, .inl (cy 2, 10, .inr (.inl u2))), (a_d, .inl (cy 2, 10, .inr (.inl u3))), (o1, .inr (7, [.ref a1_x, .ref a1_y, .ref a1_z, .int i1_isNone, .int u4])), (a1_x, .inl (cy 2, 10, .inr (.inl u5))), (a1_y, .inl (cy 2, 10, .inr (.inl u6))), (a1_z, .inl (cy 2, 10, .inr (.inl u7)))] → va_S A s.heap H locs → lv_has ls 3 [(0, .ref o), (1, .ref o1), (2, .int x2)] → W p l e rm_Cu_makeTwice s m args below meth c H locs 0 0 (MQ below (q_Cu_makeTwice D cy A o r_rows v_a_limbs v_a_f a_a a_b a_c a_d o1 a1_x a1_y a1_z i1_isNone res) args s 0 0 A) (F0 m 85 ls [])
def I_Cu_makeTwice_e (p : Program) (l : Launch) (e : Env) (s : State) (m : MethodId) (args : Array Value) (below : List Frame) (meth : Method) (c : Code) (D : va_G) (cy : Nat → ClassId) (A : Nat → Prop) (ad : Nat → Nat) (o : Nat) (r_rows : Value) (v_a_limbs : Value) (v_a_f : Value) (a_a : Nat) (a_b : Nat) (a_c : Nat) (a_d : Nat) (o1 : Nat) (a1_x : Nat) (a1_y : Nat) (a1_z : Nat) (i1_isNone : Int32) (k : (Nat → Int64) → (Nat → Int64) → (Nat → Int64) → (Nat → Int64) → Int32 → (Nat → Int64) → (Nat → Int64) → (Nat → Int64) → Option ((Nat → Int64) × (Nat → Int64) × (Nat → Int64) × (Nat → Int64) × Int32 × (Nat → Int64) × (Nat → Int64) × (Nat → Int64))) : Prop :=
  ∀ (u0 : Nat → Int64) (u1 : Nat → Int64) (u2 : Nat → Int64) (u3 : Nat → Int64) (u4 : Int32) (u5 : Nat → Int64) (u6 : Nat → Int64) (u7 : Nat → Int64) (res : (Nat → Int64) × (Nat → Int64) × (Nat → Int64) × (Nat → Int64) × Int32 × (Nat → Int64) × (Nat → Int64) × (Nat → Int64)), k u0 u1 u2 u3 u4 u5 u6 u7 = some res → ∀ (H : Heap) (locs : List Loc) (ls : Array Slot), va_P D classes [(o, .inr (3, [r_rows, v_a_limbs, .ref a_a, .ref a_b, .ref a_c, .ref a_d, v_a_f])), (a_a, .inl (cy 2, 10, .inr (.inl u0))), (a_b, .inl (cy 2, 10, .inr (.inl u1))), (a_c, .inl (cy 2, 10, .inr (.inl u2))), (a_d, .inl (cy 2, 10, .inr (.inl u3))), (o1, .inr (7, [.ref a1_x, .ref a1_y, .ref a1_z, .int i1_isNone, .int u4])), (a1_x, .inl (cy 2, 10, .inr (.inl u5))), (a1_y, .inl (cy 2, 10, .inr (.inl u6))), (a1_z, .inl (cy 2, 10, .inr (.inl u7)))] H → va_D A [(o, .inr (3, [r_rows, v_a_limbs, .ref a_a, .ref a_b, .ref a_c, .ref a_d, v_a_f])), (a_a, .inl (cy 2, 10, .inr (.inl u0))), (a_b, .inl (cy 2, 10, .inr (.inl u1))), (a_c, .inl (cy 2, 10, .inr (.inl u2))), (a_d, .inl (cy 2, 10, .inr (.inl u3))), (o1, .inr (7, [.ref a1_x, .ref a1_y, .ref a1_z, .int i1_isNone, .int u4])), (a1_x, .inl (cy 2, 10, .inr (.inl u5))), (a1_y, .inl (cy 2, 10, .inr (.inl u6))), (a1_z, .inl (cy 2, 10, .inr (.inl u7)))] → va_S A s.heap H locs → lv_has ls 3 [(0, .ref o), (1, .ref o1)] → W p l e rm_Cu_makeTwice s m args below meth c H locs 0 0 (MQ below (q_Cu_makeTwice D cy A o r_rows v_a_limbs v_a_f a_a a_b a_c a_d o1 a1_x a1_y a1_z i1_isNone res) args s 0 0 A) (F0 m 0 ls [])
set_option maxHeartbeats 8000000 in
set_option maxRecDepth 100000 in
theorem wb_Cu_makeTwice_213 {p : Program} {l : Launch} {e : Env} {s : State} {m : MethodId} {args : Array Value} {below : List Frame} {meth : Method} {c : Code} {D : va_G} {cy : Nat → ClassId} {A : Nat → Prop} {ad : Nat → Nat} {o : Nat} {r_rows : Value} {v_a_limbs : Value} {v_a_f : Value} {a_a : Nat} {a_b : Nat} {a_c : Nat} {a_d : Nat} {o1 : Nat} {a1_x : Nat} {a1_y : Nat} {a1_z : Nat} {i1_isNone : Int32} {fu : Nat} {k_213 : Int32 → (Nat → Int64) → (Nat → Int64) → (Nat → Int64) → (Nat → Int64) → Int32 → (Nat → Int64) → (Nat → Int64) → (Nat → Int64) → Option ((Nat → Int64) × (Nat → Int64) × (Nat → Int64) × (Nat → Int64) × Int32 × (Nat → Int64) × (Nat → Int64) × (Nat → Int64))} (F : Fx p s m args meth c b_Cu_makeTwice 3 "CoinKeeper$Curve" "makeTwice" none D cy ad A) (hk_213 : I_Cu_makeTwice_213 p l e s m args below meth c D cy A ad o r_rows v_a_limbs v_a_f a_a a_b a_c a_d o1 a1_x a1_y a1_z i1_isNone k_213) : I_Cu_makeTwice_213 p l e s m args below meth c D cy A ad o r_rows v_a_limbs v_a_f a_a a_b a_c a_d o1 a1_x a1_y a1_z i1_isNone (xb_Cu_makeTwice_213 fu i1_isNone k_213) := by
  obtain ⟨hx, hb, hr, hml, hown, hts, hlocks, hK, hA, hSt, hnm, hex⟩ := id F
  intro x2 u0 u1 u2 u3 u4 u5 u6 u7 res hf H locs ls hP hD hS hl
  unfold xb_Cu_makeTwice_213 at hf
  refine lv_iload_n hx hb d_Cu_makeTwice_213 rfl (lv_at hl 2 rfl) ?_
  refine lv_bipush (v := 10) hx hb d_Cu_makeTwice_214 (by decide) ?_
  refine lv_icmp_ge (tgt := 244) hx hb d_Cu_makeTwice_216 (by decide) (fun cx => ?_) (fun cx => ?_)
  · have hf := ifp cx hf
    refine lv_aload_n hx hb d_Cu_makeTwice_244 rfl (lv_at hl 1 rfl) ?_
    refine lv_iconst (v := 0) hx hb d_Cu_makeTwice_245 (by decide) ?_
    refine va_put (D := D) (ci := 7) (v := .int (0 : Int32)) (ty := .boolean) (C := "CoinKeeper$Point") (T := F_7) (N := 5) hx hb hts i_7 t_7 t_7_ok n_7 hown hK hP hD hS 5 rfl rfl 4 (by decide) (hts _ gw_117) (fun _ h9 => h9) rfl (by decide +kernel) (isb_n (v := 0) (by decide)) (isb_f (v := 0) (by decide)) (Nat.le_of_ble_eq_true rfl) d_Cu_makeTwice_246 (fun H locs hP hD hS => ?_)
    have hP : va_P D classes [(o, .inr (3, [r_rows, v_a_limbs, .ref a_a, .ref a_b, .ref a_c, .ref a_d, v_a_f])), (a_a, .inl (cy 2, 10, .inr (.inl u0))), (a_b, .inl (cy 2, 10, .inr (.inl u1))), (a_c, .inl (cy 2, 10, .inr (.inl u2))), (a_d, .inl (cy 2, 10, .inr (.inl u3))), (o1, .inr (7, [.ref a1_x, .ref a1_y, .ref a1_z, .int i1_isNone, .int (0 : Int32)])), (a1_x, .inl (cy 2, 10, .inr (.inl u5))), (a1_y, .inl (cy 2, 10, .inr (.inl u6))), (a1_z, .inl (cy 2, 10, .inr (.inl u7)))] H := hP
    have hD : va_D A [(o, .inr (3, [r_rows, v_a_limbs, .ref a_a, .ref a_b, .ref a_c, .ref a_d, v_a_f])), (a_a, .inl (cy 2, 10, .inr (.inl u0))), (a_b, .inl (cy 2, 10, .inr (.inl u1))), (a_c, .inl (cy 2, 10, .inr (.inl u2))), (a_d, .inl (cy 2, 10, .inr (.inl u3))), (o1, .inr (7, [.ref a1_x, .ref a1_y, .ref a1_z, .int i1_isNone, .int (0 : Int32)])), (a1_x, .inl (cy 2, 10, .inr (.inl u5))), (a1_y, .inl (cy 2, 10, .inr (.inl u6))), (a1_z, .inl (cy 2, 10, .inr (.inl u7)))] := hD
    obtain rfl := Option.some.inj hf
    exact q_rv hx hb hr hlocks hK hP hD hS d_Cu_makeTwice_249
  · have hf := ifn cx hf
    refine lv_aload_n hx hb d_Cu_makeTwice_219 rfl (lv_at hl 1 rfl) ?_
    refine va_get (D := D) (ci := 7) (v := .ref a1_y) (C := "CoinKeeper$Point") (T := F_7) (N := 5) hx hb hts i_7 hown hK hP 5 rfl rfl 1 (by decide) (hts _ gw_110) (fun _ h9 => h9) rfl d_Cu_makeTwice_220 ?_
    refine lv_iload_n hx hb d_Cu_makeTwice_223 rfl (lv_at hl 2 rfl) ?_
    refine lv_dup2_11 hx hb d_Cu_makeTwice_224 rfl rfl ?_
    obtain ⟨hg, hf⟩ := gdp hf
    refine va_lald hx hb hK hP 7 2 rfl rfl (inb_in hg) d_Cu_makeTwice_225 ?_
    refine lv_topl (fun v1 ev => ?_)
    have hf := bn ev hf
    clear ev
    refine lv_ldc2 (v := 8) hx hb hown (hts _ gw_1148) d_Cu_makeTwice_226 ?_
    refine lv_aload_n hx hb d_Cu_makeTwice_229 rfl (lv_at hl 0 rfl) ?_
    refine va_get (D := D) (ci := 3) (v := .ref a_b) (C := "CoinKeeper$Curve") (T := F_3) (N := 7) hx hb hts i_3 hown hK hP 0 rfl rfl 3 (by decide) (hts _ gw_79) (fun _ h9 => h9) rfl d_Cu_makeTwice_230 ?_
    refine lv_iload_n hx hb d_Cu_makeTwice_233 rfl (lv_at hl 2 rfl) ?_
    obtain ⟨hg, hf⟩ := gdp hf
    refine va_lald hx hb hK hP 2 2 rfl rfl (inb_in hg) d_Cu_makeTwice_234 ?_
    refine lv_topl (fun v2 ev => ?_)
    have hf := bn ev hf
    clear ev
    refine lv_lmul hx hb d_Cu_makeTwice_235 ?_
    refine lv_lsub hx hb d_Cu_makeTwice_236 ?_
    refine lv_topl (fun v3 ev => ?_)
    have hf := bn ev hf
    clear ev
    obtain ⟨hg, hf⟩ := gdp hf
    refine va_last hx hb hK hP hD hS 7 2 rfl rfl (inb_in hg) d_Cu_makeTwice_237 (fun H locs hP hD hS => ?_)
    obtain ⟨f4, ev, hf⟩ := bne hf
    have hP : va_P D classes [(o, .inr (3, [r_rows, v_a_limbs, .ref a_a, .ref a_b, .ref a_c, .ref a_d, v_a_f])), (a_a, .inl (cy 2, 10, .inr (.inl u0))), (a_b, .inl (cy 2, 10, .inr (.inl u1))), (a_c, .inl (cy 2, 10, .inr (.inl u2))), (a_d, .inl (cy 2, 10, .inr (.inl u3))), (o1, .inr (7, [.ref a1_x, .ref a1_y, .ref a1_z, .int i1_isNone, .int u4])), (a1_x, .inl (cy 2, 10, .inr (.inl u5))), (a1_y, .inl (cy 2, 10, .inr (.inl f4))), (a1_z, .inl (cy 2, 10, .inr (.inl u7)))] H := by rw [ev]; exact hP
    have hD : va_D A [(o, .inr (3, [r_rows, v_a_limbs, .ref a_a, .ref a_b, .ref a_c, .ref a_d, v_a_f])), (a_a, .inl (cy 2, 10, .inr (.inl u0))), (a_b, .inl (cy 2, 10, .inr (.inl u1))), (a_c, .inl (cy 2, 10, .inr (.inl u2))), (a_d, .inl (cy 2, 10, .inr (.inl u3))), (o1, .inr (7, [.ref a1_x, .ref a1_y, .ref a1_z, .int i1_isNone, .int u4])), (a1_x, .inl (cy 2, 10, .inr (.inl u5))), (a1_y, .inl (cy 2, 10, .inr (.inl f4))), (a1_z, .inl (cy 2, 10, .inr (.inl u7)))] := by rw [ev]; exact hD
    clear ev
    obtain ⟨v5, ev, hf⟩ := bne hf
    refine lv_iinc (v := v5) (lv' := [(2, .int v5), (0, .ref o), (1, .ref o1)]) hx hb d_Cu_makeTwice_238 hl (k := 2) rfl (by rw [ev]; rfl) (by decide) rfl (fun ls hl => ?_)
    clear ev
    refine lv_goto (tgt := 213) hx hb d_Cu_makeTwice_241 (by decide) ?_
    exact hk_213 _ _ _ _ _ _ _ _ _ _ hf _ _ _ hP hD hS (lv_sub hl [1, 2, 0] rfl)
theorem w_Cu_makeTwice_213 {p : Program} {l : Launch} {e : Env} {s : State} {m : MethodId} {args : Array Value} {below : List Frame} {meth : Method} {c : Code} {D : va_G} {cy : Nat → ClassId} {A : Nat → Prop} {ad : Nat → Nat} {o : Nat} {r_rows : Value} {v_a_limbs : Value} {v_a_f : Value} {a_a : Nat} {a_b : Nat} {a_c : Nat} {a_d : Nat} {o1 : Nat} {a1_x : Nat} {a1_y : Nat} {a1_z : Nat} {i1_isNone : Int32} {fu : Nat} (F : Fx p s m args meth c b_Cu_makeTwice 3 "CoinKeeper$Curve" "makeTwice" none D cy ad A) : ∀ n : Nat, I_Cu_makeTwice_213 p l e s m args below meth c D cy A ad o r_rows v_a_limbs v_a_f a_a a_b a_c a_d o1 a1_x a1_y a1_z i1_isNone (x_Cu_makeTwice_213 fu i1_isNone n)
  | 0 => fun _ _ _ _ _ _ _ _ _ _ hf => nomatch (show (none : Option ((Nat → Int64) × (Nat → Int64) × (Nat → Int64) × (Nat → Int64) × Int32 × (Nat → Int64) × (Nat → Int64) × (Nat → Int64))) = some _ from hf)
  | n + 1 => wb_Cu_makeTwice_213 F (w_Cu_makeTwice_213 F n)
set_option maxHeartbeats 8000000 in
set_option maxRecDepth 100000 in
theorem wb_Cu_makeTwice_138 {p : Program} {l : Launch} {e : Env} {s : State} {m : MethodId} {args : Array Value} {below : List Frame} {meth : Method} {c : Code} {D : va_G} {cy : Nat → ClassId} {A : Nat → Prop} {ad : Nat → Nat} {o : Nat} {r_rows : Value} {v_a_limbs : Value} {v_a_f : Value} {a_a : Nat} {a_b : Nat} {a_c : Nat} {a_d : Nat} {o1 : Nat} {a1_x : Nat} {a1_y : Nat} {a1_z : Nat} {i1_isNone : Int32} {fu : Nat} {k_138 : Int32 → (Nat → Int64) → (Nat → Int64) → (Nat → Int64) → (Nat → Int64) → Int32 → (Nat → Int64) → (Nat → Int64) → (Nat → Int64) → Option ((Nat → Int64) × (Nat → Int64) × (Nat → Int64) × (Nat → Int64) × Int32 × (Nat → Int64) × (Nat → Int64) × (Nat → Int64))} (F : Fx p s m args meth c b_Cu_makeTwice 3 "CoinKeeper$Curve" "makeTwice" none D cy ad A) (hk_138 : I_Cu_makeTwice_138 p l e s m args below meth c D cy A ad o r_rows v_a_limbs v_a_f a_a a_b a_c a_d o1 a1_x a1_y a1_z i1_isNone k_138) : I_Cu_makeTwice_138 p l e s m args below meth c D cy A ad o r_rows v_a_limbs v_a_f a_a a_b a_c a_d o1 a1_x a1_y a1_z i1_isNone (xb_Cu_makeTwice_138 fu i1_isNone k_138) := by
  obtain ⟨hx, hb, hr, hml, hown, hts, hlocks, hK, hA, hSt, hnm, hex⟩ := id F
  intro x2 u0 u1 u2 u3 u4 u5 u6 u7 res hf H locs ls hP hD hS hl
  unfold xb_Cu_makeTwice_138 at hf
  refine lv_iload_n hx hb d_Cu_makeTwice_138 rfl (lv_at hl 2 rfl) ?_
  refine lv_bipush (v := 10) hx hb d_Cu_makeTwice_139 (by decide) ?_
  refine lv_icmp_ge (tgt := 196) hx hb d_Cu_makeTwice_141 (by decide) (fun cx => ?_) (fun cx => ?_)
  · have hf := ifp cx hf
    refine lv_aload_n hx hb d_Cu_makeTwice_196 rfl (lv_at hl 0 rfl) ?_
    refine va_get (D := D) (ci := 3) (v := .ref a_a) (C := "CoinKeeper$Curve") (T := F_3) (N := 7) hx hb hts i_3 hown hK hP 0 rfl rfl 2 (by decide) (hts _ gw_78) (fun _ h9 => h9) rfl d_Cu_makeTwice_197 ?_
    refine lv_aload_n hx hb d_Cu_makeTwice_200 rfl (lv_at hl 0 rfl) ?_
    refine va_get (D := D) (ci := 3) (v := .ref a_c) (C := "CoinKeeper$Curve") (T := F_3) (N := 7) hx hb hts i_3 hown hK hP 0 rfl rfl 4 (by decide) (hts _ gw_80) (fun _ h9 => h9) rfl d_Cu_makeTwice_201 ?_
    refine lv_aload_n hx hb d_Cu_makeTwice_204 rfl (lv_at hl 1 rfl) ?_
    refine va_get (D := D) (ci := 7) (v := .ref a1_y) (C := "CoinKeeper$Point") (T := F_7) (N := 5) hx hb hts i_7 hown hK hP 5 rfl rfl 1 (by decide) (hts _ gw_110) (fun _ h9 => h9) rfl d_Cu_makeTwice_205 ?_
    obtain ⟨f1, hc, hf⟩ := bdp1 hf
    refine q_av (wr := [(o, .inr (3, [r_rows, v_a_limbs, .ref a_a, .ref a_b, .ref a_c, .ref a_d, v_a_f])), (a_b, .inl (cy 2, 10, .inr (.inl u1))), (a_d, .inl (cy 2, 10, .inr (.inl u3))), (o1, .inr (7, [.ref a1_x, .ref a1_y, .ref a1_z, .int i1_isNone, .int u4])), (a1_x, .inl (cy 2, 10, .inr (.inl u5))), (a1_z, .inl (cy 2, 10, .inr (.inl u7)))]) (va_runS (As := [.ref a_a, .ref a_c, .ref a1_y]) (rest := []) ⟨hx, hb, hml, hown, hts⟩ (c_Cu_multiply l D cy ad fu a_a a_c a1_y u0 u2 u6 _ hc H.size) ⟨q_cB hts gw_1078 gw_4 gw_1076 hdc_18 ⟨by decide, by decide⟩, hts _ gw_1077⟩ (q_pre (hP.sub [1, 3, 7] rfl) (hD.sub [1, 3, 7] (by decide) rfl) hK hSt hS (va_free hD hS hA [1, 3, 7] rfl) _) rfl rfl hl.1 rfl (lv_room (Nat.le_of_ble_eq_true rfl)) d_Cu_makeTwice_208 ⟨Nat.le_of_ble_eq_true rfl, Nat.le_of_ble_eq_true rfl⟩) hP hD hS hA [1, 3, 7] [0, 2, 4, 5, 6, 8] rfl rfl (by decide) (by decide) (fun H locs hP hD hS => ?_)
    clear hc
    have hP : va_P D classes [(o, .inr (3, [r_rows, v_a_limbs, .ref a_a, .ref a_b, .ref a_c, .ref a_d, v_a_f])), (a_b, .inl (cy 2, 10, .inr (.inl u1))), (a_d, .inl (cy 2, 10, .inr (.inl u3))), (o1, .inr (7, [.ref a1_x, .ref a1_y, .ref a1_z, .int i1_isNone, .int u4])), (a1_x, .inl (cy 2, 10, .inr (.inl u5))), (a1_z, .inl (cy 2, 10, .inr (.inl u7))), (a_a, .inl (cy 2, 10, .inr (.inl u0))), (a_c, .inl (cy 2, 10, .inr (.inl u2))), (a1_y, .inl (cy 2, 10, .inr (.inl f1)))] H := hP
    have hD : va_D A [(o, .inr (3, [r_rows, v_a_limbs, .ref a_a, .ref a_b, .ref a_c, .ref a_d, v_a_f])), (a_b, .inl (cy 2, 10, .inr (.inl u1))), (a_d, .inl (cy 2, 10, .inr (.inl u3))), (o1, .inr (7, [.ref a1_x, .ref a1_y, .ref a1_z, .int i1_isNone, .int u4])), (a1_x, .inl (cy 2, 10, .inr (.inl u5))), (a1_z, .inl (cy 2, 10, .inr (.inl u7))), (a_a, .inl (cy 2, 10, .inr (.inl u0))), (a_c, .inl (cy 2, 10, .inr (.inl u2))), (a1_y, .inl (cy 2, 10, .inr (.inl f1)))] := hD
    refine lv_iconst (v := 0) hx hb d_Cu_makeTwice_211 (by decide) ?_
    refine lv_istore_n (lv' := [(2, .int (0 : Int32)), (0, .ref o), (1, .ref o1)]) hx hb d_Cu_makeTwice_212 rfl hl (by decide) rfl (fun ls hl => ?_)
    exact w_Cu_makeTwice_213 F fu _ _ _ _ _ _ _ _ _ _ hf _ _ _ (hP.sub (ws' := [(o, .inr (3, [r_rows, v_a_limbs, .ref a_a, .ref a_b, .ref a_c, .ref a_d, v_a_f])), (a_a, .inl (cy 2, 10, .inr (.inl u0))), (a_b, .inl (cy 2, 10, .inr (.inl u1))), (a_c, .inl (cy 2, 10, .inr (.inl u2))), (a_d, .inl (cy 2, 10, .inr (.inl u3))), (o1, .inr (7, [.ref a1_x, .ref a1_y, .ref a1_z, .int i1_isNone, .int u4])), (a1_x, .inl (cy 2, 10, .inr (.inl u5))), (a1_y, .inl (cy 2, 10, .inr (.inl f1))), (a1_z, .inl (cy 2, 10, .inr (.inl u7)))]) [0, 6, 1, 7, 2, 3, 4, 8, 5] rfl) (hD.sub (ws' := [(o, .inr (3, [r_rows, v_a_limbs, .ref a_a, .ref a_b, .ref a_c, .ref a_d, v_a_f])), (a_a, .inl (cy 2, 10, .inr (.inl u0))), (a_b, .inl (cy 2, 10, .inr (.inl u1))), (a_c, .inl (cy 2, 10, .inr (.inl u2))), (a_d, .inl (cy 2, 10, .inr (.inl u3))), (o1, .inr (7, [.ref a1_x, .ref a1_y, .ref a1_z, .int i1_isNone, .int u4])), (a1_x, .inl (cy 2, 10, .inr (.inl u5))), (a1_y, .inl (cy 2, 10, .inr (.inl f1))), (a1_z, .inl (cy 2, 10, .inr (.inl u7)))]) [0, 6, 1, 7, 2, 3, 4, 8, 5] (by decide) rfl) hS (lv_sub hl [1, 2, 0] rfl)
  · have hf := ifn cx hf
    refine lv_aload_n hx hb d_Cu_makeTwice_144 rfl (lv_at hl 1 rfl) ?_
    refine va_get (D := D) (ci := 7) (v := .ref a1_x) (C := "CoinKeeper$Point") (T := F_7) (N := 5) hx hb hts i_7 hown hK hP 5 rfl rfl 0 (by decide) (hts _ gw_108) (fun _ h9 => h9) rfl d_Cu_makeTwice_145 ?_
    refine lv_iload_n hx hb d_Cu_makeTwice_148 rfl (lv_at hl 2 rfl) ?_
    refine lv_aload_n hx hb d_Cu_makeTwice_149 rfl (lv_at hl 0 rfl) ?_
    refine va_get (D := D) (ci := 3) (v := .ref a_d) (C := "CoinKeeper$Curve") (T := F_3) (N := 7) hx hb hts i_3 hown hK hP 0 rfl rfl 5 (by decide) (hts _ gw_81) (fun _ h9 => h9) rfl d_Cu_makeTwice_150 ?_
    refine lv_iload_n hx hb d_Cu_makeTwice_153 rfl (lv_at hl 2 rfl) ?_
    obtain ⟨hg, hf⟩ := gdp hf
    refine va_lald hx hb hK hP 4 2 rfl rfl (inb_in hg) d_Cu_makeTwice_154 ?_
    refine lv_topl (fun v2 ev => ?_)
    have hf := bn ev hf
    clear ev
    refine lv_ldc2 (v := 8) hx hb hown (hts _ gw_1148) d_Cu_makeTwice_155 ?_
    refine lv_aload_n hx hb d_Cu_makeTwice_158 rfl (lv_at hl 0 rfl) ?_
    refine va_get (D := D) (ci := 3) (v := .ref a_c) (C := "CoinKeeper$Curve") (T := F_3) (N := 7) hx hb hts i_3 hown hK hP 0 rfl rfl 4 (by decide) (hts _ gw_80) (fun _ h9 => h9) rfl d_Cu_makeTwice_159 ?_
    refine lv_iload_n hx hb d_Cu_makeTwice_162 rfl (lv_at hl 2 rfl) ?_
    obtain ⟨hg, hf⟩ := gdp hf
    refine va_lald hx hb hK hP 3 2 rfl rfl (inb_in hg) d_Cu_makeTwice_163 ?_
    refine lv_topl (fun v3 ev => ?_)
    have hf := bn ev hf
    clear ev
    refine lv_lmul hx hb d_Cu_makeTwice_164 ?_
    refine lv_lsub hx hb d_Cu_makeTwice_165 ?_
    refine lv_topl (fun v4 ev => ?_)
    have hf := bn ev hf
    clear ev
    obtain ⟨hg, hf⟩ := gdp hf
    refine va_last hx hb hK hP hD hS 6 2 rfl rfl (inb_in hg) d_Cu_makeTwice_166 (fun H locs hP hD hS => ?_)
    obtain ⟨f5, ev, hf⟩ := bne hf
    have hP : va_P D classes [(o, .inr (3, [r_rows, v_a_limbs, .ref a_a, .ref a_b, .ref a_c, .ref a_d, v_a_f])), (a_a, .inl (cy 2, 10, .inr (.inl u0))), (a_b, .inl (cy 2, 10, .inr (.inl u1))), (a_c, .inl (cy 2, 10, .inr (.inl u2))), (a_d, .inl (cy 2, 10, .inr (.inl u3))), (o1, .inr (7, [.ref a1_x, .ref a1_y, .ref a1_z, .int i1_isNone, .int u4])), (a1_x, .inl (cy 2, 10, .inr (.inl f5))), (a1_y, .inl (cy 2, 10, .inr (.inl u6))), (a1_z, .inl (cy 2, 10, .inr (.inl u7)))] H := by rw [ev]; exact hP
    have hD : va_D A [(o, .inr (3, [r_rows, v_a_limbs, .ref a_a, .ref a_b, .ref a_c, .ref a_d, v_a_f])), (a_a, .inl (cy 2, 10, .inr (.inl u0))), (a_b, .inl (cy 2, 10, .inr (.inl u1))), (a_c, .inl (cy 2, 10, .inr (.inl u2))), (a_d, .inl (cy 2, 10, .inr (.inl u3))), (o1, .inr (7, [.ref a1_x, .ref a1_y, .ref a1_z, .int i1_isNone, .int u4])), (a1_x, .inl (cy 2, 10, .inr (.inl f5))), (a1_y, .inl (cy 2, 10, .inr (.inl u6))), (a1_z, .inl (cy 2, 10, .inr (.inl u7)))] := by rw [ev]; exact hD
    clear ev
    refine lv_aload_n hx hb d_Cu_makeTwice_167 rfl (lv_at hl 0 rfl) ?_
    refine va_get (D := D) (ci := 3) (v := .ref a_c) (C := "CoinKeeper$Curve") (T := F_3) (N := 7) hx hb hts i_3 hown hK hP 0 rfl rfl 4 (by decide) (hts _ gw_80) (fun _ h9 => h9) rfl d_Cu_makeTwice_168 ?_
    refine lv_iload_n hx hb d_Cu_makeTwice_171 rfl (lv_at hl 2 rfl) ?_
    refine lv_ldc2 (v := 4) hx hb hown (hts _ gw_1149) d_Cu_makeTwice_172 ?_
    refine lv_aload_n hx hb d_Cu_makeTwice_175 rfl (lv_at hl 0 rfl) ?_
    refine va_get (D := D) (ci := 3) (v := .ref a_c) (C := "CoinKeeper$Curve") (T := F_3) (N := 7) hx hb hts i_3 hown hK hP 0 rfl rfl 4 (by decide) (hts _ gw_80) (fun _ h9 => h9) rfl d_Cu_makeTwice_176 ?_
    refine lv_iload_n hx hb d_Cu_makeTwice_179 rfl (lv_at hl 2 rfl) ?_
    obtain ⟨hg, hf⟩ := gdp hf
    refine va_lald hx hb hK hP 3 2 rfl rfl (inb_in hg) d_Cu_makeTwice_180 ?_
    refine lv_topl (fun v6 ev => ?_)
    have hf := bn ev hf
    clear ev
    refine lv_lmul hx hb d_Cu_makeTwice_181 ?_
    refine lv_topl (fun v7 ev => ?_)
    have hf := bn ev hf
    clear ev
    refine lv_aload_n hx hb d_Cu_makeTwice_182 rfl (lv_at hl 1 rfl) ?_
    refine va_get (D := D) (ci := 7) (v := .ref a1_x) (C := "CoinKeeper$Point") (T := F_7) (N := 5) hx hb hts i_7 hown hK hP 5 rfl rfl 0 (by decide) (hts _ gw_108) (fun _ h9 => h9) rfl d_Cu_makeTwice_183 ?_
    refine lv_iload_n hx hb d_Cu_makeTwice_186 rfl (lv_at hl 2 rfl) ?_
    obtain ⟨hg, hf⟩ := gdp hf
    refine va_lald hx hb hK hP 6 2 rfl rfl (inb_in hg) d_Cu_makeTwice_187 ?_
    refine lv_topl (fun v8 ev => ?_)
    have hf := bn ev hf
    clear ev
    refine lv_lsub hx hb d_Cu_makeTwice_188 ?_
    refine lv_topl (fun v9 ev => ?_)
    have hf := bn ev hf
    clear ev
    obtain ⟨hg, hf⟩ := gdp hf
    refine va_last hx hb hK hP hD hS 3 2 rfl rfl (inb_in hg) d_Cu_makeTwice_189 (fun H locs hP hD hS => ?_)
    obtain ⟨f10, ev, hf⟩ := bne hf
    have hP : va_P D classes [(o, .inr (3, [r_rows, v_a_limbs, .ref a_a, .ref a_b, .ref a_c, .ref a_d, v_a_f])), (a_a, .inl (cy 2, 10, .inr (.inl u0))), (a_b, .inl (cy 2, 10, .inr (.inl u1))), (a_c, .inl (cy 2, 10, .inr (.inl f10))), (a_d, .inl (cy 2, 10, .inr (.inl u3))), (o1, .inr (7, [.ref a1_x, .ref a1_y, .ref a1_z, .int i1_isNone, .int u4])), (a1_x, .inl (cy 2, 10, .inr (.inl f5))), (a1_y, .inl (cy 2, 10, .inr (.inl u6))), (a1_z, .inl (cy 2, 10, .inr (.inl u7)))] H := by rw [ev]; exact hP
    have hD : va_D A [(o, .inr (3, [r_rows, v_a_limbs, .ref a_a, .ref a_b, .ref a_c, .ref a_d, v_a_f])), (a_a, .inl (cy 2, 10, .inr (.inl u0))), (a_b, .inl (cy 2, 10, .inr (.inl u1))), (a_c, .inl (cy 2, 10, .inr (.inl f10))), (a_d, .inl (cy 2, 10, .inr (.inl u3))), (o1, .inr (7, [.ref a1_x, .ref a1_y, .ref a1_z, .int i1_isNone, .int u4])), (a1_x, .inl (cy 2, 10, .inr (.inl f5))), (a1_y, .inl (cy 2, 10, .inr (.inl u6))), (a1_z, .inl (cy 2, 10, .inr (.inl u7)))] := by rw [ev]; exact hD
    clear ev
    obtain ⟨v11, ev, hf⟩ := bne hf
    refine lv_iinc (v := v11) (lv' := [(2, .int v11), (0, .ref o), (1, .ref o1)]) hx hb d_Cu_makeTwice_190 hl (k := 2) rfl (by rw [ev]; rfl) (by decide) rfl (fun ls hl => ?_)
    clear ev
    refine lv_goto (tgt := 138) hx hb d_Cu_makeTwice_193 (by decide) ?_
    exact hk_138 _ _ _ _ _ _ _ _ _ _ hf _ _ _ hP hD hS (lv_sub hl [1, 2, 0] rfl)
theorem w_Cu_makeTwice_138 {p : Program} {l : Launch} {e : Env} {s : State} {m : MethodId} {args : Array Value} {below : List Frame} {meth : Method} {c : Code} {D : va_G} {cy : Nat → ClassId} {A : Nat → Prop} {ad : Nat → Nat} {o : Nat} {r_rows : Value} {v_a_limbs : Value} {v_a_f : Value} {a_a : Nat} {a_b : Nat} {a_c : Nat} {a_d : Nat} {o1 : Nat} {a1_x : Nat} {a1_y : Nat} {a1_z : Nat} {i1_isNone : Int32} {fu : Nat} (F : Fx p s m args meth c b_Cu_makeTwice 3 "CoinKeeper$Curve" "makeTwice" none D cy ad A) : ∀ n : Nat, I_Cu_makeTwice_138 p l e s m args below meth c D cy A ad o r_rows v_a_limbs v_a_f a_a a_b a_c a_d o1 a1_x a1_y a1_z i1_isNone (x_Cu_makeTwice_138 fu i1_isNone n)
  | 0 => fun _ _ _ _ _ _ _ _ _ _ hf => nomatch (show (none : Option ((Nat → Int64) × (Nat → Int64) × (Nat → Int64) × (Nat → Int64) × Int32 × (Nat → Int64) × (Nat → Int64) × (Nat → Int64))) = some _ from hf)
  | n + 1 => wb_Cu_makeTwice_138 F (w_Cu_makeTwice_138 F n)
set_option maxHeartbeats 8000000 in
set_option maxRecDepth 100000 in
theorem wb_Cu_makeTwice_85 {p : Program} {l : Launch} {e : Env} {s : State} {m : MethodId} {args : Array Value} {below : List Frame} {meth : Method} {c : Code} {D : va_G} {cy : Nat → ClassId} {A : Nat → Prop} {ad : Nat → Nat} {o : Nat} {r_rows : Value} {v_a_limbs : Value} {v_a_f : Value} {a_a : Nat} {a_b : Nat} {a_c : Nat} {a_d : Nat} {o1 : Nat} {a1_x : Nat} {a1_y : Nat} {a1_z : Nat} {i1_isNone : Int32} {fu : Nat} {k_85 : Int32 → (Nat → Int64) → (Nat → Int64) → (Nat → Int64) → (Nat → Int64) → Int32 → (Nat → Int64) → (Nat → Int64) → (Nat → Int64) → Option ((Nat → Int64) × (Nat → Int64) × (Nat → Int64) × (Nat → Int64) × Int32 × (Nat → Int64) × (Nat → Int64) × (Nat → Int64))} (F : Fx p s m args meth c b_Cu_makeTwice 3 "CoinKeeper$Curve" "makeTwice" none D cy ad A) (hk_85 : I_Cu_makeTwice_85 p l e s m args below meth c D cy A ad o r_rows v_a_limbs v_a_f a_a a_b a_c a_d o1 a1_x a1_y a1_z i1_isNone k_85) : I_Cu_makeTwice_85 p l e s m args below meth c D cy A ad o r_rows v_a_limbs v_a_f a_a a_b a_c a_d o1 a1_x a1_y a1_z i1_isNone (xb_Cu_makeTwice_85 fu i1_isNone k_85) := by
  obtain ⟨hx, hb, hr, hml, hown, hts, hlocks, hK, hA, hSt, hnm, hex⟩ := id F
  intro x2 u0 u1 u2 u3 u4 u5 u6 u7 res hf H locs ls hP hD hS hl
  unfold xb_Cu_makeTwice_85 at hf
  refine lv_iload_n hx hb d_Cu_makeTwice_85 rfl (lv_at hl 2 rfl) ?_
  refine lv_bipush (v := 10) hx hb d_Cu_makeTwice_86 (by decide) ?_
  refine lv_icmp_ge (tgt := 121) hx hb d_Cu_makeTwice_88 (by decide) (fun cx => ?_) (fun cx => ?_)
  · have hf := ifp cx hf
    refine lv_aload_n hx hb d_Cu_makeTwice_121 rfl (lv_at hl 0 rfl) ?_
    refine va_get (D := D) (ci := 3) (v := .ref a_a) (C := "CoinKeeper$Curve") (T := F_3) (N := 7) hx hb hts i_3 hown hK hP 0 rfl rfl 2 (by decide) (hts _ gw_78) (fun _ h9 => h9) rfl d_Cu_makeTwice_122 ?_
    refine lv_aload_n hx hb d_Cu_makeTwice_125 rfl (lv_at hl 0 rfl) ?_
    refine va_get (D := D) (ci := 3) (v := .ref a_a) (C := "CoinKeeper$Curve") (T := F_3) (N := 7) hx hb hts i_3 hown hK hP 0 rfl rfl 2 (by decide) (hts _ gw_78) (fun _ h9 => h9) rfl d_Cu_makeTwice_126 ?_
    refine lv_aload_n hx hb d_Cu_makeTwice_129 rfl (lv_at hl 0 rfl) ?_
    refine va_get (D := D) (ci := 3) (v := .ref a_d) (C := "CoinKeeper$Curve") (T := F_3) (N := 7) hx hb hts i_3 hown hK hP 0 rfl rfl 5 (by decide) (hts _ gw_81) (fun _ h9 => h9) rfl d_Cu_makeTwice_130 ?_
    obtain ⟨f1, hc, hf⟩ := bdp1 hf
    refine q_av (wr := [(o, .inr (3, [r_rows, v_a_limbs, .ref a_a, .ref a_b, .ref a_c, .ref a_d, v_a_f])), (a_b, .inl (cy 2, 10, .inr (.inl u1))), (a_c, .inl (cy 2, 10, .inr (.inl u2))), (o1, .inr (7, [.ref a1_x, .ref a1_y, .ref a1_z, .int i1_isNone, .int u4])), (a1_x, .inl (cy 2, 10, .inr (.inl u5))), (a1_y, .inl (cy 2, 10, .inr (.inl u6))), (a1_z, .inl (cy 2, 10, .inr (.inl u7)))]) (va_runS (As := [.ref a_a, .ref a_a, .ref a_d]) (rest := []) ⟨hx, hb, hml, hown, hts⟩ (c_Cu_multiply_e10 l D cy ad fu a_a a_d u0 u3 _ hc H.size) ⟨q_cB hts gw_1078 gw_4 gw_1076 hdc_18 ⟨by decide, by decide⟩, hts _ gw_1077⟩ (q_pre (hP.sub [1, 4] rfl) (hD.sub [1, 4] (by decide) rfl) hK hSt hS (va_free hD hS hA [1, 4] rfl) _) rfl rfl hl.1 rfl (lv_room (Nat.le_of_ble_eq_true rfl)) d_Cu_makeTwice_133 ⟨Nat.le_of_ble_eq_true rfl, Nat.le_of_ble_eq_true rfl⟩) hP hD hS hA [1, 4] [0, 2, 3, 5, 6, 7, 8] rfl rfl (by decide) (by decide) (fun H locs hP hD hS => ?_)
    clear hc
    have hP : va_P D classes [(o, .inr (3, [r_rows, v_a_limbs, .ref a_a, .ref a_b, .ref a_c, .ref a_d, v_a_f])), (a_b, .inl (cy 2, 10, .inr (.inl u1))), (a_c, .inl (cy 2, 10, .inr (.inl u2))), (o1, .inr (7, [.ref a1_x, .ref a1_y, .ref a1_z, .int i1_isNone, .int u4])), (a1_x, .inl (cy 2, 10, .inr (.inl u5))), (a1_y, .inl (cy 2, 10, .inr (.inl u6))), (a1_z, .inl (cy 2, 10, .inr (.inl u7))), (a_a, .inl (cy 2, 10, .inr (.inl u0))), (a_d, .inl (cy 2, 10, .inr (.inl f1)))] H := hP
    have hD : va_D A [(o, .inr (3, [r_rows, v_a_limbs, .ref a_a, .ref a_b, .ref a_c, .ref a_d, v_a_f])), (a_b, .inl (cy 2, 10, .inr (.inl u1))), (a_c, .inl (cy 2, 10, .inr (.inl u2))), (o1, .inr (7, [.ref a1_x, .ref a1_y, .ref a1_z, .int i1_isNone, .int u4])), (a1_x, .inl (cy 2, 10, .inr (.inl u5))), (a1_y, .inl (cy 2, 10, .inr (.inl u6))), (a1_z, .inl (cy 2, 10, .inr (.inl u7))), (a_a, .inl (cy 2, 10, .inr (.inl u0))), (a_d, .inl (cy 2, 10, .inr (.inl f1)))] := hD
    refine lv_iconst (v := 0) hx hb d_Cu_makeTwice_136 (by decide) ?_
    refine lv_istore_n (lv' := [(2, .int (0 : Int32)), (0, .ref o), (1, .ref o1)]) hx hb d_Cu_makeTwice_137 rfl hl (by decide) rfl (fun ls hl => ?_)
    exact w_Cu_makeTwice_138 F fu _ _ _ _ _ _ _ _ _ _ hf _ _ _ (hP.sub (ws' := [(o, .inr (3, [r_rows, v_a_limbs, .ref a_a, .ref a_b, .ref a_c, .ref a_d, v_a_f])), (a_a, .inl (cy 2, 10, .inr (.inl u0))), (a_b, .inl (cy 2, 10, .inr (.inl u1))), (a_c, .inl (cy 2, 10, .inr (.inl u2))), (a_d, .inl (cy 2, 10, .inr (.inl f1))), (o1, .inr (7, [.ref a1_x, .ref a1_y, .ref a1_z, .int i1_isNone, .int u4])), (a1_x, .inl (cy 2, 10, .inr (.inl u5))), (a1_y, .inl (cy 2, 10, .inr (.inl u6))), (a1_z, .inl (cy 2, 10, .inr (.inl u7)))]) [0, 7, 1, 2, 8, 3, 4, 5, 6] rfl) (hD.sub (ws' := [(o, .inr (3, [r_rows, v_a_limbs, .ref a_a, .ref a_b, .ref a_c, .ref a_d, v_a_f])), (a_a, .inl (cy 2, 10, .inr (.inl u0))), (a_b, .inl (cy 2, 10, .inr (.inl u1))), (a_c, .inl (cy 2, 10, .inr (.inl u2))), (a_d, .inl (cy 2, 10, .inr (.inl f1))), (o1, .inr (7, [.ref a1_x, .ref a1_y, .ref a1_z, .int i1_isNone, .int u4])), (a1_x, .inl (cy 2, 10, .inr (.inl u5))), (a1_y, .inl (cy 2, 10, .inr (.inl u6))), (a1_z, .inl (cy 2, 10, .inr (.inl u7)))]) [0, 7, 1, 2, 8, 3, 4, 5, 6] (by decide) rfl) hS (lv_sub hl [1, 2, 0] rfl)
  · have hf := ifn cx hf
    refine lv_aload_n hx hb d_Cu_makeTwice_91 rfl (lv_at hl 0 rfl) ?_
    refine va_get (D := D) (ci := 3) (v := .ref a_a) (C := "CoinKeeper$Curve") (T := F_3) (N := 7) hx hb hts i_3 hown hK hP 0 rfl rfl 2 (by decide) (hts _ gw_78) (fun _ h9 => h9) rfl d_Cu_makeTwice_92 ?_
    refine lv_iload_n hx hb d_Cu_makeTwice_95 rfl (lv_at hl 2 rfl) ?_
    refine lv_dup2_11 hx hb d_Cu_makeTwice_96 rfl rfl ?_
    obtain ⟨hg, hf⟩ := gdp hf
    refine va_lald hx hb hK hP 1 2 rfl rfl (inb_in hg) d_Cu_makeTwice_97 ?_
    refine lv_topl (fun v2 ev => ?_)
    have hf := bn ev hf
    clear ev
    refine lv_ldc2 (v := 3) hx hb hown (hts _ gw_1146) d_Cu_makeTwice_98 ?_
    refine lv_lmul hx hb d_Cu_makeTwice_101 ?_
    refine lv_topl (fun v3 ev => ?_)
    have hf := bn ev hf
    clear ev
    obtain ⟨hg, hf⟩ := gdp hf
    refine va_last hx hb hK hP hD hS 1 2 rfl rfl (inb_in hg) d_Cu_makeTwice_102 (fun H locs hP hD hS => ?_)
    obtain ⟨f4, ev, hf⟩ := bne hf
    have hP : va_P D classes [(o, .inr (3, [r_rows, v_a_limbs, .ref a_a, .ref a_b, .ref a_c, .ref a_d, v_a_f])), (a_a, .inl (cy 2, 10, .inr (.inl f4))), (a_b, .inl (cy 2, 10, .inr (.inl u1))), (a_c, .inl (cy 2, 10, .inr (.inl u2))), (a_d, .inl (cy 2, 10, .inr (.inl u3))), (o1, .inr (7, [.ref a1_x, .ref a1_y, .ref a1_z, .int i1_isNone, .int u4])), (a1_x, .inl (cy 2, 10, .inr (.inl u5))), (a1_y, .inl (cy 2, 10, .inr (.inl u6))), (a1_z, .inl (cy 2, 10, .inr (.inl u7)))] H := by rw [ev]; exact hP
    have hD : va_D A [(o, .inr (3, [r_rows, v_a_limbs, .ref a_a, .ref a_b, .ref a_c, .ref a_d, v_a_f])), (a_a, .inl (cy 2, 10, .inr (.inl f4))), (a_b, .inl (cy 2, 10, .inr (.inl u1))), (a_c, .inl (cy 2, 10, .inr (.inl u2))), (a_d, .inl (cy 2, 10, .inr (.inl u3))), (o1, .inr (7, [.ref a1_x, .ref a1_y, .ref a1_z, .int i1_isNone, .int u4])), (a1_x, .inl (cy 2, 10, .inr (.inl u5))), (a1_y, .inl (cy 2, 10, .inr (.inl u6))), (a1_z, .inl (cy 2, 10, .inr (.inl u7)))] := by rw [ev]; exact hD
    clear ev
    refine lv_aload_n hx hb d_Cu_makeTwice_103 rfl (lv_at hl 1 rfl) ?_
    refine va_get (D := D) (ci := 7) (v := .ref a1_z) (C := "CoinKeeper$Point") (T := F_7) (N := 5) hx hb hts i_7 hown hK hP 5 rfl rfl 2 (by decide) (hts _ gw_112) (fun _ h9 => h9) rfl d_Cu_makeTwice_104 ?_
    refine lv_iload_n hx hb d_Cu_makeTwice_107 rfl (lv_at hl 2 rfl) ?_
    refine lv_dup2_11 hx hb d_Cu_makeTwice_108 rfl rfl ?_
    obtain ⟨hg, hf⟩ := gdp hf
    refine va_lald hx hb hK hP 8 2 rfl rfl (inb_in hg) d_Cu_makeTwice_109 ?_
    refine lv_topl (fun v5 ev => ?_)
    have hf := bn ev hf
    clear ev
    refine lv_ldc2 (v := 2) hx hb hown (hts _ gw_1147) d_Cu_makeTwice_110 ?_
    refine lv_lmul hx hb d_Cu_makeTwice_113 ?_
    refine lv_topl (fun v6 ev => ?_)
    have hf := bn ev hf
    clear ev
    obtain ⟨hg, hf⟩ := gdp hf
    refine va_last hx hb hK hP hD hS 8 2 rfl rfl (inb_in hg) d_Cu_makeTwice_114 (fun H locs hP hD hS => ?_)
    obtain ⟨f7, ev, hf⟩ := bne hf
    have hP : va_P D classes [(o, .inr (3, [r_rows, v_a_limbs, .ref a_a, .ref a_b, .ref a_c, .ref a_d, v_a_f])), (a_a, .inl (cy 2, 10, .inr (.inl f4))), (a_b, .inl (cy 2, 10, .inr (.inl u1))), (a_c, .inl (cy 2, 10, .inr (.inl u2))), (a_d, .inl (cy 2, 10, .inr (.inl u3))), (o1, .inr (7, [.ref a1_x, .ref a1_y, .ref a1_z, .int i1_isNone, .int u4])), (a1_x, .inl (cy 2, 10, .inr (.inl u5))), (a1_y, .inl (cy 2, 10, .inr (.inl u6))), (a1_z, .inl (cy 2, 10, .inr (.inl f7)))] H := by rw [ev]; exact hP
    have hD : va_D A [(o, .inr (3, [r_rows, v_a_limbs, .ref a_a, .ref a_b, .ref a_c, .ref a_d, v_a_f])), (a_a, .inl (cy 2, 10, .inr (.inl f4))), (a_b, .inl (cy 2, 10, .inr (.inl u1))), (a_c, .inl (cy 2, 10, .inr (.inl u2))), (a_d, .inl (cy 2, 10, .inr (.inl u3))), (o1, .inr (7, [.ref a1_x, .ref a1_y, .ref a1_z, .int i1_isNone, .int u4])), (a1_x, .inl (cy 2, 10, .inr (.inl u5))), (a1_y, .inl (cy 2, 10, .inr (.inl u6))), (a1_z, .inl (cy 2, 10, .inr (.inl f7)))] := by rw [ev]; exact hD
    clear ev
    obtain ⟨v8, ev, hf⟩ := bne hf
    refine lv_iinc (v := v8) (lv' := [(2, .int v8), (0, .ref o), (1, .ref o1)]) hx hb d_Cu_makeTwice_115 hl (k := 2) rfl (by rw [ev]; rfl) (by decide) rfl (fun ls hl => ?_)
    clear ev
    refine lv_goto (tgt := 85) hx hb d_Cu_makeTwice_118 (by decide) ?_
    exact hk_85 _ _ _ _ _ _ _ _ _ _ hf _ _ _ hP hD hS (lv_sub hl [1, 2, 0] rfl)
theorem w_Cu_makeTwice_85 {p : Program} {l : Launch} {e : Env} {s : State} {m : MethodId} {args : Array Value} {below : List Frame} {meth : Method} {c : Code} {D : va_G} {cy : Nat → ClassId} {A : Nat → Prop} {ad : Nat → Nat} {o : Nat} {r_rows : Value} {v_a_limbs : Value} {v_a_f : Value} {a_a : Nat} {a_b : Nat} {a_c : Nat} {a_d : Nat} {o1 : Nat} {a1_x : Nat} {a1_y : Nat} {a1_z : Nat} {i1_isNone : Int32} {fu : Nat} (F : Fx p s m args meth c b_Cu_makeTwice 3 "CoinKeeper$Curve" "makeTwice" none D cy ad A) : ∀ n : Nat, I_Cu_makeTwice_85 p l e s m args below meth c D cy A ad o r_rows v_a_limbs v_a_f a_a a_b a_c a_d o1 a1_x a1_y a1_z i1_isNone (x_Cu_makeTwice_85 fu i1_isNone n)
  | 0 => fun _ _ _ _ _ _ _ _ _ _ hf => nomatch (show (none : Option ((Nat → Int64) × (Nat → Int64) × (Nat → Int64) × (Nat → Int64) × Int32 × (Nat → Int64) × (Nat → Int64) × (Nat → Int64))) = some _ from hf)
  | n + 1 => wb_Cu_makeTwice_85 F (w_Cu_makeTwice_85 F n)
set_option maxHeartbeats 8000000 in
set_option maxRecDepth 100000 in
theorem we_Cu_makeTwice {p : Program} {l : Launch} {e : Env} {s : State} {m : MethodId} {args : Array Value} {below : List Frame} {meth : Method} {c : Code} {D : va_G} {cy : Nat → ClassId} {A : Nat → Prop} {ad : Nat → Nat} {o : Nat} {r_rows : Value} {v_a_limbs : Value} {v_a_f : Value} {a_a : Nat} {a_b : Nat} {a_c : Nat} {a_d : Nat} {o1 : Nat} {a1_x : Nat} {a1_y : Nat} {a1_z : Nat} {i1_isNone : Int32} {fu : Nat} (F : Fx p s m args meth c b_Cu_makeTwice 3 "CoinKeeper$Curve" "makeTwice" none D cy ad A) : I_Cu_makeTwice_e p l e s m args below meth c D cy A ad o r_rows v_a_limbs v_a_f a_a a_b a_c a_d o1 a1_x a1_y a1_z i1_isNone (x_Cu_makeTwice fu i1_isNone) := by
  obtain ⟨hx, hb, hr, hml, hown, hts, hlocks, hK, hA, hSt, hnm, hex⟩ := id F
  intro u0 u1 u2 u3 u4 u5 u6 u7 res hf H locs ls hP hD hS hl
  unfold x_Cu_makeTwice at hf
  refine lv_aload_n hx hb d_Cu_makeTwice_0 rfl (lv_at hl 1 rfl) ?_
  refine va_get (D := D) (ci := 7) (v := .int i1_isNone) (C := "CoinKeeper$Point") (T := F_7) (N := 5) hx hb hts i_7 hown hK hP 5 rfl rfl 3 (by decide) (hts _ gw_114) (fun _ h9 => h9) rfl d_Cu_makeTwice_1 ?_
  refine lv_if_eq (tgt := 8) hx hb d_Cu_makeTwice_4 (by decide) (fun cx => ?_) (fun cx => ?_)
  · have hf := ifp cx hf
    refine lv_aload_n hx hb d_Cu_makeTwice_8 rfl (lv_at hl 1 rfl) ?_
    refine va_get (D := D) (ci := 7) (v := .ref a1_y) (C := "CoinKeeper$Point") (T := F_7) (N := 5) hx hb hts i_7 hown hK hP 5 rfl rfl 1 (by decide) (hts _ gw_110) (fun _ h9 => h9) rfl d_Cu_makeTwice_9 ?_
    refine lv_aload_n hx hb d_Cu_makeTwice_12 rfl (lv_at hl 1 rfl) ?_
    refine va_get (D := D) (ci := 7) (v := .ref a1_z) (C := "CoinKeeper$Point") (T := F_7) (N := 5) hx hb hts i_7 hown hK hP 5 rfl rfl 2 (by decide) (hts _ gw_112) (fun _ h9 => h9) rfl d_Cu_makeTwice_13 ?_
    refine lv_aload_n hx hb d_Cu_makeTwice_16 rfl (lv_at hl 1 rfl) ?_
    refine va_get (D := D) (ci := 7) (v := .ref a1_z) (C := "CoinKeeper$Point") (T := F_7) (N := 5) hx hb hts i_7 hown hK hP 5 rfl rfl 2 (by decide) (hts _ gw_112) (fun _ h9 => h9) rfl d_Cu_makeTwice_17 ?_
    obtain ⟨f1, hc, hf⟩ := bdp1 hf
    refine q_av (wr := [(o, .inr (3, [r_rows, v_a_limbs, .ref a_a, .ref a_b, .ref a_c, .ref a_d, v_a_f])), (a_a, .inl (cy 2, 10, .inr (.inl u0))), (a_b, .inl (cy 2, 10, .inr (.inl u1))), (a_c, .inl (cy 2, 10, .inr (.inl u2))), (a_d, .inl (cy 2, 10, .inr (.inl u3))), (o1, .inr (7, [.ref a1_x, .ref a1_y, .ref a1_z, .int i1_isNone, .int u4])), (a1_x, .inl (cy 2, 10, .inr (.inl u5)))]) (va_runS (As := [.ref a1_y, .ref a1_z, .ref a1_z]) (rest := []) ⟨hx, hb, hml, hown, hts⟩ (c_Cu_multiply_e21 l D cy ad fu a1_y a1_z u6 u7 _ hc H.size) ⟨q_cB hts gw_1078 gw_4 gw_1076 hdc_18 ⟨by decide, by decide⟩, hts _ gw_1077⟩ (q_pre (hP.sub [7, 8] rfl) (hD.sub [7, 8] (by decide) rfl) hK hSt hS (va_free hD hS hA [7, 8] rfl) _) rfl rfl hl.1 rfl (lv_room (Nat.le_of_ble_eq_true rfl)) d_Cu_makeTwice_20 ⟨Nat.le_of_ble_eq_true rfl, Nat.le_of_ble_eq_true rfl⟩) hP hD hS hA [7, 8] [0, 1, 2, 3, 4, 5, 6] rfl rfl (by decide) (by decide) (fun H locs hP hD hS => ?_)
    clear hc
    have hP : va_P D classes [(o, .inr (3, [r_rows, v_a_limbs, .ref a_a, .ref a_b, .ref a_c, .ref a_d, v_a_f])), (a_a, .inl (cy 2, 10, .inr (.inl u0))), (a_b, .inl (cy 2, 10, .inr (.inl u1))), (a_c, .inl (cy 2, 10, .inr (.inl u2))), (a_d, .inl (cy 2, 10, .inr (.inl u3))), (o1, .inr (7, [.ref a1_x, .ref a1_y, .ref a1_z, .int i1_isNone, .int u4])), (a1_x, .inl (cy 2, 10, .inr (.inl u5))), (a1_y, .inl (cy 2, 10, .inr (.inl u6))), (a1_z, .inl (cy 2, 10, .inr (.inl f1)))] H := hP
    have hD : va_D A [(o, .inr (3, [r_rows, v_a_limbs, .ref a_a, .ref a_b, .ref a_c, .ref a_d, v_a_f])), (a_a, .inl (cy 2, 10, .inr (.inl u0))), (a_b, .inl (cy 2, 10, .inr (.inl u1))), (a_c, .inl (cy 2, 10, .inr (.inl u2))), (a_d, .inl (cy 2, 10, .inr (.inl u3))), (o1, .inr (7, [.ref a1_x, .ref a1_y, .ref a1_z, .int i1_isNone, .int u4])), (a1_x, .inl (cy 2, 10, .inr (.inl u5))), (a1_y, .inl (cy 2, 10, .inr (.inl u6))), (a1_z, .inl (cy 2, 10, .inr (.inl f1)))] := hD
    refine lv_aload_n hx hb d_Cu_makeTwice_23 rfl (lv_at hl 1 rfl) ?_
    refine va_get (D := D) (ci := 7) (v := .ref a1_x) (C := "CoinKeeper$Point") (T := F_7) (N := 5) hx hb hts i_7 hown hK hP 5 rfl rfl 0 (by decide) (hts _ gw_108) (fun _ h9 => h9) rfl d_Cu_makeTwice_24 ?_
    refine lv_aload_n hx hb d_Cu_makeTwice_27 rfl (lv_at hl 1 rfl) ?_
    refine va_get (D := D) (ci := 7) (v := .ref a1_x) (C := "CoinKeeper$Point") (T := F_7) (N := 5) hx hb hts i_7 hown hK hP 5 rfl rfl 0 (by decide) (hts _ gw_108) (fun _ h9 => h9) rfl d_Cu_makeTwice_28 ?_
    refine lv_aload_n hx hb d_Cu_makeTwice_31 rfl (lv_at hl 0 rfl) ?_
    refine va_get (D := D) (ci := 3) (v := .ref a_a) (C := "CoinKeeper$Curve") (T := F_3) (N := 7) hx hb hts i_3 hown hK hP 0 rfl rfl 2 (by decide) (hts _ gw_78) (fun _ h9 => h9) rfl d_Cu_makeTwice_32 ?_
    obtain ⟨f2, hc, hf⟩ := bdp1 hf
    refine q_av (wr := [(o, .inr (3, [r_rows, v_a_limbs, .ref a_a, .ref a_b, .ref a_c, .ref a_d, v_a_f])), (a_b, .inl (cy 2, 10, .inr (.inl u1))), (a_c, .inl (cy 2, 10, .inr (.inl u2))), (a_d, .inl (cy 2, 10, .inr (.inl u3))), (o1, .inr (7, [.ref a1_x, .ref a1_y, .ref a1_z, .int i1_isNone, .int u4])), (a1_y, .inl (cy 2, 10, .inr (.inl u6))), (a1_z, .inl (cy 2, 10, .inr (.inl f1)))]) (va_runS (As := [.ref a1_x, .ref a1_x, .ref a_a]) (rest := []) ⟨hx, hb, hml, hown, hts⟩ (c_Cu_multiply_e10 l D cy ad fu a1_x a_a u5 u0 _ hc H.size) ⟨q_cB hts gw_1078 gw_4 gw_1076 hdc_18 ⟨by decide, by decide⟩, hts _ gw_1077⟩ (q_pre (hP.sub [6, 1] rfl) (hD.sub [6, 1] (by decide) rfl) hK hSt hS (va_free hD hS hA [6, 1] rfl) _) rfl rfl hl.1 rfl (lv_room (Nat.le_of_ble_eq_true rfl)) d_Cu_makeTwice_35 ⟨Nat.le_of_ble_eq_true rfl, Nat.le_of_ble_eq_true rfl⟩) hP hD hS hA [6, 1] [0, 2, 3, 4, 5, 7, 8] rfl rfl (by decide) (by decide) (fun H locs hP hD hS => ?_)
    clear hc
    have hP : va_P D classes [(o, .inr (3, [r_rows, v_a_limbs, .ref a_a, .ref a_b, .ref a_c, .ref a_d, v_a_f])), (a_b, .inl (cy 2, 10, .inr (.inl u1))), (a_c, .inl (cy 2, 10, .inr (.inl u2))), (a_d, .inl (cy 2, 10, .inr (.inl u3))), (o1, .inr (7, [.ref a1_x, .ref a1_y, .ref a1_z, .int i1_isNone, .int u4])), (a1_y, .inl (cy 2, 10, .inr (.inl u6))), (a1_z, .inl (cy 2, 10, .inr (.inl f1))), (a1_x, .inl (cy 2, 10, .inr (.inl u5))), (a_a, .inl (cy 2, 10, .inr (.inl f2)))] H := hP
    have hD : va_D A [(o, .inr (3, [r_rows, v_a_limbs, .ref a_a, .ref a_b, .ref a_c, .ref a_d, v_a_f])), (a_b, .inl (cy 2, 10, .inr (.inl u1))), (a_c, .inl (cy 2, 10, .inr (.inl u2))), (a_d, .inl (cy 2, 10, .inr (.inl u3))), (o1, .inr (7, [.ref a1_x, .ref a1_y, .ref a1_z, .int i1_isNone, .int u4])), (a1_y, .inl (cy 2, 10, .inr (.inl u6))), (a1_z, .inl (cy 2, 10, .inr (.inl f1))), (a1_x, .inl (cy 2, 10, .inr (.inl u5))), (a_a, .inl (cy 2, 10, .inr (.inl f2)))] := hD
    refine lv_aload_n hx hb d_Cu_makeTwice_38 rfl (lv_at hl 1 rfl) ?_
    refine va_get (D := D) (ci := 7) (v := .ref a1_y) (C := "CoinKeeper$Point") (T := F_7) (N := 5) hx hb hts i_7 hown hK hP 4 rfl rfl 1 (by decide) (hts _ gw_110) (fun _ h9 => h9) rfl d_Cu_makeTwice_39 ?_
    refine lv_aload_n hx hb d_Cu_makeTwice_42 rfl (lv_at hl 1 rfl) ?_
    refine va_get (D := D) (ci := 7) (v := .ref a1_y) (C := "CoinKeeper$Point") (T := F_7) (N := 5) hx hb hts i_7 hown hK hP 4 rfl rfl 1 (by decide) (hts _ gw_110) (fun _ h9 => h9) rfl d_Cu_makeTwice_43 ?_
    refine lv_aload_n hx hb d_Cu_makeTwice_46 rfl (lv_at hl 0 rfl) ?_
    refine va_get (D := D) (ci := 3) (v := .ref a_b) (C := "CoinKeeper$Curve") (T := F_3) (N := 7) hx hb hts i_3 hown hK hP 0 rfl rfl 3 (by decide) (hts _ gw_79) (fun _ h9 => h9) rfl d_Cu_makeTwice_47 ?_
    obtain ⟨f3, hc, hf⟩ := bdp1 hf
    refine q_av (wr := [(o, .inr (3, [r_rows, v_a_limbs, .ref a_a, .ref a_b, .ref a_c, .ref a_d, v_a_f])), (a_c, .inl (cy 2, 10, .inr (.inl u2))), (a_d, .inl (cy 2, 10, .inr (.inl u3))), (o1, .inr (7, [.ref a1_x, .ref a1_y, .ref a1_z, .int i1_isNone, .int u4])), (a1_z, .inl (cy 2, 10, .inr (.inl f1))), (a1_x, .inl (cy 2, 10, .inr (.inl u5))), (a_a, .inl (cy 2, 10, .inr (.inl f2)))]) (va_runS (As := [.ref a1_y, .ref a1_y, .ref a_b]) (rest := []) ⟨hx, hb, hml, hown, hts⟩ (c_Cu_multiply_e10 l D cy ad fu a1_y a_b u6 u1 _ hc H.size) ⟨q_cB hts gw_1078 gw_4 gw_1076 hdc_18 ⟨by decide, by decide⟩, hts _ gw_1077⟩ (q_pre (hP.sub [5, 1] rfl) (hD.sub [5, 1] (by decide) rfl) hK hSt hS (va_free hD hS hA [5, 1] rfl) _) rfl rfl hl.1 rfl (lv_room (Nat.le_of_ble_eq_true rfl)) d_Cu_makeTwice_50 ⟨Nat.le_of_ble_eq_true rfl, Nat.le_of_ble_eq_true rfl⟩) hP hD hS hA [5, 1] [0, 2, 3, 4, 6, 7, 8] rfl rfl (by decide) (by decide) (fun H locs hP hD hS => ?_)
    clear hc
    have hP : va_P D classes [(o, .inr (3, [r_rows, v_a_limbs, .ref a_a, .ref a_b, .ref a_c, .ref a_d, v_a_f])), (a_c, .inl (cy 2, 10, .inr (.inl u2))), (a_d, .inl (cy 2, 10, .inr (.inl u3))), (o1, .inr (7, [.ref a1_x, .ref a1_y, .ref a1_z, .int i1_isNone, .int u4])), (a1_z, .inl (cy 2, 10, .inr (.inl f1))), (a1_x, .inl (cy 2, 10, .inr (.inl u5))), (a_a, .inl (cy 2, 10, .inr (.inl f2))), (a1_y, .inl (cy 2, 10, .inr (.inl u6))), (a_b, .inl (cy 2, 10, .inr (.inl f3)))] H := hP
    have hD : va_D A [(o, .inr (3, [r_rows, v_a_limbs, .ref a_a, .ref a_b, .ref a_c, .ref a_d, v_a_f])), (a_c, .inl (cy 2, 10, .inr (.inl u2))), (a_d, .inl (cy 2, 10, .inr (.inl u3))), (o1, .inr (7, [.ref a1_x, .ref a1_y, .ref a1_z, .int i1_isNone, .int u4])), (a1_z, .inl (cy 2, 10, .inr (.inl f1))), (a1_x, .inl (cy 2, 10, .inr (.inl u5))), (a_a, .inl (cy 2, 10, .inr (.inl f2))), (a1_y, .inl (cy 2, 10, .inr (.inl u6))), (a_b, .inl (cy 2, 10, .inr (.inl f3)))] := hD
    refine lv_aload_n hx hb d_Cu_makeTwice_53 rfl (lv_at hl 1 rfl) ?_
    refine va_get (D := D) (ci := 7) (v := .ref a1_x) (C := "CoinKeeper$Point") (T := F_7) (N := 5) hx hb hts i_7 hown hK hP 3 rfl rfl 0 (by decide) (hts _ gw_108) (fun _ h9 => h9) rfl d_Cu_makeTwice_54 ?_
    refine lv_aload_n hx hb d_Cu_makeTwice_57 rfl (lv_at hl 0 rfl) ?_
    refine va_get (D := D) (ci := 3) (v := .ref a_b) (C := "CoinKeeper$Curve") (T := F_3) (N := 7) hx hb hts i_3 hown hK hP 0 rfl rfl 3 (by decide) (hts _ gw_79) (fun _ h9 => h9) rfl d_Cu_makeTwice_58 ?_
    refine lv_aload_n hx hb d_Cu_makeTwice_61 rfl (lv_at hl 0 rfl) ?_
    refine va_get (D := D) (ci := 3) (v := .ref a_c) (C := "CoinKeeper$Curve") (T := F_3) (N := 7) hx hb hts i_3 hown hK hP 0 rfl rfl 4 (by decide) (hts _ gw_80) (fun _ h9 => h9) rfl d_Cu_makeTwice_62 ?_
    obtain ⟨f4, hc, hf⟩ := bdp1 hf
    refine q_av (wr := [(o, .inr (3, [r_rows, v_a_limbs, .ref a_a, .ref a_b, .ref a_c, .ref a_d, v_a_f])), (a_d, .inl (cy 2, 10, .inr (.inl u3))), (o1, .inr (7, [.ref a1_x, .ref a1_y, .ref a1_z, .int i1_isNone, .int u4])), (a1_z, .inl (cy 2, 10, .inr (.inl f1))), (a_a, .inl (cy 2, 10, .inr (.inl f2))), (a1_y, .inl (cy 2, 10, .inr (.inl u6)))]) (va_runS (As := [.ref a1_x, .ref a_b, .ref a_c]) (rest := []) ⟨hx, hb, hml, hown, hts⟩ (c_Cu_multiply l D cy ad fu a1_x a_b a_c u5 f3 u2 _ hc H.size) ⟨q_cB hts gw_1078 gw_4 gw_1076 hdc_18 ⟨by decide, by decide⟩, hts _ gw_1077⟩ (q_pre (hP.sub [5, 8, 1] rfl) (hD.sub [5, 8, 1] (by decide) rfl) hK hSt hS (va_free hD hS hA [5, 8, 1] rfl) _) rfl rfl hl.1 rfl (lv_room (Nat.le_of_ble_eq_true rfl)) d_Cu_makeTwice_65 ⟨Nat.le_of_ble_eq_true rfl, Nat.le_of_ble_eq_true rfl⟩) hP hD hS hA [5, 8, 1] [0, 2, 3, 4, 6, 7] rfl rfl (by decide) (by decide) (fun H locs hP hD hS => ?_)
    clear hc
    have hP : va_P D classes [(o, .inr (3, [r_rows, v_a_limbs, .ref a_a, .ref a_b, .ref a_c, .ref a_d, v_a_f])), (a_d, .inl (cy 2, 10, .inr (.inl u3))), (o1, .inr (7, [.ref a1_x, .ref a1_y, .ref a1_z, .int i1_isNone, .int u4])), (a1_z, .inl (cy 2, 10, .inr (.inl f1))), (a_a, .inl (cy 2, 10, .inr (.inl f2))), (a1_y, .inl (cy 2, 10, .inr (.inl u6))), (a1_x, .inl (cy 2, 10, .inr (.inl u5))), (a_b, .inl (cy 2, 10, .inr (.inl f3))), (a_c, .inl (cy 2, 10, .inr (.inl f4)))] H := hP
    have hD : va_D A [(o, .inr (3, [r_rows, v_a_limbs, .ref a_a, .ref a_b, .ref a_c, .ref a_d, v_a_f])), (a_d, .inl (cy 2, 10, .inr (.inl u3))), (o1, .inr (7, [.ref a1_x, .ref a1_y, .ref a1_z, .int i1_isNone, .int u4])), (a1_z, .inl (cy 2, 10, .inr (.inl f1))), (a_a, .inl (cy 2, 10, .inr (.inl f2))), (a1_y, .inl (cy 2, 10, .inr (.inl u6))), (a1_x, .inl (cy 2, 10, .inr (.inl u5))), (a_b, .inl (cy 2, 10, .inr (.inl f3))), (a_c, .inl (cy 2, 10, .inr (.inl f4)))] := hD
    refine lv_aload_n hx hb d_Cu_makeTwice_68 rfl (lv_at hl 0 rfl) ?_
    refine va_get (D := D) (ci := 3) (v := .ref a_b) (C := "CoinKeeper$Curve") (T := F_3) (N := 7) hx hb hts i_3 hown hK hP 0 rfl rfl 3 (by decide) (hts _ gw_79) (fun _ h9 => h9) rfl d_Cu_makeTwice_69 ?_
    refine lv_aload_n hx hb d_Cu_makeTwice_72 rfl (lv_at hl 0 rfl) ?_
    refine va_get (D := D) (ci := 3) (v := .ref a_b) (C := "CoinKeeper$Curve") (T := F_3) (N := 7) hx hb hts i_3 hown hK hP 0 rfl rfl 3 (by decide) (hts _ gw_79) (fun _ h9 => h9) rfl d_Cu_makeTwice_73 ?_
    refine lv_aload_n hx hb d_Cu_makeTwice_76 rfl (lv_at hl 0 rfl) ?_
    refine va_get (D := D) (ci := 3) (v := .ref a_b) (C := "CoinKeeper$Curve") (T := F_3) (N := 7) hx hb hts i_3 hown hK hP 0 rfl rfl 3 (by decide) (hts _ gw_79) (fun _ h9 => h9) rfl d_Cu_makeTwice_77 ?_
    obtain ⟨f5, hc, hf⟩ := bdp1 hf
    refine q_av (wr := [(o, .inr (3, [r_rows, v_a_limbs, .ref a_a, .ref a_b, .ref a_c, .ref a_d, v_a_f])), (a_d, .inl (cy 2, 10, .inr (.inl u3))), (o1, .inr (7, [.ref a1_x, .ref a1_y, .ref a1_z, .int i1_isNone, .int u4])), (a1_z, .inl (cy 2, 10, .inr (.inl f1))), (a_a, .inl (cy 2, 10, .inr (.inl f2))), (a1_y, .inl (cy 2, 10, .inr (.inl u6))), (a1_x, .inl (cy 2, 10, .inr (.inl u5))), (a_c, .inl (cy 2, 10, .inr (.inl f4)))]) (va_runS (As := [.ref a_b, .ref a_b, .ref a_b]) (rest := []) ⟨hx, hb, hml, hown, hts⟩ (c_Cu_multiply_e10e20 l D cy ad fu a_b f3 _ hc H.size) ⟨q_cB hts gw_1078 gw_4 gw_1076 hdc_18 ⟨by decide, by decide⟩, hts _ gw_1077⟩ (q_pre (hP.sub [7] rfl) (hD.sub [7] (by decide) rfl) hK hSt hS (va_free hD hS hA [7] rfl) _) rfl rfl hl.1 rfl (lv_room (Nat.le_of_ble_eq_true rfl)) d_Cu_makeTwice_80 ⟨Nat.le_of_ble_eq_true rfl, Nat.le_of_ble_eq_true rfl⟩) hP hD hS hA [7] [0, 1, 2, 3, 4, 5, 6, 8] rfl rfl (by decide) (by decide) (fun H locs hP hD hS => ?_)
    clear hc
    have hP : va_P D classes [(o, .inr (3, [r_rows, v_a_limbs, .ref a_a, .ref a_b, .ref a_c, .ref a_d, v_a_f])), (a_d, .inl (cy 2, 10, .inr (.inl u3))), (o1, .inr (7, [.ref a1_x, .ref a1_y, .ref a1_z, .int i1_isNone, .int u4])), (a1_z, .inl (cy 2, 10, .inr (.inl f1))), (a_a, .inl (cy 2, 10, .inr (.inl f2))), (a1_y, .inl (cy 2, 10, .inr (.inl u6))), (a1_x, .inl (cy 2, 10, .inr (.inl u5))), (a_c, .inl (cy 2, 10, .inr (.inl f4))), (a_b, .inl (cy 2, 10, .inr (.inl f5)))] H := hP
    have hD : va_D A [(o, .inr (3, [r_rows, v_a_limbs, .ref a_a, .ref a_b, .ref a_c, .ref a_d, v_a_f])), (a_d, .inl (cy 2, 10, .inr (.inl u3))), (o1, .inr (7, [.ref a1_x, .ref a1_y, .ref a1_z, .int i1_isNone, .int u4])), (a1_z, .inl (cy 2, 10, .inr (.inl f1))), (a_a, .inl (cy 2, 10, .inr (.inl f2))), (a1_y, .inl (cy 2, 10, .inr (.inl u6))), (a1_x, .inl (cy 2, 10, .inr (.inl u5))), (a_c, .inl (cy 2, 10, .inr (.inl f4))), (a_b, .inl (cy 2, 10, .inr (.inl f5)))] := hD
    refine lv_iconst (v := 0) hx hb d_Cu_makeTwice_83 (by decide) ?_
    refine lv_istore_n (lv' := [(2, .int (0 : Int32)), (0, .ref o), (1, .ref o1)]) hx hb d_Cu_makeTwice_84 rfl hl (by decide) rfl (fun ls hl => ?_)
    exact w_Cu_makeTwice_85 F fu _ _ _ _ _ _ _ _ _ _ hf _ _ _ (hP.sub (ws' := [(o, .inr (3, [r_rows, v_a_limbs, .ref a_a, .ref a_b, .ref a_c, .ref a_d, v_a_f])), (a_a, .inl (cy 2, 10, .inr (.inl f2))), (a_b, .inl (cy 2, 10, .inr (.inl f5))), (a_c, .inl (cy 2, 10, .inr (.inl f4))), (a_d, .inl (cy 2, 10, .inr (.inl u3))), (o1, .inr (7, [.ref a1_x, .ref a1_y, .ref a1_z, .int i1_isNone, .int u4])), (a1_x, .inl (cy 2, 10, .inr (.inl u5))), (a1_y, .inl (cy 2, 10, .inr (.inl u6))), (a1_z, .inl (cy 2, 10, .inr (.inl f1)))]) [0, 4, 8, 7, 1, 2, 6, 5, 3] rfl) (hD.sub (ws' := [(o, .inr (3, [r_rows, v_a_limbs, .ref a_a, .ref a_b, .ref a_c, .ref a_d, v_a_f])), (a_a, .inl (cy 2, 10, .inr (.inl f2))), (a_b, .inl (cy 2, 10, .inr (.inl f5))), (a_c, .inl (cy 2, 10, .inr (.inl f4))), (a_d, .inl (cy 2, 10, .inr (.inl u3))), (o1, .inr (7, [.ref a1_x, .ref a1_y, .ref a1_z, .int i1_isNone, .int u4])), (a1_x, .inl (cy 2, 10, .inr (.inl u5))), (a1_y, .inl (cy 2, 10, .inr (.inl u6))), (a1_z, .inl (cy 2, 10, .inr (.inl f1)))]) [0, 4, 8, 7, 1, 2, 6, 5, 3] (by decide) rfl) hS (lv_sub hl [1, 2, 0] rfl)
  · have hf := ifn cx hf
    obtain rfl := Option.some.inj hf
    exact q_rv hx hb hr hlocks hK hP hD hS d_Cu_makeTwice_7
theorem c_Cu_makeTwice (l : Launch) (D : va_G) (cy : Nat → ClassId) (ad : Nat → Nat) (fu : Nat) (o : Nat) (r_rows : Value) (v_a_limbs : Value) (v_a_f : Value) (a_a : Nat) (a_b : Nat) (a_c : Nat) (a_d : Nat) (o1 : Nat) (a1_x : Nat) (a1_y : Nat) (a1_z : Nat) (i1_isNone : Int32) (u0 : Nat → Int64) (u1 : Nat → Int64) (u2 : Nat → Int64) (u3 : Nat → Int64) (u4 : Int32) (u5 : Nat → Int64) (u6 : Nat → Int64) (u7 : Nat → Int64) (res : (Nat → Int64) × (Nat → Int64) × (Nat → Int64) × (Nat → Int64) × Int32 × (Nat → Int64) × (Nat → Int64) × (Nat → Int64)) (hf : x_Cu_makeTwice fu i1_isNone u0 u1 u2 u3 u4 u5 u6 u7 = some res) (sz : Nat) : Met l ({ cls := "CoinKeeper$Curve", name := "makeTwice", desc := "(LCoinKeeper$Point;)V" } : Jvm.MethodName) (.code ({ cls := "CoinKeeper$Curve", name := "makeTwice", desc := "(LCoinKeeper$Point;)V" } : Jvm.MethodName) b_Cu_makeTwice 3 none :: gw) rm_Cu_makeTwice (va_Pc [.ref o, .ref o1] (Pr D cy ad [(o, .inr (3, [r_rows, v_a_limbs, .ref a_a, .ref a_b, .ref a_c, .ref a_d, v_a_f])), (a_a, .inl (cy 2, 10, .inr (.inl u0))), (a_b, .inl (cy 2, 10, .inr (.inl u1))), (a_c, .inl (cy 2, 10, .inr (.inl u2))), (a_d, .inl (cy 2, 10, .inr (.inl u3))), (o1, .inr (7, [.ref a1_x, .ref a1_y, .ref a1_z, .int i1_isNone, .int u4])), (a1_x, .inl (cy 2, 10, .inr (.inl u5))), (a1_y, .inl (cy 2, 10, .inr (.inl u6))), (a1_z, .inl (cy 2, 10, .inr (.inl u7)))] sz)) (q_Cu_makeTwice D cy (va_A [(o, .inr (3, [r_rows, v_a_limbs, .ref a_a, .ref a_b, .ref a_c, .ref a_d, v_a_f])), (a_a, .inl (cy 2, 10, .inr (.inl u0))), (a_b, .inl (cy 2, 10, .inr (.inl u1))), (a_c, .inl (cy 2, 10, .inr (.inl u2))), (a_d, .inl (cy 2, 10, .inr (.inl u3))), (o1, .inr (7, [.ref a1_x, .ref a1_y, .ref a1_z, .int i1_isNone, .int u4])), (a1_x, .inl (cy 2, 10, .inr (.inl u5))), (a1_y, .inl (cy 2, 10, .inr (.inl u6))), (a1_z, .inl (cy 2, 10, .inr (.inl u7)))] sz) o r_rows v_a_limbs v_a_f a_a a_b a_c a_d o1 a1_x a1_y a1_z i1_isNone res) 0 0 (va_A [(o, .inr (3, [r_rows, v_a_limbs, .ref a_a, .ref a_b, .ref a_c, .ref a_d, v_a_f])), (a_a, .inl (cy 2, 10, .inr (.inl u0))), (a_b, .inl (cy 2, 10, .inr (.inl u1))), (a_c, .inl (cy 2, 10, .inr (.inl u2))), (a_d, .inl (cy 2, 10, .inr (.inl u3))), (o1, .inr (7, [.ref a1_x, .ref a1_y, .ref a1_z, .int i1_isNone, .int u4])), (a1_x, .inl (cy 2, 10, .inr (.inl u5))), (a1_y, .inl (cy 2, 10, .inr (.inl u6))), (a1_z, .inl (cy 2, 10, .inr (.inl u7)))] sz) :=
  q_met (Qc := fun A => q_Cu_makeTwice D cy A o r_rows v_a_limbs v_a_f a_a a_b a_c a_d o1 a1_x a1_y a1_z i1_isNone res) (by decide) rfl rfl (Nat.le_of_ble_eq_true rfl) (fun p e s m below meth c ls F hP hD hS hl => we_Cu_makeTwice (fu := fu) F u0 u1 u2 u3 u4 u5 u6 u7 res hf _ _ _ hP hD hS hl) sz
