abbrev b_La_readTx : ByteArray := prog_5_method_3_code
theorem d_La_readTx_0 : decode b_La_readTx 0 = .ok (.aload_n 0, 1) := by decide +kernel
theorem d_La_readTx_1 : decode b_La_readTx 1 = .ok (.getfield 11, 3) := by decide +kernel
theorem d_La_readTx_4 : decode b_La_readTx 4 = .ok (.iload_n 1, 1) := by decide +kernel
theorem d_La_readTx_5 : decode b_La_readTx 5 = .ok (.aload_n 0, 1) := by decide +kernel
theorem d_La_readTx_6 : decode b_La_readTx 6 = .ok (.getfield 47, 3) := by decide +kernel
theorem d_La_readTx_9 : decode b_La_readTx 9 = .ok (.iastore, 1) := by decide +kernel
theorem d_La_readTx_10 : decode b_La_readTx 10 = .ok (.aload_n 0, 1) := by decide +kernel
theorem d_La_readTx_11 : decode b_La_readTx 11 = .ok (.getfield 15, 3) := by decide +kernel
theorem d_La_readTx_14 : decode b_La_readTx 14 = .ok (.iload_n 1, 1) := by decide +kernel
theorem d_La_readTx_15 : decode b_La_readTx 15 = .ok (.aload_n 0, 1) := by decide +kernel
theorem d_La_readTx_16 : decode b_La_readTx 16 = .ok (.getfield 53, 3) := by decide +kernel
theorem d_La_readTx_19 : decode b_La_readTx 19 = .ok (.iastore, 1) := by decide +kernel
theorem d_La_readTx_20 : decode b_La_readTx 20 = .ok (.aload_n 0, 1) := by decide +kernel
theorem d_La_readTx_21 : decode b_La_readTx 21 = .ok (.getfield 18, 3) := by decide +kernel
theorem d_La_readTx_24 : decode b_La_readTx 24 = .ok (.iload_n 1, 1) := by decide +kernel
theorem d_La_readTx_25 : decode b_La_readTx 25 = .ok (.aload_n 0, 1) := by decide +kernel
theorem d_La_readTx_26 : decode b_La_readTx 26 = .ok (.getfield 56, 3) := by decide +kernel
theorem d_La_readTx_29 : decode b_La_readTx 29 = .ok (.iastore, 1) := by decide +kernel
theorem d_La_readTx_30 : decode b_La_readTx 30 = .ok (.aload_n 0, 1) := by decide +kernel
theorem d_La_readTx_31 : decode b_La_readTx 31 = .ok (.dup, 1) := by decide +kernel
theorem d_La_readTx_32 : decode b_La_readTx 32 = .ok (.getfield 47, 3) := by decide +kernel
theorem d_La_readTx_35 : decode b_La_readTx 35 = .ok (.iconst 4, 1) := by decide +kernel
theorem d_La_readTx_36 : decode b_La_readTx 36 = .ok (.iadd, 1) := by decide +kernel
theorem d_La_readTx_37 : decode b_La_readTx 37 = .ok (.putfield 47, 3) := by decide +kernel
theorem d_La_readTx_40 : decode b_La_readTx 40 = .ok (.aload_n 0, 1) := by decide +kernel
theorem d_La_readTx_41 : decode b_La_readTx 41 = .ok (.invokevirtual 61, 3) := by decide +kernel
theorem d_La_readTx_44 : decode b_La_readTx 44 = .ok (.lstore_n 2, 1) := by decide +kernel
theorem d_La_readTx_45 : decode b_La_readTx 45 = .ok (.lload_n 2, 1) := by decide +kernel
theorem d_La_readTx_46 : decode b_La_readTx 46 = .ok (.lconst 0, 1) := by decide +kernel
theorem d_La_readTx_47 : decode b_La_readTx 47 = .ok (.lcmp, 1) := by decide +kernel
theorem d_La_readTx_48 : decode b_La_readTx 48 = .ok (.ifCond .lt 22, 3) := by decide +kernel
theorem d_La_readTx_51 : decode b_La_readTx 51 = .ok (.lload_n 2, 1) := by decide +kernel
theorem d_La_readTx_52 : decode b_La_readTx 52 = .ok (.ldc2_w 71, 3) := by decide +kernel
theorem d_La_readTx_55 : decode b_La_readTx 55 = .ok (.lmul, 1) := by decide +kernel
theorem d_La_readTx_56 : decode b_La_readTx 56 = .ok (.aload_n 0, 1) := by decide +kernel
theorem d_La_readTx_57 : decode b_La_readTx 57 = .ok (.getfield 43, 3) := by decide +kernel
theorem d_La_readTx_60 : decode b_La_readTx 60 = .ok (.aload_n 0, 1) := by decide +kernel
theorem d_La_readTx_61 : decode b_La_readTx 61 = .ok (.getfield 47, 3) := by decide +kernel
theorem d_La_readTx_64 : decode b_La_readTx 64 = .ok (.isub, 1) := by decide +kernel
theorem d_La_readTx_65 : decode b_La_readTx 65 = .ok (.i2l, 1) := by decide +kernel
theorem d_La_readTx_66 : decode b_La_readTx 66 = .ok (.lcmp, 1) := by decide +kernel
theorem d_La_readTx_67 : decode b_La_readTx 67 = .ok (.ifCond .le 5, 3) := by decide +kernel
theorem d_La_readTx_70 : decode b_La_readTx 70 = .ok (.iconst 0, 1) := by decide +kernel
theorem d_La_readTx_71 : decode b_La_readTx 71 = .ok (.ireturn, 1) := by decide +kernel
theorem d_La_readTx_72 : decode b_La_readTx 72 = .ok (.iconst 0, 1) := by decide +kernel
theorem d_La_readTx_73 : decode b_La_readTx 73 = .ok (.istore 4, 2) := by decide +kernel
theorem d_La_readTx_75 : decode b_La_readTx 75 = .ok (.iload 4, 2) := by decide +kernel
theorem d_La_readTx_77 : decode b_La_readTx 77 = .ok (.i2l, 1) := by decide +kernel
theorem d_La_readTx_78 : decode b_La_readTx 78 = .ok (.lload_n 2, 1) := by decide +kernel
theorem d_La_readTx_79 : decode b_La_readTx 79 = .ok (.lcmp, 1) := by decide +kernel
theorem d_La_readTx_80 : decode b_La_readTx 80 = .ok (.ifCond .ge 18, 3) := by decide +kernel
theorem d_La_readTx_83 : decode b_La_readTx 83 = .ok (.aload_n 0, 1) := by decide +kernel
theorem d_La_readTx_84 : decode b_La_readTx 84 = .ok (.invokevirtual 73, 3) := by decide +kernel
theorem d_La_readTx_87 : decode b_La_readTx 87 = .ok (.ifCond .ne 5, 3) := by decide +kernel
theorem d_La_readTx_90 : decode b_La_readTx 90 = .ok (.iconst 0, 1) := by decide +kernel
theorem d_La_readTx_91 : decode b_La_readTx 91 = .ok (.ireturn, 1) := by decide +kernel
theorem d_La_readTx_92 : decode b_La_readTx 92 = .ok (.iinc 4 1, 3) := by decide +kernel
theorem d_La_readTx_95 : decode b_La_readTx 95 = .ok (.goto (-20), 3) := by decide +kernel
theorem d_La_readTx_98 : decode b_La_readTx 98 = .ok (.aload_n 0, 1) := by decide +kernel
theorem d_La_readTx_99 : decode b_La_readTx 99 = .ok (.invokevirtual 61, 3) := by decide +kernel
theorem d_La_readTx_102 : decode b_La_readTx 102 = .ok (.lstore_n 2, 1) := by decide +kernel
theorem d_La_readTx_103 : decode b_La_readTx 103 = .ok (.lload_n 2, 1) := by decide +kernel
theorem d_La_readTx_104 : decode b_La_readTx 104 = .ok (.lconst 0, 1) := by decide +kernel
theorem d_La_readTx_105 : decode b_La_readTx 105 = .ok (.lcmp, 1) := by decide +kernel
theorem d_La_readTx_106 : decode b_La_readTx 106 = .ok (.ifCond .lt 22, 3) := by decide +kernel
theorem d_La_readTx_109 : decode b_La_readTx 109 = .ok (.lload_n 2, 1) := by decide +kernel
theorem d_La_readTx_110 : decode b_La_readTx 110 = .ok (.ldc2_w 77, 3) := by decide +kernel
theorem d_La_readTx_113 : decode b_La_readTx 113 = .ok (.lmul, 1) := by decide +kernel
theorem d_La_readTx_114 : decode b_La_readTx 114 = .ok (.aload_n 0, 1) := by decide +kernel
theorem d_La_readTx_115 : decode b_La_readTx 115 = .ok (.getfield 43, 3) := by decide +kernel
theorem d_La_readTx_118 : decode b_La_readTx 118 = .ok (.aload_n 0, 1) := by decide +kernel
theorem d_La_readTx_119 : decode b_La_readTx 119 = .ok (.getfield 47, 3) := by decide +kernel
theorem d_La_readTx_122 : decode b_La_readTx 122 = .ok (.isub, 1) := by decide +kernel
theorem d_La_readTx_123 : decode b_La_readTx 123 = .ok (.i2l, 1) := by decide +kernel
theorem d_La_readTx_124 : decode b_La_readTx 124 = .ok (.lcmp, 1) := by decide +kernel
theorem d_La_readTx_125 : decode b_La_readTx 125 = .ok (.ifCond .le 5, 3) := by decide +kernel
theorem d_La_readTx_128 : decode b_La_readTx 128 = .ok (.iconst 0, 1) := by decide +kernel
theorem d_La_readTx_129 : decode b_La_readTx 129 = .ok (.ireturn, 1) := by decide +kernel
theorem d_La_readTx_130 : decode b_La_readTx 130 = .ok (.iconst 0, 1) := by decide +kernel
theorem d_La_readTx_131 : decode b_La_readTx 131 = .ok (.istore 4, 2) := by decide +kernel
theorem d_La_readTx_133 : decode b_La_readTx 133 = .ok (.iload 4, 2) := by decide +kernel
theorem d_La_readTx_135 : decode b_La_readTx 135 = .ok (.i2l, 1) := by decide +kernel
theorem d_La_readTx_136 : decode b_La_readTx 136 = .ok (.lload_n 2, 1) := by decide +kernel
theorem d_La_readTx_137 : decode b_La_readTx 137 = .ok (.lcmp, 1) := by decide +kernel
theorem d_La_readTx_138 : decode b_La_readTx 138 = .ok (.ifCond .ge 18, 3) := by decide +kernel
theorem d_La_readTx_141 : decode b_La_readTx 141 = .ok (.aload_n 0, 1) := by decide +kernel
theorem d_La_readTx_142 : decode b_La_readTx 142 = .ok (.invokevirtual 79, 3) := by decide +kernel
theorem d_La_readTx_145 : decode b_La_readTx 145 = .ok (.ifCond .ne 5, 3) := by decide +kernel
theorem d_La_readTx_148 : decode b_La_readTx 148 = .ok (.iconst 0, 1) := by decide +kernel
theorem d_La_readTx_149 : decode b_La_readTx 149 = .ok (.ireturn, 1) := by decide +kernel
theorem d_La_readTx_150 : decode b_La_readTx 150 = .ok (.iinc 4 1, 3) := by decide +kernel
theorem d_La_readTx_153 : decode b_La_readTx 153 = .ok (.goto (-20), 3) := by decide +kernel
theorem d_La_readTx_156 : decode b_La_readTx 156 = .ok (.aload_n 0, 1) := by decide +kernel
theorem d_La_readTx_157 : decode b_La_readTx 157 = .ok (.dup, 1) := by decide +kernel
theorem d_La_readTx_158 : decode b_La_readTx 158 = .ok (.getfield 47, 3) := by decide +kernel
theorem d_La_readTx_161 : decode b_La_readTx 161 = .ok (.iconst 4, 1) := by decide +kernel
theorem d_La_readTx_162 : decode b_La_readTx 162 = .ok (.iadd, 1) := by decide +kernel
theorem d_La_readTx_163 : decode b_La_readTx 163 = .ok (.putfield 47, 3) := by decide +kernel
theorem d_La_readTx_166 : decode b_La_readTx 166 = .ok (.aload_n 0, 1) := by decide +kernel
theorem d_La_readTx_167 : decode b_La_readTx 167 = .ok (.getfield 11, 3) := by decide +kernel
theorem d_La_readTx_170 : decode b_La_readTx 170 = .ok (.iload_n 1, 1) := by decide +kernel
theorem d_La_readTx_171 : decode b_La_readTx 171 = .ok (.iconst 1, 1) := by decide +kernel
theorem d_La_readTx_172 : decode b_La_readTx 172 = .ok (.iadd, 1) := by decide +kernel
theorem d_La_readTx_173 : decode b_La_readTx 173 = .ok (.aload_n 0, 1) := by decide +kernel
theorem d_La_readTx_174 : decode b_La_readTx 174 = .ok (.getfield 47, 3) := by decide +kernel
theorem d_La_readTx_177 : decode b_La_readTx 177 = .ok (.iastore, 1) := by decide +kernel
theorem d_La_readTx_178 : decode b_La_readTx 178 = .ok (.aload_n 0, 1) := by decide +kernel
theorem d_La_readTx_179 : decode b_La_readTx 179 = .ok (.getfield 15, 3) := by decide +kernel
theorem d_La_readTx_182 : decode b_La_readTx 182 = .ok (.iload_n 1, 1) := by decide +kernel
theorem d_La_readTx_183 : decode b_La_readTx 183 = .ok (.iconst 1, 1) := by decide +kernel
theorem d_La_readTx_184 : decode b_La_readTx 184 = .ok (.iadd, 1) := by decide +kernel
theorem d_La_readTx_185 : decode b_La_readTx 185 = .ok (.aload_n 0, 1) := by decide +kernel
theorem d_La_readTx_186 : decode b_La_readTx 186 = .ok (.getfield 53, 3) := by decide +kernel
theorem d_La_readTx_189 : decode b_La_readTx 189 = .ok (.iastore, 1) := by decide +kernel
theorem d_La_readTx_190 : decode b_La_readTx 190 = .ok (.aload_n 0, 1) := by decide +kernel
theorem d_La_readTx_191 : decode b_La_readTx 191 = .ok (.getfield 18, 3) := by decide +kernel
theorem d_La_readTx_194 : decode b_La_readTx 194 = .ok (.iload_n 1, 1) := by decide +kernel
theorem d_La_readTx_195 : decode b_La_readTx 195 = .ok (.iconst 1, 1) := by decide +kernel
theorem d_La_readTx_196 : decode b_La_readTx 196 = .ok (.iadd, 1) := by decide +kernel
theorem d_La_readTx_197 : decode b_La_readTx 197 = .ok (.aload_n 0, 1) := by decide +kernel
theorem d_La_readTx_198 : decode b_La_readTx 198 = .ok (.getfield 56, 3) := by decide +kernel
theorem d_La_readTx_201 : decode b_La_readTx 201 = .ok (.iastore, 1) := by decide +kernel
theorem d_La_readTx_202 : decode b_La_readTx 202 = .ok (.aload_n 0, 1) := by decide +kernel
theorem d_La_readTx_203 : decode b_La_readTx 203 = .ok (.getfield 47, 3) := by decide +kernel
theorem d_La_readTx_206 : decode b_La_readTx 206 = .ok (.aload_n 0, 1) := by decide +kernel
theorem d_La_readTx_207 : decode b_La_readTx 207 = .ok (.getfield 43, 3) := by decide +kernel
theorem d_La_readTx_210 : decode b_La_readTx 210 = .ok (.if_icmp .gt 7, 3) := by decide +kernel
theorem d_La_readTx_213 : decode b_La_readTx 213 = .ok (.iconst 1, 1) := by decide +kernel
theorem d_La_readTx_214 : decode b_La_readTx 214 = .ok (.goto 4, 3) := by decide +kernel
theorem d_La_readTx_217 : decode b_La_readTx 217 = .ok (.iconst 0, 1) := by decide +kernel
theorem d_La_readTx_218 : decode b_La_readTx 218 = .ok (.ireturn, 1) := by decide +kernel
abbrev rm_La_readTx : Room := { frames := 2, cells := 0, slots := 0, locals := 47 }
abbrev q_La_readTx (D : va_G) (cy : Nat → ClassId) (A : Nat → Prop) (o : Nat) (a_raw : Nat) (a_txAt : Nat) (a_firstIn : Nat) (a_firstOut : Nat) (a_inAt : Nat) (a_inScript : Nat) (a_inEnd : Nat) (a_outAt : Nat) (a_outScript : Nat) (a_outEnd : Nat) (i_txs : Int32) (i_end : Int32) (n_raw : Nat) (g_raw : Nat → Int32) (res : Int32 × Int32 × Int32 × Int32 × (Nat → Int32) × (Nat → Int32) × (Nat → Int32) × (Nat → Int32) × (Nat → Int32) × (Nat → Int32) × (Nat → Int32) × (Nat → Int32) × (Nat → Int32)) : Array Value → State → Outcome → State → Prop := va_Qi (fun r' (_ : Unit) => r' = res.1) (fun _ t => Po D cy A [(o, .inr (4, [.ref a_raw, .int i_txs, .ref a_txAt, .ref a_firstIn, .ref a_firstOut, .ref a_inAt, .ref a_inScript, .ref a_inEnd, .ref a_outAt, .ref a_outScript, .ref a_outEnd, .int i_end, .int res.2.1, .int res.2.2.1, .int res.2.2.2.1])), (a_raw, .inl (cy 0, n_raw, .inl g_raw)), (a_txAt, .inl (cy 1, 301, .inl res.2.2.2.2.1)), (a_firstIn, .inl (cy 1, 301, .inl res.2.2.2.2.2.1)), (a_firstOut, .inl (cy 1, 301, .inl res.2.2.2.2.2.2.1)), (a_inAt, .inl (cy 1, 73, .inl res.2.2.2.2.2.2.2.1)), (a_inScript, .inl (cy 1, 73, .inl res.2.2.2.2.2.2.2.2.1)), (a_inEnd, .inl (cy 1, 73, .inl res.2.2.2.2.2.2.2.2.2.1)), (a_outAt, .inl (cy 1, 333, .inl res.2.2.2.2.2.2.2.2.2.2.1)), (a_outScript, .inl (cy 1, 333, .inl res.2.2.2.2.2.2.2.2.2.2.2.1)), (a_outEnd, .inl (cy 1, 333, .inl res.2.2.2.2.2.2.2.2.2.2.2.2))] t) A
def I_La_readTx_133 (p : Program) (l : Launch) (e : Env) (s : State) (m : MethodId) (args : Array Value) (below : List Frame) (meth : Method) (c : Code) (D : va_G) (cy : Nat → ClassId) (A : Nat → Prop) (ad : Nat → Nat) (o : Nat) (a_raw : Nat) (a_txAt : Nat) (a_firstIn : Nat) (a_firstOut : Nat) (a_inAt : Nat) (a_inScript : Nat) (a_inEnd : Nat) (a_outAt : Nat) (a_outScript : Nat) (a_outEnd : Nat) (i_txs : Int32) (i_end : Int32) (n_raw : Nat) (g_raw : Nat → Int32) (k : Int32 → Int64 → Int32 → Int32 → Int32 → Int32 → (Nat → Int32) → (Nat → Int32) → (Nat → Int32) → (Nat → Int32) → (Nat → Int32) → (Nat → Int32) → (Nat → Int32) → (Nat → Int32) → (Nat → Int32) → Option (Int32 × Int32 × Int32 × Int32 × (Nat → Int32) × (Nat → Int32) × (Nat → Int32) × (Nat → Int32) × (Nat → Int32) × (Nat → Int32) × (Nat → Int32) × (Nat → Int32) × (Nat → Int32))) : Prop :=
  ∀ (x1 : Int32) (x2 : Int64) (x4 : Int32) (u0 : Int32) (u1 : Int32) (u2 : Int32) (u3 : Nat → Int32) (u4 : Nat → Int32) (u5 : Nat → Int32) (u6 : Nat → Int32) (u7 : Nat → Int32) (u8 : Nat → Int32) (u9 : Nat → Int32) (u10 : Nat → Int32) (u11 : Nat → Int32) (res : Int32 × Int32 × Int32 × Int32 × (Nat → Int32) × (Nat → Int32) × (Nat → Int32) × (Nat → Int32) × (Nat → Int32) × (Nat → Int32) × (Nat → Int32) × (Nat → Int32) × (Nat → Int32)), k x1 x2 x4 u0 u1 u2 u3 u4 u5 u6 u7 u8 u9 u10 u11 = some res → ∀ (H : Heap) (locs : List Loc) (ls : Array Slot), va_P D classes [(o, .inr (4, [.ref a_raw, .int i_txs, .ref a_txAt, .ref a_firstIn, .ref a_firstOut, .ref a_inAt, .ref a_inScript, .ref a_inEnd, .ref a_outAt, .ref a_outScript, .ref a_outEnd, .int i_end, .int u0, .int u1, .int u2])), (a_raw, .inl (cy 0, n_raw, .inl g_raw)), (a_txAt, .inl (cy 1, 301, .inl u3)), (a_firstIn, .inl (cy 1, 301, .inl u4)), (a_firstOut, .inl (cy 1, 301, .inl u5)), (a_inAt, .inl (cy 1, 73, .inl u6)), (a_inScript, .inl (cy 1, 73, .inl u7)), (a_inEnd, .inl (cy 1, 73, .inl u8)), (a_outAt, .inl (cy 1, 333, .inl u9)), (a_outScript, .inl (cy 1, 333, .inl u10)), (a_outEnd, .inl (cy 1, 333, .inl u11))] H → va_D A [(o, .inr (4, [.ref a_raw, .int i_txs, .ref a_txAt, .ref a_firstIn, .ref a_firstOut, .ref a_inAt, .ref a_inScript, .ref a_inEnd, .ref a_outAt, .ref a_outScript, .ref a_outEnd, .int i_end, .int u0, .int u1, .int u2])), (a_raw, .inl (cy 0, n_raw, .inl g_raw)), (a_txAt, .inl (cy 1, 301, .inl u3)), (a_firstIn, .inl (cy 1, 301, .inl u4)), (a_firstOut, .inl (cy 1, 301, .inl u5)), (a_inAt, .inl (cy 1, 73, .inl u6)), (a_inScript, .inl (cy 1, 73, .inl u7)), (a_inEnd, .inl (cy 1, 73, .inl u8)), (a_outAt, .inl (cy 1, 333, .inl u9)), (a_outScript, .inl (cy 1, 333, .inl u10)), (a_outEnd, .inl (cy 1, 333, .inl u11))] → va_S A s.heap H locs → lv_has ls 5 [(0, .ref o), (1, .int x1), (2, .long x2), (4, .int x4)] → W p l e rm_La_readTx s m args below meth c H locs 0 0 (MQ below (q_La_readTx D cy A o a_raw a_txAt a_firstIn a_firstOut a_inAt a_inScript a_inEnd a_outAt a_outScript a_outEnd i_txs i_end n_raw g_raw res) args s 0 0 A) (F0 m 133 ls [])
def I_La_readTx_75 (p : Program) (l : Launch) (e : Env) (s : State) (m : MethodId) (args : Array Value) (below : List Frame) (meth : Method) (c : Code) (D : va_G) (cy : Nat → ClassId) (A : Nat → Prop) (ad : Nat → Nat) (o : Nat) (a_raw : Nat) (a_txAt : Nat) (a_firstIn : Nat) (a_firstOut : Nat) (a_inAt : Nat) (a_inScript : Nat) (a_inEnd : Nat) (a_outAt : Nat) (a_outScript : Nat) (a_outEnd : Nat) (i_txs : Int32) (i_end : Int32) (n_raw : Nat) (g_raw : Nat → Int32) (k : Int32 → Int64 → Int32 → Int32 → Int32 → Int32 → (Nat → Int32) → (Nat → Int32) → (Nat → Int32) → (Nat → Int32) → (Nat → Int32) → (Nat → Int32) → (Nat → Int32) → (Nat → Int32) → (Nat → Int32) → Option (Int32 × Int32 × Int32 × Int32 × (Nat → Int32) × (Nat → Int32) × (Nat → Int32) × (Nat → Int32) × (Nat → Int32) × (Nat → Int32) × (Nat → Int32) × (Nat → Int32) × (Nat → Int32))) : Prop :=
  ∀ (x1 : Int32) (x2 : Int64) (x4 : Int32) (u0 : Int32) (u1 : Int32) (u2 : Int32) (u3 : Nat → Int32) (u4 : Nat → Int32) (u5 : Nat → Int32) (u6 : Nat → Int32) (u7 : Nat → Int32) (u8 : Nat → Int32) (u9 : Nat → Int32) (u10 : Nat → Int32) (u11 : Nat → Int32) (res : Int32 × Int32 × Int32 × Int32 × (Nat → Int32) × (Nat → Int32) × (Nat → Int32) × (Nat → Int32) × (Nat → Int32) × (Nat → Int32) × (Nat → Int32) × (Nat → Int32) × (Nat → Int32)), k x1 x2 x4 u0 u1 u2 u3 u4 u5 u6 u7 u8 u9 u10 u11 = some res → ∀ (H : Heap) (locs : List Loc) (ls : Array Slot), va_P D classes [(o, .inr (4, [.ref a_raw, .int i_txs, .ref a_txAt, .ref a_firstIn, .ref a_firstOut, .ref a_inAt, .ref a_inScript, .ref a_inEnd, .ref a_outAt, .ref a_outScript, .ref a_outEnd, .int i_end, .int u0, .int u1, .int u2])), (a_raw, .inl (cy 0, n_raw, .inl g_raw)), (a_txAt, .inl (cy 1, 301, .inl u3)), (a_firstIn, .inl (cy 1, 301, .inl u4)), (a_firstOut, .inl (cy 1, 301, .inl u5)), (a_inAt, .inl (cy 1, 73, .inl u6)), (a_inScript, .inl (cy 1, 73, .inl u7)), (a_inEnd, .inl (cy 1, 73, .inl u8)), (a_outAt, .inl (cy 1, 333, .inl u9)), (a_outScript, .inl (cy 1, 333, .inl u10)), (a_outEnd, .inl (cy 1, 333, .inl u11))] H → va_D A [(o, .inr (4, [.ref a_raw, .int i_txs, .ref a_txAt, .ref a_firstIn, .ref a_firstOut, .ref a_inAt, .ref a_inScript, .ref a_inEnd, .ref a_outAt, .ref a_outScript, .ref a_outEnd, .int i_end, .int u0, .int u1, .int u2])), (a_raw, .inl (cy 0, n_raw, .inl g_raw)), (a_txAt, .inl (cy 1, 301, .inl u3)), (a_firstIn, .inl (cy 1, 301, .inl u4)), (a_firstOut, .inl (cy 1, 301, .inl u5)), (a_inAt, .inl (cy 1, 73, .inl u6)), (a_inScript, .inl (cy 1, 73, .inl u7)), (a_inEnd, .inl (cy 1, 73, .inl u8)), (a_outAt, .inl (cy 1, 333, .inl u9)), (a_outScript, .inl (cy 1, 333, .inl u10)), (a_outEnd, .inl (cy 1, 333, .inl u11))] → va_S A s.heap H locs → lv_has ls 5 [(0, .ref o), (1, .int x1), (2, .long x2), (4, .int x4)] → W p l e rm_La_readTx s m args below meth c H locs 0 0 (MQ below (q_La_readTx D cy A o a_raw a_txAt a_firstIn a_firstOut a_inAt a_inScript a_inEnd a_outAt a_outScript a_outEnd i_txs i_end n_raw g_raw res) args s 0 0 A) (F0 m 75 ls [])
def I_La_readTx_e (p : Program) (l : Launch) (e : Env) (s : State) (m : MethodId) (args : Array Value) (below : List Frame) (meth : Method) (c : Code) (D : va_G) (cy : Nat → ClassId) (A : Nat → Prop) (ad : Nat → Nat) (o : Nat) (a_raw : Nat) (a_txAt : Nat) (a_firstIn : Nat) (a_firstOut : Nat) (a_inAt : Nat) (a_inScript : Nat) (a_inEnd : Nat) (a_outAt : Nat) (a_outScript : Nat) (a_outEnd : Nat) (i_txs : Int32) (i_end : Int32) (n_raw : Nat) (g_raw : Nat → Int32) (k : Int32 → Int32 → Int32 → Int32 → (Nat → Int32) → (Nat → Int32) → (Nat → Int32) → (Nat → Int32) → (Nat → Int32) → (Nat → Int32) → (Nat → Int32) → (Nat → Int32) → (Nat → Int32) → Option (Int32 × Int32 × Int32 × Int32 × (Nat → Int32) × (Nat → Int32) × (Nat → Int32) × (Nat → Int32) × (Nat → Int32) × (Nat → Int32) × (Nat → Int32) × (Nat → Int32) × (Nat → Int32))) : Prop :=
  ∀ (a1 : Int32) (u0 : Int32) (u1 : Int32) (u2 : Int32) (u3 : Nat → Int32) (u4 : Nat → Int32) (u5 : Nat → Int32) (u6 : Nat → Int32) (u7 : Nat → Int32) (u8 : Nat → Int32) (u9 : Nat → Int32) (u10 : Nat → Int32) (u11 : Nat → Int32) (res : Int32 × Int32 × Int32 × Int32 × (Nat → Int32) × (Nat → Int32) × (Nat → Int32) × (Nat → Int32) × (Nat → Int32) × (Nat → Int32) × (Nat → Int32) × (Nat → Int32) × (Nat → Int32)), k a1 u0 u1 u2 u3 u4 u5 u6 u7 u8 u9 u10 u11 = some res → ∀ (H : Heap) (locs : List Loc) (ls : Array Slot), va_P D classes [(o, .inr (4, [.ref a_raw, .int i_txs, .ref a_txAt, .ref a_firstIn, .ref a_firstOut, .ref a_inAt, .ref a_inScript, .ref a_inEnd, .ref a_outAt, .ref a_outScript, .ref a_outEnd, .int i_end, .int u0, .int u1, .int u2])), (a_raw, .inl (cy 0, n_raw, .inl g_raw)), (a_txAt, .inl (cy 1, 301, .inl u3)), (a_firstIn, .inl (cy 1, 301, .inl u4)), (a_firstOut, .inl (cy 1, 301, .inl u5)), (a_inAt, .inl (cy 1, 73, .inl u6)), (a_inScript, .inl (cy 1, 73, .inl u7)), (a_inEnd, .inl (cy 1, 73, .inl u8)), (a_outAt, .inl (cy 1, 333, .inl u9)), (a_outScript, .inl (cy 1, 333, .inl u10)), (a_outEnd, .inl (cy 1, 333, .inl u11))] H → va_D A [(o, .inr (4, [.ref a_raw, .int i_txs, .ref a_txAt, .ref a_firstIn, .ref a_firstOut, .ref a_inAt, .ref a_inScript, .ref a_inEnd, .ref a_outAt, .ref a_outScript, .ref a_outEnd, .int i_end, .int u0, .int u1, .int u2])), (a_raw, .inl (cy 0, n_raw, .inl g_raw)), (a_txAt, .inl (cy 1, 301, .inl u3)), (a_firstIn, .inl (cy 1, 301, .inl u4)), (a_firstOut, .inl (cy 1, 301, .inl u5)), (a_inAt, .inl (cy 1, 73, .inl u6)), (a_inScript, .inl (cy 1, 73, .inl u7)), (a_inEnd, .inl (cy 1, 73, .inl u8)), (a_outAt, .inl (cy 1, 333, .inl u9)), (a_outScript, .inl (cy 1, 333, .inl u10)), (a_outEnd, .inl (cy 1, 333, .inl u11))] → va_S A s.heap H locs → lv_has ls 5 [(0, .ref o), (1, .int a1)] → W p l e rm_La_readTx s m args below meth c H locs 0 0 (MQ below (q_La_readTx D cy A o a_raw a_txAt a_firstIn a_firstOut a_inAt a_inScript a_inEnd a_outAt a_outScript a_outEnd i_txs i_end n_raw g_raw res) args s 0 0 A) (F0 m 0 ls [])
theorem hdc_25 : ({ cls := "CoinKeeper$Layout", name := "readOut", desc := "()Z" } : Jvm.MethodName).cls ≠ "java/lang/invoke/MethodHandle" ∧ ({ cls := "CoinKeeper$Layout", name := "readOut", desc := "()Z" } : Jvm.MethodName).cls ≠ "java/lang/invoke/VarHandle" ∧ (parseMethodDescriptor ({ cls := "CoinKeeper$Layout", name := "readOut", desc := "()Z" } : Jvm.MethodName).desc).map (fun d => d.parameters.length) = some 0 := by decide +kernel
set_option maxHeartbeats 8000000 in
set_option maxRecDepth 100000 in
theorem wb_La_readTx_133 {p : Program} {l : Launch} {e : Env} {s : State} {m : MethodId} {args : Array Value} {below : List Frame} {meth : Method} {c : Code} {D : va_G} {cy : Nat → ClassId} {A : Nat → Prop} {ad : Nat → Nat} {o : Nat} {a_raw : Nat} {a_txAt : Nat} {a_firstIn : Nat} {a_firstOut : Nat} {a_inAt : Nat} {a_inScript : Nat} {a_inEnd : Nat} {a_outAt : Nat} {a_outScript : Nat} {a_outEnd : Nat} {i_txs : Int32} {i_end : Int32} {n_raw : Nat} {g_raw : Nat → Int32} {fu : Nat} {k_133 : Int32 → Int64 → Int32 → Int32 → Int32 → Int32 → (Nat → Int32) → (Nat → Int32) → (Nat → Int32) → (Nat → Int32) → (Nat → Int32) → (Nat → Int32) → (Nat → Int32) → (Nat → Int32) → (Nat → Int32) → Option (Int32 × Int32 × Int32 × Int32 × (Nat → Int32) × (Nat → Int32) × (Nat → Int32) × (Nat → Int32) × (Nat → Int32) × (Nat → Int32) × (Nat → Int32) × (Nat → Int32) × (Nat → Int32))} (F : Fx p s m args meth c b_La_readTx 5 "CoinKeeper$Layout" "readTx" (some .boolean) D cy ad A) (hk_133 : I_La_readTx_133 p l e s m args below meth c D cy A ad o a_raw a_txAt a_firstIn a_firstOut a_inAt a_inScript a_inEnd a_outAt a_outScript a_outEnd i_txs i_end n_raw g_raw k_133) : I_La_readTx_133 p l e s m args below meth c D cy A ad o a_raw a_txAt a_firstIn a_firstOut a_inAt a_inScript a_inEnd a_outAt a_outScript a_outEnd i_txs i_end n_raw g_raw (xb_La_readTx_133 fu i_txs i_end n_raw g_raw k_133) := by
  obtain ⟨hx, hb, hr, hml, hown, hts, hlocks, hK, hA, hSt, hnm, hex⟩ := id F
  intro x1 x2 x4 u0 u1 u2 u3 u4 u5 u6 u7 u8 u9 u10 u11 res hf H locs ls hP hD hS hl
  unfold xb_La_readTx_133 at hf
  refine lv_iload hx hb d_La_readTx_133 (lv_at hl 3 rfl) ?_
  refine lv_i2l hx hb d_La_readTx_135 rfl ?_
  refine lv_topl (fun v1 ev => ?_)
  have hf := bn ev hf
  clear ev
  refine lv_lload_n hx hb d_La_readTx_136 rfl (lv_at hl 2 rfl) ?_
  refine W.lcmp hx hb d_La_readTx_137 ?_
  refine lv_if_ge (tgt := 156) hx hb d_La_readTx_138 (by decide) (fun cx => ?_) (fun cx => ?_)
  · have hf := ifp cx hf
    refine lv_aload_n hx hb d_La_readTx_156 rfl (lv_at hl 0 rfl) ?_
    refine lv_dup hx hb d_La_readTx_157 rfl ?_
    refine va_get (D := D) (ci := 4) (v := .int u0) (C := "CoinKeeper$Layout") (T := F_4) (N := 15) hx hb hts i_4 hown hK hP 0 rfl rfl 12 (by decide) (hts _ gw_297) (fun _ h9 => h9) rfl d_La_readTx_158 ?_
    refine lv_iconst (v := 4) hx hb d_La_readTx_161 (by decide) ?_
    refine lv_iadd hx hb d_La_readTx_162 ?_
    refine lv_topi (fun v2 ev => ?_)
    have hf := bn ev hf
    clear ev
    refine va_put (D := D) (ci := 4) (v := .int v2) (ty := .int) (C := "CoinKeeper$Layout") (T := F_4) (N := 15) hx hb hts i_4 t_4 t_4_ok n_4 hown hK hP hD hS 0 rfl rfl 12 (by decide) (hts _ gw_297) (fun _ h9 => h9) rfl (by decide +kernel) rfl rfl (Nat.le_of_ble_eq_true rfl) d_La_readTx_163 (fun H locs hP hD hS => ?_)
    have hP : va_P D classes [(o, .inr (4, [.ref a_raw, .int i_txs, .ref a_txAt, .ref a_firstIn, .ref a_firstOut, .ref a_inAt, .ref a_inScript, .ref a_inEnd, .ref a_outAt, .ref a_outScript, .ref a_outEnd, .int i_end, .int v2, .int u1, .int u2])), (a_raw, .inl (cy 0, n_raw, .inl g_raw)), (a_txAt, .inl (cy 1, 301, .inl u3)), (a_firstIn, .inl (cy 1, 301, .inl u4)), (a_firstOut, .inl (cy 1, 301, .inl u5)), (a_inAt, .inl (cy 1, 73, .inl u6)), (a_inScript, .inl (cy 1, 73, .inl u7)), (a_inEnd, .inl (cy 1, 73, .inl u8)), (a_outAt, .inl (cy 1, 333, .inl u9)), (a_outScript, .inl (cy 1, 333, .inl u10)), (a_outEnd, .inl (cy 1, 333, .inl u11))] H := hP
    have hD : va_D A [(o, .inr (4, [.ref a_raw, .int i_txs, .ref a_txAt, .ref a_firstIn, .ref a_firstOut, .ref a_inAt, .ref a_inScript, .ref a_inEnd, .ref a_outAt, .ref a_outScript, .ref a_outEnd, .int i_end, .int v2, .int u1, .int u2])), (a_raw, .inl (cy 0, n_raw, .inl g_raw)), (a_txAt, .inl (cy 1, 301, .inl u3)), (a_firstIn, .inl (cy 1, 301, .inl u4)), (a_firstOut, .inl (cy 1, 301, .inl u5)), (a_inAt, .inl (cy 1, 73, .inl u6)), (a_inScript, .inl (cy 1, 73, .inl u7)), (a_inEnd, .inl (cy 1, 73, .inl u8)), (a_outAt, .inl (cy 1, 333, .inl u9)), (a_outScript, .inl (cy 1, 333, .inl u10)), (a_outEnd, .inl (cy 1, 333, .inl u11))] := hD
    refine lv_aload_n hx hb d_La_readTx_166 rfl (lv_at hl 0 rfl) ?_
    refine va_get (D := D) (ci := 4) (v := .ref a_txAt) (C := "CoinKeeper$Layout") (T := F_4) (N := 15) hx hb hts i_4 hown hK hP 0 rfl rfl 2 (by decide) (hts _ gw_274) (fun _ h9 => h9) rfl d_La_readTx_167 ?_
    refine lv_iload_n hx hb d_La_readTx_170 rfl (lv_at hl 1 rfl) ?_
    refine lv_iconst (v := 1) hx hb d_La_readTx_171 (by decide) ?_
    refine lv_iadd hx hb d_La_readTx_172 ?_
    refine lv_topi (fun v3 ev => ?_)
    have hf := bn ev hf
    clear ev
    refine lv_aload_n hx hb d_La_readTx_173 rfl (lv_at hl 0 rfl) ?_
    refine va_get (D := D) (ci := 4) (v := .int v2) (C := "CoinKeeper$Layout") (T := F_4) (N := 15) hx hb hts i_4 hown hK hP 0 rfl rfl 12 (by decide) (hts _ gw_297) (fun _ h9 => h9) rfl d_La_readTx_174 ?_
    obtain ⟨hg, hf⟩ := gdp hf
    refine va_iast hx hb hK hP hD hS 2 1 rfl rfl (inb_in hg) d_La_readTx_177 (fun H locs hP hD hS => ?_)
    obtain ⟨f4, ev, hf⟩ := bne hf
    have hP : va_P D classes [(o, .inr (4, [.ref a_raw, .int i_txs, .ref a_txAt, .ref a_firstIn, .ref a_firstOut, .ref a_inAt, .ref a_inScript, .ref a_inEnd, .ref a_outAt, .ref a_outScript, .ref a_outEnd, .int i_end, .int v2, .int u1, .int u2])), (a_raw, .inl (cy 0, n_raw, .inl g_raw)), (a_txAt, .inl (cy 1, 301, .inl f4)), (a_firstIn, .inl (cy 1, 301, .inl u4)), (a_firstOut, .inl (cy 1, 301, .inl u5)), (a_inAt, .inl (cy 1, 73, .inl u6)), (a_inScript, .inl (cy 1, 73, .inl u7)), (a_inEnd, .inl (cy 1, 73, .inl u8)), (a_outAt, .inl (cy 1, 333, .inl u9)), (a_outScript, .inl (cy 1, 333, .inl u10)), (a_outEnd, .inl (cy 1, 333, .inl u11))] H := by rw [ev]; exact hP
    have hD : va_D A [(o, .inr (4, [.ref a_raw, .int i_txs, .ref a_txAt, .ref a_firstIn, .ref a_firstOut, .ref a_inAt, .ref a_inScript, .ref a_inEnd, .ref a_outAt, .ref a_outScript, .ref a_outEnd, .int i_end, .int v2, .int u1, .int u2])), (a_raw, .inl (cy 0, n_raw, .inl g_raw)), (a_txAt, .inl (cy 1, 301, .inl f4)), (a_firstIn, .inl (cy 1, 301, .inl u4)), (a_firstOut, .inl (cy 1, 301, .inl u5)), (a_inAt, .inl (cy 1, 73, .inl u6)), (a_inScript, .inl (cy 1, 73, .inl u7)), (a_inEnd, .inl (cy 1, 73, .inl u8)), (a_outAt, .inl (cy 1, 333, .inl u9)), (a_outScript, .inl (cy 1, 333, .inl u10)), (a_outEnd, .inl (cy 1, 333, .inl u11))] := by rw [ev]; exact hD
    clear ev
    refine lv_aload_n hx hb d_La_readTx_178 rfl (lv_at hl 0 rfl) ?_
    refine va_get (D := D) (ci := 4) (v := .ref a_firstIn) (C := "CoinKeeper$Layout") (T := F_4) (N := 15) hx hb hts i_4 hown hK hP 0 rfl rfl 3 (by decide) (hts _ gw_276) (fun _ h9 => h9) rfl d_La_readTx_179 ?_
    refine lv_iload_n hx hb d_La_readTx_182 rfl (lv_at hl 1 rfl) ?_
    refine lv_iconst (v := 1) hx hb d_La_readTx_183 (by decide) ?_
    refine lv_iadd hx hb d_La_readTx_184 ?_
    refine lv_topi (fun v5 ev => ?_)
    have hf := bn ev hf
    clear ev
    refine lv_aload_n hx hb d_La_readTx_185 rfl (lv_at hl 0 rfl) ?_
    refine va_get (D := D) (ci := 4) (v := .int u1) (C := "CoinKeeper$Layout") (T := F_4) (N := 15) hx hb hts i_4 hown hK hP 0 rfl rfl 13 (by decide) (hts _ gw_298) (fun _ h9 => h9) rfl d_La_readTx_186 ?_
    obtain ⟨hg, hf⟩ := gdp hf
    refine va_iast hx hb hK hP hD hS 3 1 rfl rfl (inb_in hg) d_La_readTx_189 (fun H locs hP hD hS => ?_)
    obtain ⟨f6, ev, hf⟩ := bne hf
    have hP : va_P D classes [(o, .inr (4, [.ref a_raw, .int i_txs, .ref a_txAt, .ref a_firstIn, .ref a_firstOut, .ref a_inAt, .ref a_inScript, .ref a_inEnd, .ref a_outAt, .ref a_outScript, .ref a_outEnd, .int i_end, .int v2, .int u1, .int u2])), (a_raw, .inl (cy 0, n_raw, .inl g_raw)), (a_txAt, .inl (cy 1, 301, .inl f4)), (a_firstIn, .inl (cy 1, 301, .inl f6)), (a_firstOut, .inl (cy 1, 301, .inl u5)), (a_inAt, .inl (cy 1, 73, .inl u6)), (a_inScript, .inl (cy 1, 73, .inl u7)), (a_inEnd, .inl (cy 1, 73, .inl u8)), (a_outAt, .inl (cy 1, 333, .inl u9)), (a_outScript, .inl (cy 1, 333, .inl u10)), (a_outEnd, .inl (cy 1, 333, .inl u11))] H := by rw [ev]; exact hP
    have hD : va_D A [(o, .inr (4, [.ref a_raw, .int i_txs, .ref a_txAt, .ref a_firstIn, .ref a_firstOut, .ref a_inAt, .ref a_inScript, .ref a_inEnd, .ref a_outAt, .ref a_outScript, .ref a_outEnd, .int i_end, .int v2, .int u1, .int u2])), (a_raw, .inl (cy 0, n_raw, .inl g_raw)), (a_txAt, .inl (cy 1, 301, .inl f4)), (a_firstIn, .inl (cy 1, 301, .inl f6)), (a_firstOut, .inl (cy 1, 301, .inl u5)), (a_inAt, .inl (cy 1, 73, .inl u6)), (a_inScript, .inl (cy 1, 73, .inl u7)), (a_inEnd, .inl (cy 1, 73, .inl u8)), (a_outAt, .inl (cy 1, 333, .inl u9)), (a_outScript, .inl (cy 1, 333, .inl u10)), (a_outEnd, .inl (cy 1, 333, .inl u11))] := by rw [ev]; exact hD
    clear ev
    refine lv_aload_n hx hb d_La_readTx_190 rfl (lv_at hl 0 rfl) ?_
    refine va_get (D := D) (ci := 4) (v := .ref a_firstOut) (C := "CoinKeeper$Layout") (T := F_4) (N := 15) hx hb hts i_4 hown hK hP 0 rfl rfl 4 (by decide) (hts _ gw_279) (fun _ h9 => h9) rfl d_La_readTx_191 ?_
    refine lv_iload_n hx hb d_La_readTx_194 rfl (lv_at hl 1 rfl) ?_
    refine lv_iconst (v := 1) hx hb d_La_readTx_195 (by decide) ?_
    refine lv_iadd hx hb d_La_readTx_196 ?_
    refine lv_topi (fun v7 ev => ?_)
    have hf := bn ev hf
    clear ev
    refine lv_aload_n hx hb d_La_readTx_197 rfl (lv_at hl 0 rfl) ?_
    refine va_get (D := D) (ci := 4) (v := .int u2) (C := "CoinKeeper$Layout") (T := F_4) (N := 15) hx hb hts i_4 hown hK hP 0 rfl rfl 14 (by decide) (hts _ gw_299) (fun _ h9 => h9) rfl d_La_readTx_198 ?_
    obtain ⟨hg, hf⟩ := gdp hf
    refine va_iast hx hb hK hP hD hS 4 1 rfl rfl (inb_in hg) d_La_readTx_201 (fun H locs hP hD hS => ?_)
    obtain ⟨f8, ev, hf⟩ := bne hf
    have hP : va_P D classes [(o, .inr (4, [.ref a_raw, .int i_txs, .ref a_txAt, .ref a_firstIn, .ref a_firstOut, .ref a_inAt, .ref a_inScript, .ref a_inEnd, .ref a_outAt, .ref a_outScript, .ref a_outEnd, .int i_end, .int v2, .int u1, .int u2])), (a_raw, .inl (cy 0, n_raw, .inl g_raw)), (a_txAt, .inl (cy 1, 301, .inl f4)), (a_firstIn, .inl (cy 1, 301, .inl f6)), (a_firstOut, .inl (cy 1, 301, .inl f8)), (a_inAt, .inl (cy 1, 73, .inl u6)), (a_inScript, .inl (cy 1, 73, .inl u7)), (a_inEnd, .inl (cy 1, 73, .inl u8)), (a_outAt, .inl (cy 1, 333, .inl u9)), (a_outScript, .inl (cy 1, 333, .inl u10)), (a_outEnd, .inl (cy 1, 333, .inl u11))] H := by rw [ev]; exact hP
    have hD : va_D A [(o, .inr (4, [.ref a_raw, .int i_txs, .ref a_txAt, .ref a_firstIn, .ref a_firstOut, .ref a_inAt, .ref a_inScript, .ref a_inEnd, .ref a_outAt, .ref a_outScript, .ref a_outEnd, .int i_end, .int v2, .int u1, .int u2])), (a_raw, .inl (cy 0, n_raw, .inl g_raw)), (a_txAt, .inl (cy 1, 301, .inl f4)), (a_firstIn, .inl (cy 1, 301, .inl f6)), (a_firstOut, .inl (cy 1, 301, .inl f8)), (a_inAt, .inl (cy 1, 73, .inl u6)), (a_inScript, .inl (cy 1, 73, .inl u7)), (a_inEnd, .inl (cy 1, 73, .inl u8)), (a_outAt, .inl (cy 1, 333, .inl u9)), (a_outScript, .inl (cy 1, 333, .inl u10)), (a_outEnd, .inl (cy 1, 333, .inl u11))] := by rw [ev]; exact hD
    clear ev
    refine lv_aload_n hx hb d_La_readTx_202 rfl (lv_at hl 0 rfl) ?_
    refine va_get (D := D) (ci := 4) (v := .int v2) (C := "CoinKeeper$Layout") (T := F_4) (N := 15) hx hb hts i_4 hown hK hP 0 rfl rfl 12 (by decide) (hts _ gw_297) (fun _ h9 => h9) rfl d_La_readTx_203 ?_
    refine lv_aload_n hx hb d_La_readTx_206 rfl (lv_at hl 0 rfl) ?_
    refine va_get (D := D) (ci := 4) (v := .int i_end) (C := "CoinKeeper$Layout") (T := F_4) (N := 15) hx hb hts i_4 hown hK hP 0 rfl rfl 11 (by decide) (hts _ gw_296) (fun _ h9 => h9) rfl d_La_readTx_207 ?_
    refine lv_icmp_gt (tgt := 217) hx hb d_La_readTx_210 (by decide) (fun cx => ?_) (fun cx => ?_)
    · have hf := ifp cx hf
      refine lv_iconst (v := 0) hx hb d_La_readTx_217 (by decide) ?_
      obtain rfl := Option.some.inj hf
      exact q_rz hx hb hr hlocks hK hP hD hS (isb_n (v := 0) (by decide)) d_La_readTx_218
    · have hf := ifn cx hf
      refine lv_iconst (v := 1) hx hb d_La_readTx_213 (by decide) ?_
      refine lv_goto (tgt := 218) hx hb d_La_readTx_214 (by decide) ?_
      obtain rfl := Option.some.inj hf
      exact q_rz hx hb hr hlocks hK hP hD hS (isb_n (v := 1) (by decide)) d_La_readTx_218
  · have hf := ifn cx hf
    refine lv_aload_n hx hb d_La_readTx_141 rfl (lv_at hl 0 rfl) ?_
    obtain ⟨v9, e10, e11, f12, f13, f14, hc, hf⟩ := bdp6 hf
    refine q_ai (wr := [(a_txAt, .inl (cy 1, 301, .inl u3)), (a_firstIn, .inl (cy 1, 301, .inl u4)), (a_firstOut, .inl (cy 1, 301, .inl u5)), (a_inAt, .inl (cy 1, 73, .inl u6)), (a_inScript, .inl (cy 1, 73, .inl u7)), (a_inEnd, .inl (cy 1, 73, .inl u8))]) (va_runV (C := "CoinKeeper$Layout") (As := []) (rest := []) ⟨hx, hb, hml, hown, hts⟩ (c_La_readOut l D cy ad fu o (.ref a_txAt) (.ref a_firstIn) (.ref a_firstOut) (.ref a_inAt) (.ref a_inScript) (.ref a_inEnd) a_raw a_outAt a_outScript a_outEnd i_txs i_end u1 n_raw g_raw u0 u2 u9 u10 u11 _ hc H.size) ⟨q_cB hts gw_703 gw_8 gw_700 hdc_25 ⟨by decide, by decide⟩, hts _ gw_702, hts _ gs_9⟩ (q_preV (q_pre (hP.sub [0, 1, 8, 9, 10] rfl) (hD.sub [0, 1, 8, 9, 10] (by decide) rfl) hK hSt hS (va_free hD hS hA [0, 1, 8, 9, 10] rfl) _) (va_recv hK (hP.sub [0, 1, 8, 9, 10] rfl) (ci := 4) (q0 := 0) rfl rfl)) rfl rfl hl.1 rfl (lv_room (Nat.le_of_ble_eq_true rfl)) d_La_readTx_142 ⟨Nat.le_of_ble_eq_true rfl, Nat.le_of_ble_eq_true rfl⟩) hP hD hS hA [0, 1, 8, 9, 10] [2, 3, 4, 5, 6, 7] rfl rfl (by decide) (by decide) (fun H locs hP hD hS => ?_)
    clear hc
    have hP : va_P D classes [(a_txAt, .inl (cy 1, 301, .inl u3)), (a_firstIn, .inl (cy 1, 301, .inl u4)), (a_firstOut, .inl (cy 1, 301, .inl u5)), (a_inAt, .inl (cy 1, 73, .inl u6)), (a_inScript, .inl (cy 1, 73, .inl u7)), (a_inEnd, .inl (cy 1, 73, .inl u8)), (o, .inr (4, [.ref a_raw, .int i_txs, .ref a_txAt, .ref a_firstIn, .ref a_firstOut, .ref a_inAt, .ref a_inScript, .ref a_inEnd, .ref a_outAt, .ref a_outScript, .ref a_outEnd, .int i_end, .int e10, .int u1, .int e11])), (a_raw, .inl (cy 0, n_raw, .inl g_raw)), (a_outAt, .inl (cy 1, 333, .inl f12)), (a_outScript, .inl (cy 1, 333, .inl f13)), (a_outEnd, .inl (cy 1, 333, .inl f14))] H := hP
    have hD : va_D A [(a_txAt, .inl (cy 1, 301, .inl u3)), (a_firstIn, .inl (cy 1, 301, .inl u4)), (a_firstOut, .inl (cy 1, 301, .inl u5)), (a_inAt, .inl (cy 1, 73, .inl u6)), (a_inScript, .inl (cy 1, 73, .inl u7)), (a_inEnd, .inl (cy 1, 73, .inl u8)), (o, .inr (4, [.ref a_raw, .int i_txs, .ref a_txAt, .ref a_firstIn, .ref a_firstOut, .ref a_inAt, .ref a_inScript, .ref a_inEnd, .ref a_outAt, .ref a_outScript, .ref a_outEnd, .int i_end, .int e10, .int u1, .int e11])), (a_raw, .inl (cy 0, n_raw, .inl g_raw)), (a_outAt, .inl (cy 1, 333, .inl f12)), (a_outScript, .inl (cy 1, 333, .inl f13)), (a_outEnd, .inl (cy 1, 333, .inl f14))] := hD
    refine lv_if_ne (tgt := 150) hx hb d_La_readTx_145 (by decide) (fun cx => ?_) (fun cx => ?_)
    · have hf := ifn cx hf
      obtain ⟨v15, ev, hf⟩ := bne hf
      refine lv_iinc (v := v15) (lv' := [(4, .int v15), (0, .ref o), (1, .int x1), (2, .long x2)]) hx hb d_La_readTx_150 hl (k := 3) rfl (by rw [ev]; rfl) (by decide) rfl (fun ls hl => ?_)
      clear ev
      refine lv_goto (tgt := 133) hx hb d_La_readTx_153 (by decide) ?_
      exact hk_133 _ _ _ _ _ _ _ _ _ _ _ _ _ _ _ _ hf _ _ _ (hP.sub (ws' := [(o, .inr (4, [.ref a_raw, .int i_txs, .ref a_txAt, .ref a_firstIn, .ref a_firstOut, .ref a_inAt, .ref a_inScript, .ref a_inEnd, .ref a_outAt, .ref a_outScript, .ref a_outEnd, .int i_end, .int e10, .int u1, .int e11])), (a_raw, .inl (cy 0, n_raw, .inl g_raw)), (a_txAt, .inl (cy 1, 301, .inl u3)), (a_firstIn, .inl (cy 1, 301, .inl u4)), (a_firstOut, .inl (cy 1, 301, .inl u5)), (a_inAt, .inl (cy 1, 73, .inl u6)), (a_inScript, .inl (cy 1, 73, .inl u7)), (a_inEnd, .inl (cy 1, 73, .inl u8)), (a_outAt, .inl (cy 1, 333, .inl f12)), (a_outScript, .inl (cy 1, 333, .inl f13)), (a_outEnd, .inl (cy 1, 333, .inl f14))]) [6, 7, 0, 1, 2, 3, 4, 5, 8, 9, 10] rfl) (hD.sub (ws' := [(o, .inr (4, [.ref a_raw, .int i_txs, .ref a_txAt, .ref a_firstIn, .ref a_firstOut, .ref a_inAt, .ref a_inScript, .ref a_inEnd, .ref a_outAt, .ref a_outScript, .ref a_outEnd, .int i_end, .int e10, .int u1, .int e11])), (a_raw, .inl (cy 0, n_raw, .inl g_raw)), (a_txAt, .inl (cy 1, 301, .inl u3)), (a_firstIn, .inl (cy 1, 301, .inl u4)), (a_firstOut, .inl (cy 1, 301, .inl u5)), (a_inAt, .inl (cy 1, 73, .inl u6)), (a_inScript, .inl (cy 1, 73, .inl u7)), (a_inEnd, .inl (cy 1, 73, .inl u8)), (a_outAt, .inl (cy 1, 333, .inl f12)), (a_outScript, .inl (cy 1, 333, .inl f13)), (a_outEnd, .inl (cy 1, 333, .inl f14))]) [6, 7, 0, 1, 2, 3, 4, 5, 8, 9, 10] (by decide) rfl) hS (lv_sub hl [1, 2, 3, 0] rfl)
    · have hf := ifp cx hf
      refine lv_iconst (v := 0) hx hb d_La_readTx_148 (by decide) ?_
      obtain rfl := Option.some.inj hf
      exact q_rz hx hb hr hlocks hK (hP.sub [6, 7, 0, 1, 2, 3, 4, 5, 8, 9, 10] rfl) (hD.sub [6, 7, 0, 1, 2, 3, 4, 5, 8, 9, 10] (by decide) rfl) hS (isb_n (v := 0) (by decide)) d_La_readTx_149
theorem w_La_readTx_133 {p : Program} {l : Launch} {e : Env} {s : State} {m : MethodId} {args : Array Value} {below : List Frame} {meth : Method} {c : Code} {D : va_G} {cy : Nat → ClassId} {A : Nat → Prop} {ad : Nat → Nat} {o : Nat} {a_raw : Nat} {a_txAt : Nat} {a_firstIn : Nat} {a_firstOut : Nat} {a_inAt : Nat} {a_inScript : Nat} {a_inEnd : Nat} {a_outAt : Nat} {a_outScript : Nat} {a_outEnd : Nat} {i_txs : Int32} {i_end : Int32} {n_raw : Nat} {g_raw : Nat → Int32} {fu : Nat} (F : Fx p s m args meth c b_La_readTx 5 "CoinKeeper$Layout" "readTx" (some .boolean) D cy ad A) : ∀ n : Nat, I_La_readTx_133 p l e s m args below meth c D cy A ad o a_raw a_txAt a_firstIn a_firstOut a_inAt a_inScript a_inEnd a_outAt a_outScript a_outEnd i_txs i_end n_raw g_raw (x_La_readTx_133 fu i_txs i_end n_raw g_raw n)
  | 0 => fun _ _ _ _ _ _ _ _ _ _ _ _ _ _ _ _ hf => nomatch (show (none : Option (Int32 × Int32 × Int32 × Int32 × (Nat → Int32) × (Nat → Int32) × (Nat → Int32) × (Nat → Int32) × (Nat → Int32) × (Nat → Int32) × (Nat → Int32) × (Nat → Int32) × (Nat → Int32))) = some _ from hf)
  | n + 1 => wb_La_readTx_133 F (w_La_readTx_133 F n)
theorem hdc_26 : ({ cls := "CoinKeeper$Layout", name := "readIn", desc := "()Z" } : Jvm.MethodName).cls ≠ "java/lang/invoke/MethodHandle" ∧ ({ cls := "CoinKeeper$Layout", name := "readIn", desc := "()Z" } : Jvm.MethodName).cls ≠ "java/lang/invoke/VarHandle" ∧ (parseMethodDescriptor ({ cls := "CoinKeeper$Layout", name := "readIn", desc := "()Z" } : Jvm.MethodName).desc).map (fun d => d.parameters.length) = some 0 := by decide +kernel
set_option maxHeartbeats 8000000 in
set_option maxRecDepth 100000 in
theorem wb_La_readTx_75 {p : Program} {l : Launch} {e : Env} {s : State} {m : MethodId} {args : Array Value} {below : List Frame} {meth : Method} {c : Code} {D : va_G} {cy : Nat → ClassId} {A : Nat → Prop} {ad : Nat → Nat} {o : Nat} {a_raw : Nat} {a_txAt : Nat} {a_firstIn : Nat} {a_firstOut : Nat} {a_inAt : Nat} {a_inScript : Nat} {a_inEnd : Nat} {a_outAt : Nat} {a_outScript : Nat} {a_outEnd : Nat} {i_txs : Int32} {i_end : Int32} {n_raw : Nat} {g_raw : Nat → Int32} {fu : Nat} {k_75 : Int32 → Int64 → Int32 → Int32 → Int32 → Int32 → (Nat → Int32) → (Nat → Int32) → (Nat → Int32) → (Nat → Int32) → (Nat → Int32) → (Nat → Int32) → (Nat → Int32) → (Nat → Int32) → (Nat → Int32) → Option (Int32 × Int32 × Int32 × Int32 × (Nat → Int32) × (Nat → Int32) × (Nat → Int32) × (Nat → Int32) × (Nat → Int32) × (Nat → Int32) × (Nat → Int32) × (Nat → Int32) × (Nat → Int32))} (F : Fx p s m args meth c b_La_readTx 5 "CoinKeeper$Layout" "readTx" (some .boolean) D cy ad A) (hk_75 : I_La_readTx_75 p l e s m args below meth c D cy A ad o a_raw a_txAt a_firstIn a_firstOut a_inAt a_inScript a_inEnd a_outAt a_outScript a_outEnd i_txs i_end n_raw g_raw k_75) : I_La_readTx_75 p l e s m args below meth c D cy A ad o a_raw a_txAt a_firstIn a_firstOut a_inAt a_inScript a_inEnd a_outAt a_outScript a_outEnd i_txs i_end n_raw g_raw (xb_La_readTx_75 fu i_txs i_end n_raw g_raw k_75) := by
  obtain ⟨hx, hb, hr, hml, hown, hts, hlocks, hK, hA, hSt, hnm, hex⟩ := id F
  intro x1 x2 x4 u0 u1 u2 u3 u4 u5 u6 u7 u8 u9 u10 u11 res hf H locs ls hP hD hS hl
  unfold xb_La_readTx_75 at hf
  refine lv_iload hx hb d_La_readTx_75 (lv_at hl 3 rfl) ?_
  refine lv_i2l hx hb d_La_readTx_77 rfl ?_
  refine lv_topl (fun v1 ev => ?_)
  have hf := bn ev hf
  clear ev
  refine lv_lload_n hx hb d_La_readTx_78 rfl (lv_at hl 2 rfl) ?_
  refine W.lcmp hx hb d_La_readTx_79 ?_
  refine lv_if_ge (tgt := 98) hx hb d_La_readTx_80 (by decide) (fun cx => ?_) (fun cx => ?_)
  · have hf := ifp cx hf
    refine lv_aload_n hx hb d_La_readTx_98 rfl (lv_at hl 0 rfl) ?_
    obtain ⟨v2, e3, hc, hf⟩ := bdp2 hf
    refine q_al (wr := [(a_txAt, .inl (cy 1, 301, .inl u3)), (a_firstIn, .inl (cy 1, 301, .inl u4)), (a_firstOut, .inl (cy 1, 301, .inl u5)), (a_inAt, .inl (cy 1, 73, .inl u6)), (a_inScript, .inl (cy 1, 73, .inl u7)), (a_inEnd, .inl (cy 1, 73, .inl u8)), (a_outAt, .inl (cy 1, 333, .inl u9)), (a_outScript, .inl (cy 1, 333, .inl u10)), (a_outEnd, .inl (cy 1, 333, .inl u11))]) (va_runV (C := "CoinKeeper$Layout") (As := []) (rest := []) ⟨hx, hb, hml, hown, hts⟩ (c_La_readCount l D cy ad fu o (.ref a_txAt) (.ref a_firstIn) (.ref a_firstOut) (.ref a_inAt) (.ref a_inScript) (.ref a_inEnd) (.ref a_outAt) (.ref a_outScript) (.ref a_outEnd) a_raw i_txs i_end u1 u2 n_raw g_raw u0 _ hc H.size) ⟨q_cB hts gw_687 gw_8 gw_684 hdc_24 ⟨by decide, by decide⟩, hts _ gw_686, hts _ gs_6⟩ (q_preV (q_pre (hP.sub [0, 1] rfl) (hD.sub [0, 1] (by decide) rfl) hK hSt hS (va_free hD hS hA [0, 1] rfl) _) (va_recv hK (hP.sub [0, 1] rfl) (ci := 4) (q0 := 0) rfl rfl)) rfl rfl hl.1 rfl (lv_room (Nat.le_of_ble_eq_true rfl)) d_La_readTx_99 ⟨Nat.le_of_ble_eq_true rfl, Nat.le_of_ble_eq_true rfl⟩) hP hD hS hA [0, 1] [2, 3, 4, 5, 6, 7, 8, 9, 10] rfl rfl (by decide) (by decide) (fun H locs hP hD hS => ?_)
    clear hc
    have hP : va_P D classes [(a_txAt, .inl (cy 1, 301, .inl u3)), (a_firstIn, .inl (cy 1, 301, .inl u4)), (a_firstOut, .inl (cy 1, 301, .inl u5)), (a_inAt, .inl (cy 1, 73, .inl u6)), (a_inScript, .inl (cy 1, 73, .inl u7)), (a_inEnd, .inl (cy 1, 73, .inl u8)), (a_outAt, .inl (cy 1, 333, .inl u9)), (a_outScript, .inl (cy 1, 333, .inl u10)), (a_outEnd, .inl (cy 1, 333, .inl u11)), (o, .inr (4, [.ref a_raw, .int i_txs, .ref a_txAt, .ref a_firstIn, .ref a_firstOut, .ref a_inAt, .ref a_inScript, .ref a_inEnd, .ref a_outAt, .ref a_outScript, .ref a_outEnd, .int i_end, .int e3, .int u1, .int u2])), (a_raw, .inl (cy 0, n_raw, .inl g_raw))] H := hP
    have hD : va_D A [(a_txAt, .inl (cy 1, 301, .inl u3)), (a_firstIn, .inl (cy 1, 301, .inl u4)), (a_firstOut, .inl (cy 1, 301, .inl u5)), (a_inAt, .inl (cy 1, 73, .inl u6)), (a_inScript, .inl (cy 1, 73, .inl u7)), (a_inEnd, .inl (cy 1, 73, .inl u8)), (a_outAt, .inl (cy 1, 333, .inl u9)), (a_outScript, .inl (cy 1, 333, .inl u10)), (a_outEnd, .inl (cy 1, 333, .inl u11)), (o, .inr (4, [.ref a_raw, .int i_txs, .ref a_txAt, .ref a_firstIn, .ref a_firstOut, .ref a_inAt, .ref a_inScript, .ref a_inEnd, .ref a_outAt, .ref a_outScript, .ref a_outEnd, .int i_end, .int e3, .int u1, .int u2])), (a_raw, .inl (cy 0, n_raw, .inl g_raw))] := hD
    refine lv_lstore_n (lv' := [(2, .long v2), (0, .ref o), (1, .int x1), (4, .int x4)]) hx hb d_La_readTx_102 rfl hl (by decide) rfl (fun ls hl => ?_)
    refine lv_lload_n hx hb d_La_readTx_103 rfl (lv_at hl 0 rfl) ?_
    refine lv_lconst (v := 0) hx hb d_La_readTx_104 (by decide) ?_
    refine W.lcmp hx hb d_La_readTx_105 ?_
    refine lv_if_lt (tgt := 128) hx hb d_La_readTx_106 (by decide) (fun cx => ?_) (fun cx => ?_)
    · have hf := ifp cx hf
      refine lv_iconst (v := 0) hx hb d_La_readTx_128 (by decide) ?_
      obtain rfl := Option.some.inj hf
      exact q_rz hx hb hr hlocks hK (hP.sub [9, 10, 0, 1, 2, 3, 4, 5, 6, 7, 8] rfl) (hD.sub [9, 10, 0, 1, 2, 3, 4, 5, 6, 7, 8] (by decide) rfl) hS (isb_n (v := 0) (by decide)) d_La_readTx_129
    · have hf := ifn cx hf
      refine lv_lload_n hx hb d_La_readTx_109 rfl (lv_at hl 0 rfl) ?_
      refine lv_ldc2 (v := 9) hx hb hown (hts _ gw_699) d_La_readTx_110 ?_
      refine lv_lmul hx hb d_La_readTx_113 ?_
      refine lv_topl (fun v4 ev => ?_)
      have hf := bn ev hf
      clear ev
      refine lv_aload_n hx hb d_La_readTx_114 rfl (lv_at hl 1 rfl) ?_
      refine va_get (D := D) (ci := 4) (v := .int i_end) (C := "CoinKeeper$Layout") (T := F_4) (N := 15) hx hb hts i_4 hown hK hP 9 rfl rfl 11 (by decide) (hts _ gw_296) (fun _ h9 => h9) rfl d_La_readTx_115 ?_
      refine lv_aload_n hx hb d_La_readTx_118 rfl (lv_at hl 1 rfl) ?_
      refine va_get (D := D) (ci := 4) (v := .int e3) (C := "CoinKeeper$Layout") (T := F_4) (N := 15) hx hb hts i_4 hown hK hP 9 rfl rfl 12 (by decide) (hts _ gw_297) (fun _ h9 => h9) rfl d_La_readTx_119 ?_
      refine lv_isub hx hb d_La_readTx_122 ?_
      refine lv_i2l hx hb d_La_readTx_123 rfl ?_
      refine W.lcmp hx hb d_La_readTx_124 ?_
      refine lv_if_le (tgt := 130) hx hb d_La_readTx_125 (by decide) (fun cx => ?_) (fun cx => ?_)
      · have hf := ifp cx hf
        refine lv_iconst (v := 0) hx hb d_La_readTx_130 (by decide) ?_
        refine lv_istore (lv' := [(4, .int (0 : Int32)), (2, .long v2), (0, .ref o), (1, .int x1)]) hx hb d_La_readTx_131 hl (by decide) rfl (fun ls hl => ?_)
        exact w_La_readTx_133 F fu _ _ _ _ _ _ _ _ _ _ _ _ _ _ _ _ hf _ _ _ (hP.sub (ws' := [(o, .inr (4, [.ref a_raw, .int i_txs, .ref a_txAt, .ref a_firstIn, .ref a_firstOut, .ref a_inAt, .ref a_inScript, .ref a_inEnd, .ref a_outAt, .ref a_outScript, .ref a_outEnd, .int i_end, .int e3, .int u1, .int u2])), (a_raw, .inl (cy 0, n_raw, .inl g_raw)), (a_txAt, .inl (cy 1, 301, .inl u3)), (a_firstIn, .inl (cy 1, 301, .inl u4)), (a_firstOut, .inl (cy 1, 301, .inl u5)), (a_inAt, .inl (cy 1, 73, .inl u6)), (a_inScript, .inl (cy 1, 73, .inl u7)), (a_inEnd, .inl (cy 1, 73, .inl u8)), (a_outAt, .inl (cy 1, 333, .inl u9)), (a_outScript, .inl (cy 1, 333, .inl u10)), (a_outEnd, .inl (cy 1, 333, .inl u11))]) [9, 10, 0, 1, 2, 3, 4, 5, 6, 7, 8] rfl) (hD.sub (ws' := [(o, .inr (4, [.ref a_raw, .int i_txs, .ref a_txAt, .ref a_firstIn, .ref a_firstOut, .ref a_inAt, .ref a_inScript, .ref a_inEnd, .ref a_outAt, .ref a_outScript, .ref a_outEnd, .int i_end, .int e3, .int u1, .int u2])), (a_raw, .inl (cy 0, n_raw, .inl g_raw)), (a_txAt, .inl (cy 1, 301, .inl u3)), (a_firstIn, .inl (cy 1, 301, .inl u4)), (a_firstOut, .inl (cy 1, 301, .inl u5)), (a_inAt, .inl (cy 1, 73, .inl u6)), (a_inScript, .inl (cy 1, 73, .inl u7)), (a_inEnd, .inl (cy 1, 73, .inl u8)), (a_outAt, .inl (cy 1, 333, .inl u9)), (a_outScript, .inl (cy 1, 333, .inl u10)), (a_outEnd, .inl (cy 1, 333, .inl u11))]) [9, 10, 0, 1, 2, 3, 4, 5, 6, 7, 8] (by decide) rfl) hS (lv_sub hl [2, 3, 1, 0] rfl)
      · have hf := ifn cx hf
        refine lv_iconst (v := 0) hx hb d_La_readTx_128 (by decide) ?_
        obtain rfl := Option.some.inj hf
        exact q_rz hx hb hr hlocks hK (hP.sub [9, 10, 0, 1, 2, 3, 4, 5, 6, 7, 8] rfl) (hD.sub [9, 10, 0, 1, 2, 3, 4, 5, 6, 7, 8] (by decide) rfl) hS (isb_n (v := 0) (by decide)) d_La_readTx_129
  · have hf := ifn cx hf
    refine lv_aload_n hx hb d_La_readTx_83 rfl (lv_at hl 0 rfl) ?_
    obtain ⟨v5, e6, e7, f8, f9, f10, hc, hf⟩ := bdp6 hf
    refine q_ai (wr := [(a_txAt, .inl (cy 1, 301, .inl u3)), (a_firstIn, .inl (cy 1, 301, .inl u4)), (a_firstOut, .inl (cy 1, 301, .inl u5)), (a_outAt, .inl (cy 1, 333, .inl u9)), (a_outScript, .inl (cy 1, 333, .inl u10)), (a_outEnd, .inl (cy 1, 333, .inl u11))]) (va_runV (C := "CoinKeeper$Layout") (As := []) (rest := []) ⟨hx, hb, hml, hown, hts⟩ (c_La_readIn l D cy ad fu o (.ref a_txAt) (.ref a_firstIn) (.ref a_firstOut) (.ref a_outAt) (.ref a_outScript) (.ref a_outEnd) a_raw a_inAt a_inScript a_inEnd i_txs i_end u2 n_raw g_raw u0 u1 u6 u7 u8 _ hc H.size) ⟨q_cB hts gw_698 gw_8 gw_695 hdc_26 ⟨by decide, by decide⟩, hts _ gw_697, hts _ gs_8⟩ (q_preV (q_pre (hP.sub [0, 1, 5, 6, 7] rfl) (hD.sub [0, 1, 5, 6, 7] (by decide) rfl) hK hSt hS (va_free hD hS hA [0, 1, 5, 6, 7] rfl) _) (va_recv hK (hP.sub [0, 1, 5, 6, 7] rfl) (ci := 4) (q0 := 0) rfl rfl)) rfl rfl hl.1 rfl (lv_room (Nat.le_of_ble_eq_true rfl)) d_La_readTx_84 ⟨Nat.le_of_ble_eq_true rfl, Nat.le_of_ble_eq_true rfl⟩) hP hD hS hA [0, 1, 5, 6, 7] [2, 3, 4, 8, 9, 10] rfl rfl (by decide) (by decide) (fun H locs hP hD hS => ?_)
    clear hc
    have hP : va_P D classes [(a_txAt, .inl (cy 1, 301, .inl u3)), (a_firstIn, .inl (cy 1, 301, .inl u4)), (a_firstOut, .inl (cy 1, 301, .inl u5)), (a_outAt, .inl (cy 1, 333, .inl u9)), (a_outScript, .inl (cy 1, 333, .inl u10)), (a_outEnd, .inl (cy 1, 333, .inl u11)), (o, .inr (4, [.ref a_raw, .int i_txs, .ref a_txAt, .ref a_firstIn, .ref a_firstOut, .ref a_inAt, .ref a_inScript, .ref a_inEnd, .ref a_outAt, .ref a_outScript, .ref a_outEnd, .int i_end, .int e6, .int e7, .int u2])), (a_raw, .inl (cy 0, n_raw, .inl g_raw)), (a_inAt, .inl (cy 1, 73, .inl f8)), (a_inScript, .inl (cy 1, 73, .inl f9)), (a_inEnd, .inl (cy 1, 73, .inl f10))] H := hP
    have hD : va_D A [(a_txAt, .inl (cy 1, 301, .inl u3)), (a_firstIn, .inl (cy 1, 301, .inl u4)), (a_firstOut, .inl (cy 1, 301, .inl u5)), (a_outAt, .inl (cy 1, 333, .inl u9)), (a_outScript, .inl (cy 1, 333, .inl u10)), (a_outEnd, .inl (cy 1, 333, .inl u11)), (o, .inr (4, [.ref a_raw, .int i_txs, .ref a_txAt, .ref a_firstIn, .ref a_firstOut, .ref a_inAt, .ref a_inScript, .ref a_inEnd, .ref a_outAt, .ref a_outScript, .ref a_outEnd, .int i_end, .int e6, .int e7, .int u2])), (a_raw, .inl (cy 0, n_raw, .inl g_raw)), (a_inAt, .inl (cy 1, 73, .inl f8)), (a_inScript, .inl (cy 1, 73, .inl f9)), (a_inEnd, .inl (cy 1, 73, .inl f10))] := hD
    refine lv_if_ne (tgt := 92) hx hb d_La_readTx_87 (by decide) (fun cx => ?_) (fun cx => ?_)
    · have hf := ifn cx hf
      obtain ⟨v11, ev, hf⟩ := bne hf
      refine lv_iinc (v := v11) (lv' := [(4, .int v11), (0, .ref o), (1, .int x1), (2, .long x2)]) hx hb d_La_readTx_92 hl (k := 3) rfl (by rw [ev]; rfl) (by decide) rfl (fun ls hl => ?_)
      clear ev
      refine lv_goto (tgt := 75) hx hb d_La_readTx_95 (by decide) ?_
      exact hk_75 _ _ _ _ _ _ _ _ _ _ _ _ _ _ _ _ hf _ _ _ (hP.sub (ws' := [(o, .inr (4, [.ref a_raw, .int i_txs, .ref a_txAt, .ref a_firstIn, .ref a_firstOut, .ref a_inAt, .ref a_inScript, .ref a_inEnd, .ref a_outAt, .ref a_outScript, .ref a_outEnd, .int i_end, .int e6, .int e7, .int u2])), (a_raw, .inl (cy 0, n_raw, .inl g_raw)), (a_txAt, .inl (cy 1, 301, .inl u3)), (a_firstIn, .inl (cy 1, 301, .inl u4)), (a_firstOut, .inl (cy 1, 301, .inl u5)), (a_inAt, .inl (cy 1, 73, .inl f8)), (a_inScript, .inl (cy 1, 73, .inl f9)), (a_inEnd, .inl (cy 1, 73, .inl f10)), (a_outAt, .inl (cy 1, 333, .inl u9)), (a_outScript, .inl (cy 1, 333, .inl u10)), (a_outEnd, .inl (cy 1, 333, .inl u11))]) [6, 7, 0, 1, 2, 8, 9, 10, 3, 4, 5] rfl) (hD.sub (ws' := [(o, .inr (4, [.ref a_raw, .int i_txs, .ref a_txAt, .ref a_firstIn, .ref a_firstOut, .ref a_inAt, .ref a_inScript, .ref a_inEnd, .ref a_outAt, .ref a_outScript, .ref a_outEnd, .int i_end, .int e6, .int e7, .int u2])), (a_raw, .inl (cy 0, n_raw, .inl g_raw)), (a_txAt, .inl (cy 1, 301, .inl u3)), (a_firstIn, .inl (cy 1, 301, .inl u4)), (a_firstOut, .inl (cy 1, 301, .inl u5)), (a_inAt, .inl (cy 1, 73, .inl f8)), (a_inScript, .inl (cy 1, 73, .inl f9)), (a_inEnd, .inl (cy 1, 73, .inl f10)), (a_outAt, .inl (cy 1, 333, .inl u9)), (a_outScript, .inl (cy 1, 333, .inl u10)), (a_outEnd, .inl (cy 1, 333, .inl u11))]) [6, 7, 0, 1, 2, 8, 9, 10, 3, 4, 5] (by decide) rfl) hS (lv_sub hl [1, 2, 3, 0] rfl)
    · have hf := ifp cx hf
      refine lv_iconst (v := 0) hx hb d_La_readTx_90 (by decide) ?_
      obtain rfl := Option.some.inj hf
      exact q_rz hx hb hr hlocks hK (hP.sub [6, 7, 0, 1, 2, 8, 9, 10, 3, 4, 5] rfl) (hD.sub [6, 7, 0, 1, 2, 8, 9, 10, 3, 4, 5] (by decide) rfl) hS (isb_n (v := 0) (by decide)) d_La_readTx_91
theorem w_La_readTx_75 {p : Program} {l : Launch} {e : Env} {s : State} {m : MethodId} {args : Array Value} {below : List Frame} {meth : Method} {c : Code} {D : va_G} {cy : Nat → ClassId} {A : Nat → Prop} {ad : Nat → Nat} {o : Nat} {a_raw : Nat} {a_txAt : Nat} {a_firstIn : Nat} {a_firstOut : Nat} {a_inAt : Nat} {a_inScript : Nat} {a_inEnd : Nat} {a_outAt : Nat} {a_outScript : Nat} {a_outEnd : Nat} {i_txs : Int32} {i_end : Int32} {n_raw : Nat} {g_raw : Nat → Int32} {fu : Nat} (F : Fx p s m args meth c b_La_readTx 5 "CoinKeeper$Layout" "readTx" (some .boolean) D cy ad A) : ∀ n : Nat, I_La_readTx_75 p l e s m args below meth c D cy A ad o a_raw a_txAt a_firstIn a_firstOut a_inAt a_inScript a_inEnd a_outAt a_outScript a_outEnd i_txs i_end n_raw g_raw (x_La_readTx_75 fu i_txs i_end n_raw g_raw n)
  | 0 => fun _ _ _ _ _ _ _ _ _ _ _ _ _ _ _ _ hf => nomatch (show (none : Option (Int32 × Int32 × Int32 × Int32 × (Nat → Int32) × (Nat → Int32) × (Nat → Int32) × (Nat → Int32) × (Nat → Int32) × (Nat → Int32) × (Nat → Int32) × (Nat → Int32) × (Nat → Int32))) = some _ from hf)
  | n + 1 => wb_La_readTx_75 F (w_La_readTx_75 F n)
set_option maxHeartbeats 8000000 in
set_option maxRecDepth 100000 in
theorem we_La_readTx {p : Program} {l : Launch} {e : Env} {s : State} {m : MethodId} {args : Array Value} {below : List Frame} {meth : Method} {c : Code} {D : va_G} {cy : Nat → ClassId} {A : Nat → Prop} {ad : Nat → Nat} {o : Nat} {a_raw : Nat} {a_txAt : Nat} {a_firstIn : Nat} {a_firstOut : Nat} {a_inAt : Nat} {a_inScript : Nat} {a_inEnd : Nat} {a_outAt : Nat} {a_outScript : Nat} {a_outEnd : Nat} {i_txs : Int32} {i_end : Int32} {n_raw : Nat} {g_raw : Nat → Int32} {fu : Nat} (F : Fx p s m args meth c b_La_readTx 5 "CoinKeeper$Layout" "readTx" (some .boolean) D cy ad A) : I_La_readTx_e p l e s m args below meth c D cy A ad o a_raw a_txAt a_firstIn a_firstOut a_inAt a_inScript a_inEnd a_outAt a_outScript a_outEnd i_txs i_end n_raw g_raw (x_La_readTx fu i_txs i_end n_raw g_raw) := by
  obtain ⟨hx, hb, hr, hml, hown, hts, hlocks, hK, hA, hSt, hnm, hex⟩ := id F
  intro a1 u0 u1 u2 u3 u4 u5 u6 u7 u8 u9 u10 u11 res hf H locs ls hP hD hS hl
  unfold x_La_readTx at hf
  refine lv_aload_n hx hb d_La_readTx_0 rfl (lv_at hl 0 rfl) ?_
  refine va_get (D := D) (ci := 4) (v := .ref a_txAt) (C := "CoinKeeper$Layout") (T := F_4) (N := 15) hx hb hts i_4 hown hK hP 0 rfl rfl 2 (by decide) (hts _ gw_274) (fun _ h9 => h9) rfl d_La_readTx_1 ?_
  refine lv_iload_n hx hb d_La_readTx_4 rfl (lv_at hl 1 rfl) ?_
  refine lv_aload_n hx hb d_La_readTx_5 rfl (lv_at hl 0 rfl) ?_
  refine va_get (D := D) (ci := 4) (v := .int u0) (C := "CoinKeeper$Layout") (T := F_4) (N := 15) hx hb hts i_4 hown hK hP 0 rfl rfl 12 (by decide) (hts _ gw_297) (fun _ h9 => h9) rfl d_La_readTx_6 ?_
  obtain ⟨hg, hf⟩ := gdp hf
  refine va_iast hx hb hK hP hD hS 2 1 rfl rfl (inb_in hg) d_La_readTx_9 (fun H locs hP hD hS => ?_)
  obtain ⟨f1, ev, hf⟩ := bne hf
  have hP : va_P D classes [(o, .inr (4, [.ref a_raw, .int i_txs, .ref a_txAt, .ref a_firstIn, .ref a_firstOut, .ref a_inAt, .ref a_inScript, .ref a_inEnd, .ref a_outAt, .ref a_outScript, .ref a_outEnd, .int i_end, .int u0, .int u1, .int u2])), (a_raw, .inl (cy 0, n_raw, .inl g_raw)), (a_txAt, .inl (cy 1, 301, .inl f1)), (a_firstIn, .inl (cy 1, 301, .inl u4)), (a_firstOut, .inl (cy 1, 301, .inl u5)), (a_inAt, .inl (cy 1, 73, .inl u6)), (a_inScript, .inl (cy 1, 73, .inl u7)), (a_inEnd, .inl (cy 1, 73, .inl u8)), (a_outAt, .inl (cy 1, 333, .inl u9)), (a_outScript, .inl (cy 1, 333, .inl u10)), (a_outEnd, .inl (cy 1, 333, .inl u11))] H := by rw [ev]; exact hP
  have hD : va_D A [(o, .inr (4, [.ref a_raw, .int i_txs, .ref a_txAt, .ref a_firstIn, .ref a_firstOut, .ref a_inAt, .ref a_inScript, .ref a_inEnd, .ref a_outAt, .ref a_outScript, .ref a_outEnd, .int i_end, .int u0, .int u1, .int u2])), (a_raw, .inl (cy 0, n_raw, .inl g_raw)), (a_txAt, .inl (cy 1, 301, .inl f1)), (a_firstIn, .inl (cy 1, 301, .inl u4)), (a_firstOut, .inl (cy 1, 301, .inl u5)), (a_inAt, .inl (cy 1, 73, .inl u6)), (a_inScript, .inl (cy 1, 73, .inl u7)), (a_inEnd, .inl (cy 1, 73, .inl u8)), (a_outAt, .inl (cy 1, 333, .inl u9)), (a_outScript, .inl (cy 1, 333, .inl u10)), (a_outEnd, .inl (cy 1, 333, .inl u11))] := by rw [ev]; exact hD
  clear ev
  refine lv_aload_n hx hb d_La_readTx_10 rfl (lv_at hl 0 rfl) ?_
  refine va_get (D := D) (ci := 4) (v := .ref a_firstIn) (C := "CoinKeeper$Layout") (T := F_4) (N := 15) hx hb hts i_4 hown hK hP 0 rfl rfl 3 (by decide) (hts _ gw_276) (fun _ h9 => h9) rfl d_La_readTx_11 ?_
  refine lv_iload_n hx hb d_La_readTx_14 rfl (lv_at hl 1 rfl) ?_
  refine lv_aload_n hx hb d_La_readTx_15 rfl (lv_at hl 0 rfl) ?_
  refine va_get (D := D) (ci := 4) (v := .int u1) (C := "CoinKeeper$Layout") (T := F_4) (N := 15) hx hb hts i_4 hown hK hP 0 rfl rfl 13 (by decide) (hts _ gw_298) (fun _ h9 => h9) rfl d_La_readTx_16 ?_
  obtain ⟨hg, hf⟩ := gdp hf
  refine va_iast hx hb hK hP hD hS 3 1 rfl rfl (inb_in hg) d_La_readTx_19 (fun H locs hP hD hS => ?_)
  obtain ⟨f2, ev, hf⟩ := bne hf
  have hP : va_P D classes [(o, .inr (4, [.ref a_raw, .int i_txs, .ref a_txAt, .ref a_firstIn, .ref a_firstOut, .ref a_inAt, .ref a_inScript, .ref a_inEnd, .ref a_outAt, .ref a_outScript, .ref a_outEnd, .int i_end, .int u0, .int u1, .int u2])), (a_raw, .inl (cy 0, n_raw, .inl g_raw)), (a_txAt, .inl (cy 1, 301, .inl f1)), (a_firstIn, .inl (cy 1, 301, .inl f2)), (a_firstOut, .inl (cy 1, 301, .inl u5)), (a_inAt, .inl (cy 1, 73, .inl u6)), (a_inScript, .inl (cy 1, 73, .inl u7)), (a_inEnd, .inl (cy 1, 73, .inl u8)), (a_outAt, .inl (cy 1, 333, .inl u9)), (a_outScript, .inl (cy 1, 333, .inl u10)), (a_outEnd, .inl (cy 1, 333, .inl u11))] H := by rw [ev]; exact hP
  have hD : va_D A [(o, .inr (4, [.ref a_raw, .int i_txs, .ref a_txAt, .ref a_firstIn, .ref a_firstOut, .ref a_inAt, .ref a_inScript, .ref a_inEnd, .ref a_outAt, .ref a_outScript, .ref a_outEnd, .int i_end, .int u0, .int u1, .int u2])), (a_raw, .inl (cy 0, n_raw, .inl g_raw)), (a_txAt, .inl (cy 1, 301, .inl f1)), (a_firstIn, .inl (cy 1, 301, .inl f2)), (a_firstOut, .inl (cy 1, 301, .inl u5)), (a_inAt, .inl (cy 1, 73, .inl u6)), (a_inScript, .inl (cy 1, 73, .inl u7)), (a_inEnd, .inl (cy 1, 73, .inl u8)), (a_outAt, .inl (cy 1, 333, .inl u9)), (a_outScript, .inl (cy 1, 333, .inl u10)), (a_outEnd, .inl (cy 1, 333, .inl u11))] := by rw [ev]; exact hD
  clear ev
  refine lv_aload_n hx hb d_La_readTx_20 rfl (lv_at hl 0 rfl) ?_
  refine va_get (D := D) (ci := 4) (v := .ref a_firstOut) (C := "CoinKeeper$Layout") (T := F_4) (N := 15) hx hb hts i_4 hown hK hP 0 rfl rfl 4 (by decide) (hts _ gw_279) (fun _ h9 => h9) rfl d_La_readTx_21 ?_
  refine lv_iload_n hx hb d_La_readTx_24 rfl (lv_at hl 1 rfl) ?_
  refine lv_aload_n hx hb d_La_readTx_25 rfl (lv_at hl 0 rfl) ?_
  refine va_get (D := D) (ci := 4) (v := .int u2) (C := "CoinKeeper$Layout") (T := F_4) (N := 15) hx hb hts i_4 hown hK hP 0 rfl rfl 14 (by decide) (hts _ gw_299) (fun _ h9 => h9) rfl d_La_readTx_26 ?_
  obtain ⟨hg, hf⟩ := gdp hf
  refine va_iast hx hb hK hP hD hS 4 1 rfl rfl (inb_in hg) d_La_readTx_29 (fun H locs hP hD hS => ?_)
  obtain ⟨f3, ev, hf⟩ := bne hf
  have hP : va_P D classes [(o, .inr (4, [.ref a_raw, .int i_txs, .ref a_txAt, .ref a_firstIn, .ref a_firstOut, .ref a_inAt, .ref a_inScript, .ref a_inEnd, .ref a_outAt, .ref a_outScript, .ref a_outEnd, .int i_end, .int u0, .int u1, .int u2])), (a_raw, .inl (cy 0, n_raw, .inl g_raw)), (a_txAt, .inl (cy 1, 301, .inl f1)), (a_firstIn, .inl (cy 1, 301, .inl f2)), (a_firstOut, .inl (cy 1, 301, .inl f3)), (a_inAt, .inl (cy 1, 73, .inl u6)), (a_inScript, .inl (cy 1, 73, .inl u7)), (a_inEnd, .inl (cy 1, 73, .inl u8)), (a_outAt, .inl (cy 1, 333, .inl u9)), (a_outScript, .inl (cy 1, 333, .inl u10)), (a_outEnd, .inl (cy 1, 333, .inl u11))] H := by rw [ev]; exact hP
  have hD : va_D A [(o, .inr (4, [.ref a_raw, .int i_txs, .ref a_txAt, .ref a_firstIn, .ref a_firstOut, .ref a_inAt, .ref a_inScript, .ref a_inEnd, .ref a_outAt, .ref a_outScript, .ref a_outEnd, .int i_end, .int u0, .int u1, .int u2])), (a_raw, .inl (cy 0, n_raw, .inl g_raw)), (a_txAt, .inl (cy 1, 301, .inl f1)), (a_firstIn, .inl (cy 1, 301, .inl f2)), (a_firstOut, .inl (cy 1, 301, .inl f3)), (a_inAt, .inl (cy 1, 73, .inl u6)), (a_inScript, .inl (cy 1, 73, .inl u7)), (a_inEnd, .inl (cy 1, 73, .inl u8)), (a_outAt, .inl (cy 1, 333, .inl u9)), (a_outScript, .inl (cy 1, 333, .inl u10)), (a_outEnd, .inl (cy 1, 333, .inl u11))] := by rw [ev]; exact hD
  clear ev
  refine lv_aload_n hx hb d_La_readTx_30 rfl (lv_at hl 0 rfl) ?_
  refine lv_dup hx hb d_La_readTx_31 rfl ?_
  refine va_get (D := D) (ci := 4) (v := .int u0) (C := "CoinKeeper$Layout") (T := F_4) (N := 15) hx hb hts i_4 hown hK hP 0 rfl rfl 12 (by decide) (hts _ gw_297) (fun _ h9 => h9) rfl d_La_readTx_32 ?_
  refine lv_iconst (v := 4) hx hb d_La_readTx_35 (by decide) ?_
  refine lv_iadd hx hb d_La_readTx_36 ?_
  refine lv_topi (fun v4 ev => ?_)
  have hf := bn ev hf
  clear ev
  refine va_put (D := D) (ci := 4) (v := .int v4) (ty := .int) (C := "CoinKeeper$Layout") (T := F_4) (N := 15) hx hb hts i_4 t_4 t_4_ok n_4 hown hK hP hD hS 0 rfl rfl 12 (by decide) (hts _ gw_297) (fun _ h9 => h9) rfl (by decide +kernel) rfl rfl (Nat.le_of_ble_eq_true rfl) d_La_readTx_37 (fun H locs hP hD hS => ?_)
  have hP : va_P D classes [(o, .inr (4, [.ref a_raw, .int i_txs, .ref a_txAt, .ref a_firstIn, .ref a_firstOut, .ref a_inAt, .ref a_inScript, .ref a_inEnd, .ref a_outAt, .ref a_outScript, .ref a_outEnd, .int i_end, .int v4, .int u1, .int u2])), (a_raw, .inl (cy 0, n_raw, .inl g_raw)), (a_txAt, .inl (cy 1, 301, .inl f1)), (a_firstIn, .inl (cy 1, 301, .inl f2)), (a_firstOut, .inl (cy 1, 301, .inl f3)), (a_inAt, .inl (cy 1, 73, .inl u6)), (a_inScript, .inl (cy 1, 73, .inl u7)), (a_inEnd, .inl (cy 1, 73, .inl u8)), (a_outAt, .inl (cy 1, 333, .inl u9)), (a_outScript, .inl (cy 1, 333, .inl u10)), (a_outEnd, .inl (cy 1, 333, .inl u11))] H := hP
  have hD : va_D A [(o, .inr (4, [.ref a_raw, .int i_txs, .ref a_txAt, .ref a_firstIn, .ref a_firstOut, .ref a_inAt, .ref a_inScript, .ref a_inEnd, .ref a_outAt, .ref a_outScript, .ref a_outEnd, .int i_end, .int v4, .int u1, .int u2])), (a_raw, .inl (cy 0, n_raw, .inl g_raw)), (a_txAt, .inl (cy 1, 301, .inl f1)), (a_firstIn, .inl (cy 1, 301, .inl f2)), (a_firstOut, .inl (cy 1, 301, .inl f3)), (a_inAt, .inl (cy 1, 73, .inl u6)), (a_inScript, .inl (cy 1, 73, .inl u7)), (a_inEnd, .inl (cy 1, 73, .inl u8)), (a_outAt, .inl (cy 1, 333, .inl u9)), (a_outScript, .inl (cy 1, 333, .inl u10)), (a_outEnd, .inl (cy 1, 333, .inl u11))] := hD
  refine lv_aload_n hx hb d_La_readTx_40 rfl (lv_at hl 0 rfl) ?_
  obtain ⟨v5, e6, hc, hf⟩ := bdp2 hf
  refine q_al (wr := [(a_txAt, .inl (cy 1, 301, .inl f1)), (a_firstIn, .inl (cy 1, 301, .inl f2)), (a_firstOut, .inl (cy 1, 301, .inl f3)), (a_inAt, .inl (cy 1, 73, .inl u6)), (a_inScript, .inl (cy 1, 73, .inl u7)), (a_inEnd, .inl (cy 1, 73, .inl u8)), (a_outAt, .inl (cy 1, 333, .inl u9)), (a_outScript, .inl (cy 1, 333, .inl u10)), (a_outEnd, .inl (cy 1, 333, .inl u11))]) (va_runV (C := "CoinKeeper$Layout") (As := []) (rest := []) ⟨hx, hb, hml, hown, hts⟩ (c_La_readCount l D cy ad fu o (.ref a_txAt) (.ref a_firstIn) (.ref a_firstOut) (.ref a_inAt) (.ref a_inScript) (.ref a_inEnd) (.ref a_outAt) (.ref a_outScript) (.ref a_outEnd) a_raw i_txs i_end u1 u2 n_raw g_raw v4 _ hc H.size) ⟨q_cB hts gw_687 gw_8 gw_684 hdc_24 ⟨by decide, by decide⟩, hts _ gw_686, hts _ gs_6⟩ (q_preV (q_pre (hP.sub [0, 1] rfl) (hD.sub [0, 1] (by decide) rfl) hK hSt hS (va_free hD hS hA [0, 1] rfl) _) (va_recv hK (hP.sub [0, 1] rfl) (ci := 4) (q0 := 0) rfl rfl)) rfl rfl hl.1 rfl (lv_room (Nat.le_of_ble_eq_true rfl)) d_La_readTx_41 ⟨Nat.le_of_ble_eq_true rfl, Nat.le_of_ble_eq_true rfl⟩) hP hD hS hA [0, 1] [2, 3, 4, 5, 6, 7, 8, 9, 10] rfl rfl (by decide) (by decide) (fun H locs hP hD hS => ?_)
  clear hc
  have hP : va_P D classes [(a_txAt, .inl (cy 1, 301, .inl f1)), (a_firstIn, .inl (cy 1, 301, .inl f2)), (a_firstOut, .inl (cy 1, 301, .inl f3)), (a_inAt, .inl (cy 1, 73, .inl u6)), (a_inScript, .inl (cy 1, 73, .inl u7)), (a_inEnd, .inl (cy 1, 73, .inl u8)), (a_outAt, .inl (cy 1, 333, .inl u9)), (a_outScript, .inl (cy 1, 333, .inl u10)), (a_outEnd, .inl (cy 1, 333, .inl u11)), (o, .inr (4, [.ref a_raw, .int i_txs, .ref a_txAt, .ref a_firstIn, .ref a_firstOut, .ref a_inAt, .ref a_inScript, .ref a_inEnd, .ref a_outAt, .ref a_outScript, .ref a_outEnd, .int i_end, .int e6, .int u1, .int u2])), (a_raw, .inl (cy 0, n_raw, .inl g_raw))] H := hP
  have hD : va_D A [(a_txAt, .inl (cy 1, 301, .inl f1)), (a_firstIn, .inl (cy 1, 301, .inl f2)), (a_firstOut, .inl (cy 1, 301, .inl f3)), (a_inAt, .inl (cy 1, 73, .inl u6)), (a_inScript, .inl (cy 1, 73, .inl u7)), (a_inEnd, .inl (cy 1, 73, .inl u8)), (a_outAt, .inl (cy 1, 333, .inl u9)), (a_outScript, .inl (cy 1, 333, .inl u10)), (a_outEnd, .inl (cy 1, 333, .inl u11)), (o, .inr (4, [.ref a_raw, .int i_txs, .ref a_txAt, .ref a_firstIn, .ref a_firstOut, .ref a_inAt, .ref a_inScript, .ref a_inEnd, .ref a_outAt, .ref a_outScript, .ref a_outEnd, .int i_end, .int e6, .int u1, .int u2])), (a_raw, .inl (cy 0, n_raw, .inl g_raw))] := hD
  refine lv_lstore_n (lv' := [(2, .long v5), (0, .ref o), (1, .int a1)]) hx hb d_La_readTx_44 rfl hl (by decide) rfl (fun ls hl => ?_)
  refine lv_lload_n hx hb d_La_readTx_45 rfl (lv_at hl 0 rfl) ?_
  refine lv_lconst (v := 0) hx hb d_La_readTx_46 (by decide) ?_
  refine W.lcmp hx hb d_La_readTx_47 ?_
  refine lv_if_lt (tgt := 70) hx hb d_La_readTx_48 (by decide) (fun cx => ?_) (fun cx => ?_)
  · have hf := ifp cx hf
    refine lv_iconst (v := 0) hx hb d_La_readTx_70 (by decide) ?_
    obtain rfl := Option.some.inj hf
    exact q_rz hx hb hr hlocks hK (hP.sub [9, 10, 0, 1, 2, 3, 4, 5, 6, 7, 8] rfl) (hD.sub [9, 10, 0, 1, 2, 3, 4, 5, 6, 7, 8] (by decide) rfl) hS (isb_n (v := 0) (by decide)) d_La_readTx_71
  · have hf := ifn cx hf
    refine lv_lload_n hx hb d_La_readTx_51 rfl (lv_at hl 0 rfl) ?_
    refine lv_ldc2 (v := 41) hx hb hown (hts _ gw_694) d_La_readTx_52 ?_
    refine lv_lmul hx hb d_La_readTx_55 ?_
    refine lv_topl (fun v7 ev => ?_)
    have hf := bn ev hf
    clear ev
    refine lv_aload_n hx hb d_La_readTx_56 rfl (lv_at hl 1 rfl) ?_
    refine va_get (D := D) (ci := 4) (v := .int i_end) (C := "CoinKeeper$Layout") (T := F_4) (N := 15) hx hb hts i_4 hown hK hP 9 rfl rfl 11 (by decide) (hts _ gw_296) (fun _ h9 => h9) rfl d_La_readTx_57 ?_
    refine lv_aload_n hx hb d_La_readTx_60 rfl (lv_at hl 1 rfl) ?_
    refine va_get (D := D) (ci := 4) (v := .int e6) (C := "CoinKeeper$Layout") (T := F_4) (N := 15) hx hb hts i_4 hown hK hP 9 rfl rfl 12 (by decide) (hts _ gw_297) (fun _ h9 => h9) rfl d_La_readTx_61 ?_
    refine lv_isub hx hb d_La_readTx_64 ?_
    refine lv_i2l hx hb d_La_readTx_65 rfl ?_
    refine W.lcmp hx hb d_La_readTx_66 ?_
    refine lv_if_le (tgt := 72) hx hb d_La_readTx_67 (by decide) (fun cx => ?_) (fun cx => ?_)
    · have hf := ifp cx hf
      refine lv_iconst (v := 0) hx hb d_La_readTx_72 (by decide) ?_
      refine lv_istore (lv' := [(4, .int (0 : Int32)), (2, .long v5), (0, .ref o), (1, .int a1)]) hx hb d_La_readTx_73 hl (by decide) rfl (fun ls hl => ?_)
      exact w_La_readTx_75 F fu _ _ _ _ _ _ _ _ _ _ _ _ _ _ _ _ hf _ _ _ (hP.sub (ws' := [(o, .inr (4, [.ref a_raw, .int i_txs, .ref a_txAt, .ref a_firstIn, .ref a_firstOut, .ref a_inAt, .ref a_inScript, .ref a_inEnd, .ref a_outAt, .ref a_outScript, .ref a_outEnd, .int i_end, .int e6, .int u1, .int u2])), (a_raw, .inl (cy 0, n_raw, .inl g_raw)), (a_txAt, .inl (cy 1, 301, .inl f1)), (a_firstIn, .inl (cy 1, 301, .inl f2)), (a_firstOut, .inl (cy 1, 301, .inl f3)), (a_inAt, .inl (cy 1, 73, .inl u6)), (a_inScript, .inl (cy 1, 73, .inl u7)), (a_inEnd, .inl (cy 1, 73, .inl u8)), (a_outAt, .inl (cy 1, 333, .inl u9)), (a_outScript, .inl (cy 1, 333, .inl u10)), (a_outEnd, .inl (cy 1, 333, .inl u11))]) [9, 10, 0, 1, 2, 3, 4, 5, 6, 7, 8] rfl) (hD.sub (ws' := [(o, .inr (4, [.ref a_raw, .int i_txs, .ref a_txAt, .ref a_firstIn, .ref a_firstOut, .ref a_inAt, .ref a_inScript, .ref a_inEnd, .ref a_outAt, .ref a_outScript, .ref a_outEnd, .int i_end, .int e6, .int u1, .int u2])), (a_raw, .inl (cy 0, n_raw, .inl g_raw)), (a_txAt, .inl (cy 1, 301, .inl f1)), (a_firstIn, .inl (cy 1, 301, .inl f2)), (a_firstOut, .inl (cy 1, 301, .inl f3)), (a_inAt, .inl (cy 1, 73, .inl u6)), (a_inScript, .inl (cy 1, 73, .inl u7)), (a_inEnd, .inl (cy 1, 73, .inl u8)), (a_outAt, .inl (cy 1, 333, .inl u9)), (a_outScript, .inl (cy 1, 333, .inl u10)), (a_outEnd, .inl (cy 1, 333, .inl u11))]) [9, 10, 0, 1, 2, 3, 4, 5, 6, 7, 8] (by decide) rfl) hS (lv_sub hl [2, 3, 1, 0] rfl)
    · have hf := ifn cx hf
      refine lv_iconst (v := 0) hx hb d_La_readTx_70 (by decide) ?_
      obtain rfl := Option.some.inj hf
      exact q_rz hx hb hr hlocks hK (hP.sub [9, 10, 0, 1, 2, 3, 4, 5, 6, 7, 8] rfl) (hD.sub [9, 10, 0, 1, 2, 3, 4, 5, 6, 7, 8] (by decide) rfl) hS (isb_n (v := 0) (by decide)) d_La_readTx_71
theorem c_La_readTx (l : Launch) (D : va_G) (cy : Nat → ClassId) (ad : Nat → Nat) (fu : Nat) (o : Nat) (a_raw : Nat) (a_txAt : Nat) (a_firstIn : Nat) (a_firstOut : Nat) (a_inAt : Nat) (a_inScript : Nat) (a_inEnd : Nat) (a_outAt : Nat) (a_outScript : Nat) (a_outEnd : Nat) (i_txs : Int32) (i_end : Int32) (n_raw : Nat) (g_raw : Nat → Int32) (a1 : Int32) (u0 : Int32) (u1 : Int32) (u2 : Int32) (u3 : Nat → Int32) (u4 : Nat → Int32) (u5 : Nat → Int32) (u6 : Nat → Int32) (u7 : Nat → Int32) (u8 : Nat → Int32) (u9 : Nat → Int32) (u10 : Nat → Int32) (u11 : Nat → Int32) (res : Int32 × Int32 × Int32 × Int32 × (Nat → Int32) × (Nat → Int32) × (Nat → Int32) × (Nat → Int32) × (Nat → Int32) × (Nat → Int32) × (Nat → Int32) × (Nat → Int32) × (Nat → Int32)) (hf : x_La_readTx fu i_txs i_end n_raw g_raw a1 u0 u1 u2 u3 u4 u5 u6 u7 u8 u9 u10 u11 = some res) (sz : Nat) : Met l ({ cls := "CoinKeeper$Layout", name := "readTx", desc := "(I)Z" } : Jvm.MethodName) (.code ({ cls := "CoinKeeper$Layout", name := "readTx", desc := "(I)Z" } : Jvm.MethodName) b_La_readTx 5 (some .boolean) :: gw) rm_La_readTx (va_Pc [.ref o, .int a1] (Pr D cy ad [(o, .inr (4, [.ref a_raw, .int i_txs, .ref a_txAt, .ref a_firstIn, .ref a_firstOut, .ref a_inAt, .ref a_inScript, .ref a_inEnd, .ref a_outAt, .ref a_outScript, .ref a_outEnd, .int i_end, .int u0, .int u1, .int u2])), (a_raw, .inl (cy 0, n_raw, .inl g_raw)), (a_txAt, .inl (cy 1, 301, .inl u3)), (a_firstIn, .inl (cy 1, 301, .inl u4)), (a_firstOut, .inl (cy 1, 301, .inl u5)), (a_inAt, .inl (cy 1, 73, .inl u6)), (a_inScript, .inl (cy 1, 73, .inl u7)), (a_inEnd, .inl (cy 1, 73, .inl u8)), (a_outAt, .inl (cy 1, 333, .inl u9)), (a_outScript, .inl (cy 1, 333, .inl u10)), (a_outEnd, .inl (cy 1, 333, .inl u11))] sz)) (q_La_readTx D cy (va_A [(o, .inr (4, [.ref a_raw, .int i_txs, .ref a_txAt, .ref a_firstIn, .ref a_firstOut, .ref a_inAt, .ref a_inScript, .ref a_inEnd, .ref a_outAt, .ref a_outScript, .ref a_outEnd, .int i_end, .int u0, .int u1, .int u2])), (a_raw, .inl (cy 0, n_raw, .inl g_raw)), (a_txAt, .inl (cy 1, 301, .inl u3)), (a_firstIn, .inl (cy 1, 301, .inl u4)), (a_firstOut, .inl (cy 1, 301, .inl u5)), (a_inAt, .inl (cy 1, 73, .inl u6)), (a_inScript, .inl (cy 1, 73, .inl u7)), (a_inEnd, .inl (cy 1, 73, .inl u8)), (a_outAt, .inl (cy 1, 333, .inl u9)), (a_outScript, .inl (cy 1, 333, .inl u10)), (a_outEnd, .inl (cy 1, 333, .inl u11))] sz) o a_raw a_txAt a_firstIn a_firstOut a_inAt a_inScript a_inEnd a_outAt a_outScript a_outEnd i_txs i_end n_raw g_raw res) 0 0 (va_A [(o, .inr (4, [.ref a_raw, .int i_txs, .ref a_txAt, .ref a_firstIn, .ref a_firstOut, .ref a_inAt, .ref a_inScript, .ref a_inEnd, .ref a_outAt, .ref a_outScript, .ref a_outEnd, .int i_end, .int u0, .int u1, .int u2])), (a_raw, .inl (cy 0, n_raw, .inl g_raw)), (a_txAt, .inl (cy 1, 301, .inl u3)), (a_firstIn, .inl (cy 1, 301, .inl u4)), (a_firstOut, .inl (cy 1, 301, .inl u5)), (a_inAt, .inl (cy 1, 73, .inl u6)), (a_inScript, .inl (cy 1, 73, .inl u7)), (a_inEnd, .inl (cy 1, 73, .inl u8)), (a_outAt, .inl (cy 1, 333, .inl u9)), (a_outScript, .inl (cy 1, 333, .inl u10)), (a_outEnd, .inl (cy 1, 333, .inl u11))] sz) :=
  q_met (Qc := fun A => q_La_readTx D cy A o a_raw a_txAt a_firstIn a_firstOut a_inAt a_inScript a_inEnd a_outAt a_outScript a_outEnd i_txs i_end n_raw g_raw res) (by decide) rfl rfl (Nat.le_of_ble_eq_true rfl) (fun p e s m below meth c ls F hP hD hS hl => we_La_readTx (fu := fu) F a1 u0 u1 u2 u3 u4 u5 u6 u7 u8 u9 u10 u11 res hf _ _ _ hP hD hS hl) sz
abbrev b_La_read : ByteArray := prog_5_method_2_code
theorem d_La_read_0 : decode b_La_read 0 = .ok (.aload_n 0, 1) := by decide +kernel
theorem d_La_read_1 : decode b_La_read 1 = .ok (.aload_n 1, 1) := by decide +kernel
theorem d_La_read_2 : decode b_La_read 2 = .ok (.putfield 39, 3) := by decide +kernel
theorem d_La_read_5 : decode b_La_read 5 = .ok (.aload_n 0, 1) := by decide +kernel
theorem d_La_read_6 : decode b_La_read 6 = .ok (.iload_n 2, 1) := by decide +kernel
theorem d_La_read_7 : decode b_La_read 7 = .ok (.putfield 43, 3) := by decide +kernel
theorem d_La_read_10 : decode b_La_read 10 = .ok (.aload_n 0, 1) := by decide +kernel
theorem d_La_read_11 : decode b_La_read 11 = .ok (.bipush 80, 2) := by decide +kernel
theorem d_La_read_13 : decode b_La_read 13 = .ok (.putfield 47, 3) := by decide +kernel
theorem d_La_read_16 : decode b_La_read 16 = .ok (.aload_n 0, 1) := by decide +kernel
theorem d_La_read_17 : decode b_La_read 17 = .ok (.iconst 0, 1) := by decide +kernel
theorem d_La_read_18 : decode b_La_read 18 = .ok (.putfield 50, 3) := by decide +kernel
theorem d_La_read_21 : decode b_La_read 21 = .ok (.aload_n 0, 1) := by decide +kernel
theorem d_La_read_22 : decode b_La_read 22 = .ok (.iconst 0, 1) := by decide +kernel
theorem d_La_read_23 : decode b_La_read 23 = .ok (.putfield 53, 3) := by decide +kernel
theorem d_La_read_26 : decode b_La_read 26 = .ok (.aload_n 0, 1) := by decide +kernel
theorem d_La_read_27 : decode b_La_read 27 = .ok (.iconst 0, 1) := by decide +kernel
theorem d_La_read_28 : decode b_La_read 28 = .ok (.putfield 56, 3) := by decide +kernel
theorem d_La_read_31 : decode b_La_read 31 = .ok (.iload_n 2, 1) := by decide +kernel
theorem d_La_read_32 : decode b_La_read 32 = .ok (.bipush 80, 2) := by decide +kernel
theorem d_La_read_34 : decode b_La_read 34 = .ok (.if_icmp .ge 9, 3) := by decide +kernel
theorem d_La_read_37 : decode b_La_read 37 = .ok (.ldc2_w 59, 3) := by decide +kernel
theorem d_La_read_40 : decode b_La_read 40 = .ok (.goto 7, 3) := by decide +kernel
theorem d_La_read_43 : decode b_La_read 43 = .ok (.aload_n 0, 1) := by decide +kernel
theorem d_La_read_44 : decode b_La_read 44 = .ok (.invokevirtual 61, 3) := by decide +kernel
theorem d_La_read_47 : decode b_La_read 47 = .ok (.lstore_n 3, 1) := by decide +kernel
theorem d_La_read_48 : decode b_La_read 48 = .ok (.lload_n 3, 1) := by decide +kernel
theorem d_La_read_49 : decode b_La_read 49 = .ok (.lconst 0, 1) := by decide +kernel
theorem d_La_read_50 : decode b_La_read 50 = .ok (.lcmp, 1) := by decide +kernel
theorem d_La_read_51 : decode b_La_read 51 = .ok (.ifCond .lt 22, 3) := by decide +kernel
theorem d_La_read_54 : decode b_La_read 54 = .ok (.lload_n 3, 1) := by decide +kernel
theorem d_La_read_55 : decode b_La_read 55 = .ok (.ldc2_w 65, 3) := by decide +kernel
theorem d_La_read_58 : decode b_La_read 58 = .ok (.lmul, 1) := by decide +kernel
theorem d_La_read_59 : decode b_La_read 59 = .ok (.aload_n 0, 1) := by decide +kernel
theorem d_La_read_60 : decode b_La_read 60 = .ok (.getfield 43, 3) := by decide +kernel
theorem d_La_read_63 : decode b_La_read 63 = .ok (.aload_n 0, 1) := by decide +kernel
theorem d_La_read_64 : decode b_La_read 64 = .ok (.getfield 47, 3) := by decide +kernel
theorem d_La_read_67 : decode b_La_read 67 = .ok (.isub, 1) := by decide +kernel
theorem d_La_read_68 : decode b_La_read 68 = .ok (.i2l, 1) := by decide +kernel
theorem d_La_read_69 : decode b_La_read 69 = .ok (.lcmp, 1) := by decide +kernel
theorem d_La_read_70 : decode b_La_read 70 = .ok (.ifCond .le 5, 3) := by decide +kernel
theorem d_La_read_73 : decode b_La_read 73 = .ok (.iconst 0, 1) := by decide +kernel
theorem d_La_read_74 : decode b_La_read 74 = .ok (.ireturn, 1) := by decide +kernel
theorem d_La_read_75 : decode b_La_read 75 = .ok (.iconst 0, 1) := by decide +kernel
theorem d_La_read_76 : decode b_La_read 76 = .ok (.istore 5, 2) := by decide +kernel
theorem d_La_read_78 : decode b_La_read 78 = .ok (.iload 5, 2) := by decide +kernel
theorem d_La_read_80 : decode b_La_read 80 = .ok (.i2l, 1) := by decide +kernel
theorem d_La_read_81 : decode b_La_read 81 = .ok (.lload_n 3, 1) := by decide +kernel
theorem d_La_read_82 : decode b_La_read 82 = .ok (.lcmp, 1) := by decide +kernel
theorem d_La_read_83 : decode b_La_read 83 = .ok (.ifCond .ge 20, 3) := by decide +kernel
theorem d_La_read_86 : decode b_La_read 86 = .ok (.aload_n 0, 1) := by decide +kernel
theorem d_La_read_87 : decode b_La_read 87 = .ok (.iload 5, 2) := by decide +kernel
theorem d_La_read_89 : decode b_La_read 89 = .ok (.invokevirtual 67, 3) := by decide +kernel
theorem d_La_read_92 : decode b_La_read 92 = .ok (.ifCond .ne 5, 3) := by decide +kernel
theorem d_La_read_95 : decode b_La_read 95 = .ok (.iconst 0, 1) := by decide +kernel
theorem d_La_read_96 : decode b_La_read 96 = .ok (.ireturn, 1) := by decide +kernel
theorem d_La_read_97 : decode b_La_read 97 = .ok (.iinc 5 1, 3) := by decide +kernel
theorem d_La_read_100 : decode b_La_read 100 = .ok (.goto (-22), 3) := by decide +kernel
theorem d_La_read_103 : decode b_La_read 103 = .ok (.aload_n 0, 1) := by decide +kernel
theorem d_La_read_104 : decode b_La_read 104 = .ok (.lload_n 3, 1) := by decide +kernel
theorem d_La_read_105 : decode b_La_read 105 = .ok (.l2i, 1) := by decide +kernel
theorem d_La_read_106 : decode b_La_read 106 = .ok (.putfield 50, 3) := by decide +kernel
theorem d_La_read_109 : decode b_La_read 109 = .ok (.aload_n 0, 1) := by decide +kernel
theorem d_La_read_110 : decode b_La_read 110 = .ok (.getfield 47, 3) := by decide +kernel
theorem d_La_read_113 : decode b_La_read 113 = .ok (.aload_n 0, 1) := by decide +kernel
theorem d_La_read_114 : decode b_La_read 114 = .ok (.getfield 43, 3) := by decide +kernel
theorem d_La_read_117 : decode b_La_read 117 = .ok (.if_icmp .ne 7, 3) := by decide +kernel
theorem d_La_read_120 : decode b_La_read 120 = .ok (.iconst 1, 1) := by decide +kernel
theorem d_La_read_121 : decode b_La_read 121 = .ok (.goto 4, 3) := by decide +kernel
theorem d_La_read_124 : decode b_La_read 124 = .ok (.iconst 0, 1) := by decide +kernel
theorem d_La_read_125 : decode b_La_read 125 = .ok (.ireturn, 1) := by decide +kernel
abbrev rm_La_read : Room := { frames := 3, cells := 0, slots := 0, locals := 71 }
abbrev q_La_read (D : va_G) (cy : Nat → ClassId) (A : Nat → Prop) (o : Nat) (v_a_raw : Value) (a_txAt : Nat) (a_firstIn : Nat) (a_firstOut : Nat) (a_inAt : Nat) (a_inScript : Nat) (a_inEnd : Nat) (a_outAt : Nat) (a_outScript : Nat) (a_outEnd : Nat) (b1 : Nat) (n1 : Nat) (h1 : Nat → Int32) (res : Int32 × Int32 × Int32 × Int32 × Int32 × Int32 × (Nat → Int32) × (Nat → Int32) × (Nat → Int32) × (Nat → Int32) × (Nat → Int32) × (Nat → Int32) × (Nat → Int32) × (Nat → Int32) × (Nat → Int32)) : Array Value → State → Outcome → State → Prop := va_Qi (fun r' (_ : Unit) => r' = res.1) (fun _ t => Po D cy A [(o, .inr (4, [.ref b1, .int res.2.1, .ref a_txAt, .ref a_firstIn, .ref a_firstOut, .ref a_inAt, .ref a_inScript, .ref a_inEnd, .ref a_outAt, .ref a_outScript, .ref a_outEnd, .int res.2.2.1, .int res.2.2.2.1, .int res.2.2.2.2.1, .int res.2.2.2.2.2.1])), (a_txAt, .inl (cy 1, 301, .inl res.2.2.2.2.2.2.1)), (a_firstIn, .inl (cy 1, 301, .inl res.2.2.2.2.2.2.2.1)), (a_firstOut, .inl (cy 1, 301, .inl res.2.2.2.2.2.2.2.2.1)), (a_inAt, .inl (cy 1, 73, .inl res.2.2.2.2.2.2.2.2.2.1)), (a_inScript, .inl (cy 1, 73, .inl res.2.2.2.2.2.2.2.2.2.2.1)), (a_inEnd, .inl (cy 1, 73, .inl res.2.2.2.2.2.2.2.2.2.2.2.1)), (a_outAt, .inl (cy 1, 333, .inl res.2.2.2.2.2.2.2.2.2.2.2.2.1)), (a_outScript, .inl (cy 1, 333, .inl res.2.2.2.2.2.2.2.2.2.2.2.2.2.1)), (a_outEnd, .inl (cy 1, 333, .inl res.2.2.2.2.2.2.2.2.2.2.2.2.2.2)), (b1, .inl (cy 0, n1, .inl h1))] t) A
def I_La_read_78 (p : Program) (l : Launch) (e : Env) (s : State) (m : MethodId) (args : Array Value) (below : List Frame) (meth : Method) (c : Code) (D : va_G) (cy : Nat → ClassId) (A : Nat → Prop) (ad : Nat → Nat) (o : Nat) (v_a_raw : Value) (a_txAt : Nat) (a_firstIn : Nat) (a_firstOut : Nat) (a_inAt : Nat) (a_inScript : Nat) (a_inEnd : Nat) (a_outAt : Nat) (a_outScript : Nat) (a_outEnd : Nat) (b1 : Nat) (n1 : Nat) (h1 : Nat → Int32) (k : Int64 → Int32 → Int32 → Int32 → Int32 → Int32 → Int32 → (Nat → Int32) → (Nat → Int32) → (Nat → Int32) → (Nat → Int32) → (Nat → Int32) → (Nat → Int32) → (Nat → Int32) → (Nat → Int32) → (Nat → Int32) → Option (Int32 × Int32 × Int32 × Int32 × Int32 × Int32 × (Nat → Int32) × (Nat → Int32) × (Nat → Int32) × (Nat → Int32) × (Nat → Int32) × (Nat → Int32) × (Nat → Int32) × (Nat → Int32) × (Nat → Int32))) : Prop :=
  ∀ (x3 : Int64) (x5 : Int32) (u0 : Int32) (u1 : Int32) (u2 : Int32) (u3 : Int32) (u4 : Int32) (u5 : Nat → Int32) (u6 : Nat → Int32) (u7 : Nat → Int32) (u8 : Nat → Int32) (u9 : Nat → Int32) (u10 : Nat → Int32) (u11 : Nat → Int32) (u12 : Nat → Int32) (u13 : Nat → Int32) (res : Int32 × Int32 × Int32 × Int32 × Int32 × Int32 × (Nat → Int32) × (Nat → Int32) × (Nat → Int32) × (Nat → Int32) × (Nat → Int32) × (Nat → Int32) × (Nat → Int32) × (Nat → Int32) × (Nat → Int32)), k x3 x5 u0 u1 u2 u3 u4 u5 u6 u7 u8 u9 u10 u11 u12 u13 = some res → ∀ (H : Heap) (locs : List Loc) (ls : Array Slot), va_P D classes [(o, .inr (4, [.ref b1, .int u0, .ref a_txAt, .ref a_firstIn, .ref a_firstOut, .ref a_inAt, .ref a_inScript, .ref a_inEnd, .ref a_outAt, .ref a_outScript, .ref a_outEnd, .int u1, .int u2, .int u3, .int u4])), (a_txAt, .inl (cy 1, 301, .inl u5)), (a_firstIn, .inl (cy 1, 301, .inl u6)), (a_firstOut, .inl (cy 1, 301, .inl u7)), (a_inAt, .inl (cy 1, 73, .inl u8)), (a_inScript, .inl (cy 1, 73, .inl u9)), (a_inEnd, .inl (cy 1, 73, .inl u10)), (a_outAt, .inl (cy 1, 333, .inl u11)), (a_outScript, .inl (cy 1, 333, .inl u12)), (a_outEnd, .inl (cy 1, 333, .inl u13)), (b1, .inl (cy 0, n1, .inl h1))] H → va_D A [(o, .inr (4, [.ref b1, .int u0, .ref a_txAt, .ref a_firstIn, .ref a_firstOut, .ref a_inAt, .ref a_inScript, .ref a_inEnd, .ref a_outAt, .ref a_outScript, .ref a_outEnd, .int u1, .int u2, .int u3, .int u4])), (a_txAt, .inl (cy 1, 301, .inl u5)), (a_firstIn, .inl (cy 1, 301, .inl u6)), (a_firstOut, .inl (cy 1, 301, .inl u7)), (a_inAt, .inl (cy 1, 73, .inl u8)), (a_inScript, .inl (cy 1, 73, .inl u9)), (a_inEnd, .inl (cy 1, 73, .inl u10)), (a_outAt, .inl (cy 1, 333, .inl u11)), (a_outScript, .inl (cy 1, 333, .inl u12)), (a_outEnd, .inl (cy 1, 333, .inl u13)), (b1, .inl (cy 0, n1, .inl h1))] → va_S A s.heap H locs → lv_has ls 6 [(0, .ref o), (3, .long x3), (5, .int x5)] → W p l e rm_La_read s m args below meth c H locs 0 0 (MQ below (q_La_read D cy A o v_a_raw a_txAt a_firstIn a_firstOut a_inAt a_inScript a_inEnd a_outAt a_outScript a_outEnd b1 n1 h1 res) args s 0 0 A) (F0 m 78 ls [])
def I_La_read_47 (p : Program) (l : Launch) (e : Env) (s : State) (m : MethodId) (args : Array Value) (below : List Frame) (meth : Method) (c : Code) (D : va_G) (cy : Nat → ClassId) (A : Nat → Prop) (ad : Nat → Nat) (o : Nat) (v_a_raw : Value) (a_txAt : Nat) (a_firstIn : Nat) (a_firstOut : Nat) (a_inAt : Nat) (a_inScript : Nat) (a_inEnd : Nat) (a_outAt : Nat) (a_outScript : Nat) (a_outEnd : Nat) (b1 : Nat) (n1 : Nat) (h1 : Nat → Int32) (k : Int64 → Int32 → Int32 → Int32 → Int32 → Int32 → (Nat → Int32) → (Nat → Int32) → (Nat → Int32) → (Nat → Int32) → (Nat → Int32) → (Nat → Int32) → (Nat → Int32) → (Nat → Int32) → (Nat → Int32) → Option (Int32 × Int32 × Int32 × Int32 × Int32 × Int32 × (Nat → Int32) × (Nat → Int32) × (Nat → Int32) × (Nat → Int32) × (Nat → Int32) × (Nat → Int32) × (Nat → Int32) × (Nat → Int32) × (Nat → Int32))) : Prop :=
  ∀ (y0 : Int64) (u0 : Int32) (u1 : Int32) (u2 : Int32) (u3 : Int32) (u4 : Int32) (u5 : Nat → Int32) (u6 : Nat → Int32) (u7 : Nat → Int32) (u8 : Nat → Int32) (u9 : Nat → Int32) (u10 : Nat → Int32) (u11 : Nat → Int32) (u12 : Nat → Int32) (u13 : Nat → Int32) (res : Int32 × Int32 × Int32 × Int32 × Int32 × Int32 × (Nat → Int32) × (Nat → Int32) × (Nat → Int32) × (Nat → Int32) × (Nat → Int32) × (Nat → Int32) × (Nat → Int32) × (Nat → Int32) × (Nat → Int32)), k y0 u0 u1 u2 u3 u4 u5 u6 u7 u8 u9 u10 u11 u12 u13 = some res → ∀ (H : Heap) (locs : List Loc) (ls : Array Slot), va_P D classes [(o, .inr (4, [.ref b1, .int u0, .ref a_txAt, .ref a_firstIn, .ref a_firstOut, .ref a_inAt, .ref a_inScript, .ref a_inEnd, .ref a_outAt, .ref a_outScript, .ref a_outEnd, .int u1, .int u2, .int u3, .int u4])), (a_txAt, .inl (cy 1, 301, .inl u5)), (a_firstIn, .inl (cy 1, 301, .inl u6)), (a_firstOut, .inl (cy 1, 301, .inl u7)), (a_inAt, .inl (cy 1, 73, .inl u8)), (a_inScript, .inl (cy 1, 73, .inl u9)), (a_inEnd, .inl (cy 1, 73, .inl u10)), (a_outAt, .inl (cy 1, 333, .inl u11)), (a_outScript, .inl (cy 1, 333, .inl u12)), (a_outEnd, .inl (cy 1, 333, .inl u13)), (b1, .inl (cy 0, n1, .inl h1))] H → va_D A [(o, .inr (4, [.ref b1, .int u0, .ref a_txAt, .ref a_firstIn, .ref a_firstOut, .ref a_inAt, .ref a_inScript, .ref a_inEnd, .ref a_outAt, .ref a_outScript, .ref a_outEnd, .int u1, .int u2, .int u3, .int u4])), (a_txAt, .inl (cy 1, 301, .inl u5)), (a_firstIn, .inl (cy 1, 301, .inl u6)), (a_firstOut, .inl (cy 1, 301, .inl u7)), (a_inAt, .inl (cy 1, 73, .inl u8)), (a_inScript, .inl (cy 1, 73, .inl u9)), (a_inEnd, .inl (cy 1, 73, .inl u10)), (a_outAt, .inl (cy 1, 333, .inl u11)), (a_outScript, .inl (cy 1, 333, .inl u12)), (a_outEnd, .inl (cy 1, 333, .inl u13)), (b1, .inl (cy 0, n1, .inl h1))] → va_S A s.heap H locs → lv_has ls 6 [(0, .ref o)] → W p l e rm_La_read s m args below meth c H locs 0 0 (MQ below (q_La_read D cy A o v_a_raw a_txAt a_firstIn a_firstOut a_inAt a_inScript a_inEnd a_outAt a_outScript a_outEnd b1 n1 h1 res) args s 0 0 A) (F0 m 47 ls [.long y0])
def I_La_read_e (p : Program) (l : Launch) (e : Env) (s : State) (m : MethodId) (args : Array Value) (below : List Frame) (meth : Method) (c : Code) (D : va_G) (cy : Nat → ClassId) (A : Nat → Prop) (ad : Nat → Nat) (o : Nat) (v_a_raw : Value) (a_txAt : Nat) (a_firstIn : Nat) (a_firstOut : Nat) (a_inAt : Nat) (a_inScript : Nat) (a_inEnd : Nat) (a_outAt : Nat) (a_outScript : Nat) (a_outEnd : Nat) (b1 : Nat) (n1 : Nat) (h1 : Nat → Int32) (k : Int32 → Int32 → Int32 → Int32 → Int32 → Int32 → (Nat → Int32) → (Nat → Int32) → (Nat → Int32) → (Nat → Int32) → (Nat → Int32) → (Nat → Int32) → (Nat → Int32) → (Nat → Int32) → (Nat → Int32) → Option (Int32 × Int32 × Int32 × Int32 × Int32 × Int32 × (Nat → Int32) × (Nat → Int32) × (Nat → Int32) × (Nat → Int32) × (Nat → Int32) × (Nat → Int32) × (Nat → Int32) × (Nat → Int32) × (Nat → Int32))) : Prop :=
  ∀ (a2 : Int32) (u0 : Int32) (u1 : Int32) (u2 : Int32) (u3 : Int32) (u4 : Int32) (u5 : Nat → Int32) (u6 : Nat → Int32) (u7 : Nat → Int32) (u8 : Nat → Int32) (u9 : Nat → Int32) (u10 : Nat → Int32) (u11 : Nat → Int32) (u12 : Nat → Int32) (u13 : Nat → Int32) (res : Int32 × Int32 × Int32 × Int32 × Int32 × Int32 × (Nat → Int32) × (Nat → Int32) × (Nat → Int32) × (Nat → Int32) × (Nat → Int32) × (Nat → Int32) × (Nat → Int32) × (Nat → Int32) × (Nat → Int32)), k a2 u0 u1 u2 u3 u4 u5 u6 u7 u8 u9 u10 u11 u12 u13 = some res → ∀ (H : Heap) (locs : List Loc) (ls : Array Slot), va_P D classes [(o, .inr (4, [v_a_raw, .int u0, .ref a_txAt, .ref a_firstIn, .ref a_firstOut, .ref a_inAt, .ref a_inScript, .ref a_inEnd, .ref a_outAt, .ref a_outScript, .ref a_outEnd, .int u1, .int u2, .int u3, .int u4])), (a_txAt, .inl (cy 1, 301, .inl u5)), (a_firstIn, .inl (cy 1, 301, .inl u6)), (a_firstOut, .inl (cy 1, 301, .inl u7)), (a_inAt, .inl (cy 1, 73, .inl u8)), (a_inScript, .inl (cy 1, 73, .inl u9)), (a_inEnd, .inl (cy 1, 73, .inl u10)), (a_outAt, .inl (cy 1, 333, .inl u11)), (a_outScript, .inl (cy 1, 333, .inl u12)), (a_outEnd, .inl (cy 1, 333, .inl u13)), (b1, .inl (cy 0, n1, .inl h1))] H → va_D A [(o, .inr (4, [v_a_raw, .int u0, .ref a_txAt, .ref a_firstIn, .ref a_firstOut, .ref a_inAt, .ref a_inScript, .ref a_inEnd, .ref a_outAt, .ref a_outScript, .ref a_outEnd, .int u1, .int u2, .int u3, .int u4])), (a_txAt, .inl (cy 1, 301, .inl u5)), (a_firstIn, .inl (cy 1, 301, .inl u6)), (a_firstOut, .inl (cy 1, 301, .inl u7)), (a_inAt, .inl (cy 1, 73, .inl u8)), (a_inScript, .inl (cy 1, 73, .inl u9)), (a_inEnd, .inl (cy 1, 73, .inl u10)), (a_outAt, .inl (cy 1, 333, .inl u11)), (a_outScript, .inl (cy 1, 333, .inl u12)), (a_outEnd, .inl (cy 1, 333, .inl u13)), (b1, .inl (cy 0, n1, .inl h1))] → va_S A s.heap H locs → lv_has ls 6 [(0, .ref o), (1, .ref b1), (2, .int a2)] → W p l e rm_La_read s m args below meth c H locs 0 0 (MQ below (q_La_read D cy A o v_a_raw a_txAt a_firstIn a_firstOut a_inAt a_inScript a_inEnd a_outAt a_outScript a_outEnd b1 n1 h1 res) args s 0 0 A) (F0 m 0 ls [])
theorem hdc_27 : ({ cls := "CoinKeeper$Layout", name := "readTx", desc := "(I)Z" } : Jvm.MethodName).cls ≠ "java/lang/invoke/MethodHandle" ∧ ({ cls := "CoinKeeper$Layout", name := "readTx", desc := "(I)Z" } : Jvm.MethodName).cls ≠ "java/lang/invoke/VarHandle" ∧ (parseMethodDescriptor ({ cls := "CoinKeeper$Layout", name := "readTx", desc := "(I)Z" } : Jvm.MethodName).desc).map (fun d => d.parameters.length) = some 1 := by decide +kernel
set_option maxHeartbeats 8000000 in
set_option maxRecDepth 100000 in
theorem wb_La_read_78 {p : Program} {l : Launch} {e : Env} {s : State} {m : MethodId} {args : Array Value} {below : List Frame} {meth : Method} {c : Code} {D : va_G} {cy : Nat → ClassId} {A : Nat → Prop} {ad : Nat → Nat} {o : Nat} {v_a_raw : Value} {a_txAt : Nat} {a_firstIn : Nat} {a_firstOut : Nat} {a_inAt : Nat} {a_inScript : Nat} {a_inEnd : Nat} {a_outAt : Nat} {a_outScript : Nat} {a_outEnd : Nat} {b1 : Nat} {n1 : Nat} {h1 : Nat → Int32} {fu : Nat} {k_78 : Int64 → Int32 → Int32 → Int32 → Int32 → Int32 → Int32 → (Nat → Int32) → (Nat → Int32) → (Nat → Int32) → (Nat → Int32) → (Nat → Int32) → (Nat → Int32) → (Nat → Int32) → (Nat → Int32) → (Nat → Int32) → Option (Int32 × Int32 × Int32 × Int32 × Int32 × Int32 × (Nat → Int32) × (Nat → Int32) × (Nat → Int32) × (Nat → Int32) × (Nat → Int32) × (Nat → Int32) × (Nat → Int32) × (Nat → Int32) × (Nat → Int32))} (F : Fx p s m args meth c b_La_read 6 "CoinKeeper$Layout" "read" (some .boolean) D cy ad A) (hk_78 : I_La_read_78 p l e s m args below meth c D cy A ad o v_a_raw a_txAt a_firstIn a_firstOut a_inAt a_inScript a_inEnd a_outAt a_outScript a_outEnd b1 n1 h1 k_78) : I_La_read_78 p l e s m args below meth c D cy A ad o v_a_raw a_txAt a_firstIn a_firstOut a_inAt a_inScript a_inEnd a_outAt a_outScript a_outEnd b1 n1 h1 (xb_La_read_78 fu n1 h1 k_78) := by
  obtain ⟨hx, hb, hr, hml, hown, hts, hlocks, hK, hA, hSt, hnm, hex⟩ := id F
  intro x3 x5 u0 u1 u2 u3 u4 u5 u6 u7 u8 u9 u10 u11 u12 u13 res hf H locs ls hP hD hS hl
  unfold xb_La_read_78 at hf
  refine lv_iload hx hb d_La_read_78 (lv_at hl 2 rfl) ?_
  refine lv_i2l hx hb d_La_read_80 rfl ?_
  refine lv_topl (fun v1 ev => ?_)
  have hf := bn ev hf
  clear ev
  refine lv_lload_n hx hb d_La_read_81 rfl (lv_at hl 1 rfl) ?_
  refine W.lcmp hx hb d_La_read_82 ?_
  refine lv_if_ge (tgt := 103) hx hb d_La_read_83 (by decide) (fun cx => ?_) (fun cx => ?_)
  · have hf := ifp cx hf
    refine lv_aload_n hx hb d_La_read_103 rfl (lv_at hl 0 rfl) ?_
    refine lv_lload_n hx hb d_La_read_104 rfl (lv_at hl 1 rfl) ?_
    refine lv_l2i hx hb d_La_read_105 rfl ?_
    refine lv_topi (fun v2 ev => ?_)
    have hf := bn ev hf
    clear ev
    refine va_put (D := D) (ci := 4) (v := .int v2) (ty := .int) (C := "CoinKeeper$Layout") (T := F_4) (N := 15) hx hb hts i_4 t_4 t_4_ok n_4 hown hK hP hD hS 0 rfl rfl 1 (by decide) (hts _ gw_272) (fun _ h9 => h9) rfl (by decide +kernel) rfl rfl (Nat.le_of_ble_eq_true rfl) d_La_read_106 (fun H locs hP hD hS => ?_)
    have hP : va_P D classes [(o, .inr (4, [.ref b1, .int v2, .ref a_txAt, .ref a_firstIn, .ref a_firstOut, .ref a_inAt, .ref a_inScript, .ref a_inEnd, .ref a_outAt, .ref a_outScript, .ref a_outEnd, .int u1, .int u2, .int u3, .int u4])), (a_txAt, .inl (cy 1, 301, .inl u5)), (a_firstIn, .inl (cy 1, 301, .inl u6)), (a_firstOut, .inl (cy 1, 301, .inl u7)), (a_inAt, .inl (cy 1, 73, .inl u8)), (a_inScript, .inl (cy 1, 73, .inl u9)), (a_inEnd, .inl (cy 1, 73, .inl u10)), (a_outAt, .inl (cy 1, 333, .inl u11)), (a_outScript, .inl (cy 1, 333, .inl u12)), (a_outEnd, .inl (cy 1, 333, .inl u13)), (b1, .inl (cy 0, n1, .inl h1))] H := hP
    have hD : va_D A [(o, .inr (4, [.ref b1, .int v2, .ref a_txAt, .ref a_firstIn, .ref a_firstOut, .ref a_inAt, .ref a_inScript, .ref a_inEnd, .ref a_outAt, .ref a_outScript, .ref a_outEnd, .int u1, .int u2, .int u3, .int u4])), (a_txAt, .inl (cy 1, 301, .inl u5)), (a_firstIn, .inl (cy 1, 301, .inl u6)), (a_firstOut, .inl (cy 1, 301, .inl u7)), (a_inAt, .inl (cy 1, 73, .inl u8)), (a_inScript, .inl (cy 1, 73, .inl u9)), (a_inEnd, .inl (cy 1, 73, .inl u10)), (a_outAt, .inl (cy 1, 333, .inl u11)), (a_outScript, .inl (cy 1, 333, .inl u12)), (a_outEnd, .inl (cy 1, 333, .inl u13)), (b1, .inl (cy 0, n1, .inl h1))] := hD
    refine lv_aload_n hx hb d_La_read_109 rfl (lv_at hl 0 rfl) ?_
    refine va_get (D := D) (ci := 4) (v := .int u2) (C := "CoinKeeper$Layout") (T := F_4) (N := 15) hx hb hts i_4 hown hK hP 0 rfl rfl 12 (by decide) (hts _ gw_297) (fun _ h9 => h9) rfl d_La_read_110 ?_
    refine lv_aload_n hx hb d_La_read_113 rfl (lv_at hl 0 rfl) ?_
    refine va_get (D := D) (ci := 4) (v := .int u1) (C := "CoinKeeper$Layout") (T := F_4) (N := 15) hx hb hts i_4 hown hK hP 0 rfl rfl 11 (by decide) (hts _ gw_296) (fun _ h9 => h9) rfl d_La_read_114 ?_
    refine lv_icmp_ne (tgt := 124) hx hb d_La_read_117 (by decide) (fun cx => ?_) (fun cx => ?_)
    · have hf := ifn cx hf
      refine lv_iconst (v := 0) hx hb d_La_read_124 (by decide) ?_
      obtain rfl := Option.some.inj hf
      exact q_rz hx hb hr hlocks hK hP hD hS (isb_n (v := 0) (by decide)) d_La_read_125
    · have hf := ifp cx hf
      refine lv_iconst (v := 1) hx hb d_La_read_120 (by decide) ?_
      refine lv_goto (tgt := 125) hx hb d_La_read_121 (by decide) ?_
      obtain rfl := Option.some.inj hf
      exact q_rz hx hb hr hlocks hK hP hD hS (isb_n (v := 1) (by decide)) d_La_read_125
  · have hf := ifn cx hf
    refine lv_aload_n hx hb d_La_read_86 rfl (lv_at hl 0 rfl) ?_
    refine lv_iload hx hb d_La_read_87 (lv_at hl 2 rfl) ?_
    obtain ⟨v3, e4, e5, e6, f7, f8, f9, f10, f11, f12, f13, f14, f15, hc, hf⟩ := bdp13 hf
    refine q_ai (wr := []) (va_runV (C := "CoinKeeper$Layout") (As := [.int x5]) (rest := []) ⟨hx, hb, hml, hown, hts⟩ (c_La_readTx l D cy ad fu o b1 a_txAt a_firstIn a_firstOut a_inAt a_inScript a_inEnd a_outAt a_outScript a_outEnd u0 u1 n1 h1 x5 u2 u3 u4 u5 u6 u7 u8 u9 u10 u11 u12 u13 _ hc H.size) ⟨q_cB hts gw_693 gw_8 gw_690 hdc_27 ⟨by decide, by decide⟩, hts _ gw_692, hts _ gs_7⟩ (q_preV (q_pre (hP.sub [0, 10, 1, 2, 3, 4, 5, 6, 7, 8, 9] rfl) (hD.sub [0, 10, 1, 2, 3, 4, 5, 6, 7, 8, 9] (by decide) rfl) hK hSt hS (va_free hD hS hA [0, 10, 1, 2, 3, 4, 5, 6, 7, 8, 9] rfl) _) (va_recv hK (hP.sub [0, 10, 1, 2, 3, 4, 5, 6, 7, 8, 9] rfl) (ci := 4) (q0 := 0) rfl rfl)) rfl rfl hl.1 rfl (lv_room (Nat.le_of_ble_eq_true rfl)) d_La_read_89 ⟨Nat.le_of_ble_eq_true rfl, Nat.le_of_ble_eq_true rfl⟩) hP hD hS hA [0, 10, 1, 2, 3, 4, 5, 6, 7, 8, 9] [] rfl rfl (by decide) (by decide) (fun H locs hP hD hS => ?_)
    clear hc
    have hP : va_P D classes [(o, .inr (4, [.ref b1, .int u0, .ref a_txAt, .ref a_firstIn, .ref a_firstOut, .ref a_inAt, .ref a_inScript, .ref a_inEnd, .ref a_outAt, .ref a_outScript, .ref a_outEnd, .int u1, .int e4, .int e5, .int e6])), (b1, .inl (cy 0, n1, .inl h1)), (a_txAt, .inl (cy 1, 301, .inl f7)), (a_firstIn, .inl (cy 1, 301, .inl f8)), (a_firstOut, .inl (cy 1, 301, .inl f9)), (a_inAt, .inl (cy 1, 73, .inl f10)), (a_inScript, .inl (cy 1, 73, .inl f11)), (a_inEnd, .inl (cy 1, 73, .inl f12)), (a_outAt, .inl (cy 1, 333, .inl f13)), (a_outScript, .inl (cy 1, 333, .inl f14)), (a_outEnd, .inl (cy 1, 333, .inl f15))] H := hP
    have hD : va_D A [(o, .inr (4, [.ref b1, .int u0, .ref a_txAt, .ref a_firstIn, .ref a_firstOut, .ref a_inAt, .ref a_inScript, .ref a_inEnd, .ref a_outAt, .ref a_outScript, .ref a_outEnd, .int u1, .int e4, .int e5, .int e6])), (b1, .inl (cy 0, n1, .inl h1)), (a_txAt, .inl (cy 1, 301, .inl f7)), (a_firstIn, .inl (cy 1, 301, .inl f8)), (a_firstOut, .inl (cy 1, 301, .inl f9)), (a_inAt, .inl (cy 1, 73, .inl f10)), (a_inScript, .inl (cy 1, 73, .inl f11)), (a_inEnd, .inl (cy 1, 73, .inl f12)), (a_outAt, .inl (cy 1, 333, .inl f13)), (a_outScript, .inl (cy 1, 333, .inl f14)), (a_outEnd, .inl (cy 1, 333, .inl f15))] := hD
    refine lv_if_ne (tgt := 97) hx hb d_La_read_92 (by decide) (fun cx => ?_) (fun cx => ?_)
    · have hf := ifn cx hf
      obtain ⟨v16, ev, hf⟩ := bne hf
      refine lv_iinc (v := v16) (lv' := [(5, .int v16), (0, .ref o), (3, .long x3)]) hx hb d_La_read_97 hl (k := 2) rfl (by rw [ev]; rfl) (by decide) rfl (fun ls hl => ?_)
      clear ev
      refine lv_goto (tgt := 78) hx hb d_La_read_100 (by decide) ?_
      exact hk_78 _ _ _ _ _ _ _ _ _ _ _ _ _ _ _ _ _ hf _ _ _ (hP.sub (ws' := [(o, .inr (4, [.ref b1, .int u0, .ref a_txAt, .ref a_firstIn, .ref a_firstOut, .ref a_inAt, .ref a_inScript, .ref a_inEnd, .ref a_outAt, .ref a_outScript, .ref a_outEnd, .int u1, .int e4, .int e5, .int e6])), (a_txAt, .inl (cy 1, 301, .inl f7)), (a_firstIn, .inl (cy 1, 301, .inl f8)), (a_firstOut, .inl (cy 1, 301, .inl f9)), (a_inAt, .inl (cy 1, 73, .inl f10)), (a_inScript, .inl (cy 1, 73, .inl f11)), (a_inEnd, .inl (cy 1, 73, .inl f12)), (a_outAt, .inl (cy 1, 333, .inl f13)), (a_outScript, .inl (cy 1, 333, .inl f14)), (a_outEnd, .inl (cy 1, 333, .inl f15)), (b1, .inl (cy 0, n1, .inl h1))]) [0, 2, 3, 4, 5, 6, 7, 8, 9, 10, 1] rfl) (hD.sub (ws' := [(o, .inr (4, [.ref b1, .int u0, .ref a_txAt, .ref a_firstIn, .ref a_firstOut, .ref a_inAt, .ref a_inScript, .ref a_inEnd, .ref a_outAt, .ref a_outScript, .ref a_outEnd, .int u1, .int e4, .int e5, .int e6])), (a_txAt, .inl (cy 1, 301, .inl f7)), (a_firstIn, .inl (cy 1, 301, .inl f8)), (a_firstOut, .inl (cy 1, 301, .inl f9)), (a_inAt, .inl (cy 1, 73, .inl f10)), (a_inScript, .inl (cy 1, 73, .inl f11)), (a_inEnd, .inl (cy 1, 73, .inl f12)), (a_outAt, .inl (cy 1, 333, .inl f13)), (a_outScript, .inl (cy 1, 333, .inl f14)), (a_outEnd, .inl (cy 1, 333, .inl f15)), (b1, .inl (cy 0, n1, .inl h1))]) [0, 2, 3, 4, 5, 6, 7, 8, 9, 10, 1] (by decide) rfl) hS (lv_sub hl [1, 2, 0] rfl)
    · have hf := ifp cx hf
      refine lv_iconst (v := 0) hx hb d_La_read_95 (by decide) ?_
      obtain rfl := Option.some.inj hf
      exact q_rz hx hb hr hlocks hK (hP.sub [0, 2, 3, 4, 5, 6, 7, 8, 9, 10, 1] rfl) (hD.sub [0, 2, 3, 4, 5, 6, 7, 8, 9, 10, 1] (by decide) rfl) hS (isb_n (v := 0) (by decide)) d_La_read_96
theorem w_La_read_78 {p : Program} {l : Launch} {e : Env} {s : State} {m : MethodId} {args : Array Value} {below : List Frame} {meth : Method} {c : Code} {D : va_G} {cy : Nat → ClassId} {A : Nat → Prop} {ad : Nat → Nat} {o : Nat} {v_a_raw : Value} {a_txAt : Nat} {a_firstIn : Nat} {a_firstOut : Nat} {a_inAt : Nat} {a_inScript : Nat} {a_inEnd : Nat} {a_outAt : Nat} {a_outScript : Nat} {a_outEnd : Nat} {b1 : Nat} {n1 : Nat} {h1 : Nat → Int32} {fu : Nat} (F : Fx p s m args meth c b_La_read 6 "CoinKeeper$Layout" "read" (some .boolean) D cy ad A) : ∀ n : Nat, I_La_read_78 p l e s m args below meth c D cy A ad o v_a_raw a_txAt a_firstIn a_firstOut a_inAt a_inScript a_inEnd a_outAt a_outScript a_outEnd b1 n1 h1 (x_La_read_78 fu n1 h1 n)
  | 0 => fun _ _ _ _ _ _ _ _ _ _ _ _ _ _ _ _ _ hf => nomatch (show (none : Option (Int32 × Int32 × Int32 × Int32 × Int32 × Int32 × (Nat → Int32) × (Nat → Int32) × (Nat → Int32) × (Nat → Int32) × (Nat → Int32) × (Nat → Int32) × (Nat → Int32) × (Nat → Int32) × (Nat → Int32))) = some _ from hf)
  | n + 1 => wb_La_read_78 F (w_La_read_78 F n)
set_option maxHeartbeats 8000000 in
set_option maxRecDepth 100000 in
theorem wb_La_read_47 {p : Program} {l : Launch} {e : Env} {s : State} {m : MethodId} {args : Array Value} {below : List Frame} {meth : Method} {c : Code} {D : va_G} {cy : Nat → ClassId} {A : Nat → Prop} {ad : Nat → Nat} {o : Nat} {v_a_raw : Value} {a_txAt : Nat} {a_firstIn : Nat} {a_firstOut : Nat} {a_inAt : Nat} {a_inScript : Nat} {a_inEnd : Nat} {a_outAt : Nat} {a_outScript : Nat} {a_outEnd : Nat} {b1 : Nat} {n1 : Nat} {h1 : Nat → Int32} {fu : Nat} (F : Fx p s m args meth c b_La_read 6 "CoinKeeper$Layout" "read" (some .boolean) D cy ad A) : I_La_read_47 p l e s m args below meth c D cy A ad o v_a_raw a_txAt a_firstIn a_firstOut a_inAt a_inScript a_inEnd a_outAt a_outScript a_outEnd b1 n1 h1 (xb_La_read_47 fu n1 h1) := by
  obtain ⟨hx, hb, hr, hml, hown, hts, hlocks, hK, hA, hSt, hnm, hex⟩ := id F
  intro y0 u0 u1 u2 u3 u4 u5 u6 u7 u8 u9 u10 u11 u12 u13 res hf H locs ls hP hD hS hl
  unfold xb_La_read_47 at hf
  refine lv_lstore_n (lv' := [(3, .long y0), (0, .ref o)]) hx hb d_La_read_47 rfl hl (by decide) rfl (fun ls hl => ?_)
  refine lv_lload_n hx hb d_La_read_48 rfl (lv_at hl 0 rfl) ?_
  refine lv_lconst (v := 0) hx hb d_La_read_49 (by decide) ?_
  refine W.lcmp hx hb d_La_read_50 ?_
  refine lv_if_lt (tgt := 73) hx hb d_La_read_51 (by decide) (fun cx => ?_) (fun cx => ?_)
  · have hf := ifp cx hf
    refine lv_iconst (v := 0) hx hb d_La_read_73 (by decide) ?_
    obtain rfl := Option.some.inj hf
    exact q_rz hx hb hr hlocks hK hP hD hS (isb_n (v := 0) (by decide)) d_La_read_74
  · have hf := ifn cx hf
    refine lv_lload_n hx hb d_La_read_54 rfl (lv_at hl 0 rfl) ?_
    refine lv_ldc2 (v := 10) hx hb hown (hts _ gw_689) d_La_read_55 ?_
    refine lv_lmul hx hb d_La_read_58 ?_
    refine lv_topl (fun v1 ev => ?_)
    have hf := bn ev hf
    clear ev
    refine lv_aload_n hx hb d_La_read_59 rfl (lv_at hl 1 rfl) ?_
    refine va_get (D := D) (ci := 4) (v := .int u1) (C := "CoinKeeper$Layout") (T := F_4) (N := 15) hx hb hts i_4 hown hK hP 0 rfl rfl 11 (by decide) (hts _ gw_296) (fun _ h9 => h9) rfl d_La_read_60 ?_
    refine lv_aload_n hx hb d_La_read_63 rfl (lv_at hl 1 rfl) ?_
    refine va_get (D := D) (ci := 4) (v := .int u2) (C := "CoinKeeper$Layout") (T := F_4) (N := 15) hx hb hts i_4 hown hK hP 0 rfl rfl 12 (by decide) (hts _ gw_297) (fun _ h9 => h9) rfl d_La_read_64 ?_
    refine lv_isub hx hb d_La_read_67 ?_
    refine lv_i2l hx hb d_La_read_68 rfl ?_
    refine W.lcmp hx hb d_La_read_69 ?_
    refine lv_if_le (tgt := 75) hx hb d_La_read_70 (by decide) (fun cx => ?_) (fun cx => ?_)
    · have hf := ifp cx hf
      refine lv_iconst (v := 0) hx hb d_La_read_75 (by decide) ?_
      refine lv_istore (lv' := [(5, .int (0 : Int32)), (3, .long y0), (0, .ref o)]) hx hb d_La_read_76 hl (by decide) rfl (fun ls hl => ?_)
      exact w_La_read_78 F fu _ _ _ _ _ _ _ _ _ _ _ _ _ _ _ _ _ hf _ _ _ hP hD hS (lv_sub hl [2, 1, 0] rfl)
    · have hf := ifn cx hf
      refine lv_iconst (v := 0) hx hb d_La_read_73 (by decide) ?_
      obtain rfl := Option.some.inj hf
      exact q_rz hx hb hr hlocks hK hP hD hS (isb_n (v := 0) (by decide)) d_La_read_74
set_option maxHeartbeats 8000000 in
set_option maxRecDepth 100000 in
theorem we_La_read {p : Program} {l : Launch} {e : Env} {s : State} {m : MethodId} {args : Array Value} {below : List Frame} {meth : Method} {c : Code} {D : va_G} {cy : Nat → ClassId} {A : Nat → Prop} {ad : Nat → Nat} {o : Nat} {v_a_raw : Value} {a_txAt : Nat} {a_firstIn : Nat} {a_firstOut : Nat} {a_inAt : Nat} {a_inScript : Nat} {a_inEnd : Nat} {a_outAt : Nat} {a_outScript : Nat} {a_outEnd : Nat} {b1 : Nat} {n1 : Nat} {h1 : Nat → Int32} {fu : Nat} (F : Fx p s m args meth c b_La_read 6 "CoinKeeper$Layout" "read" (some .boolean) D cy ad A) : I_La_read_e p l e s m args below meth c D cy A ad o v_a_raw a_txAt a_firstIn a_firstOut a_inAt a_inScript a_inEnd a_outAt a_outScript a_outEnd b1 n1 h1 (x_La_read fu n1 h1) := by
  obtain ⟨hx, hb, hr, hml, hown, hts, hlocks, hK, hA, hSt, hnm, hex⟩ := id F
  intro a2 u0 u1 u2 u3 u4 u5 u6 u7 u8 u9 u10 u11 u12 u13 res hf H locs ls hP hD hS hl
  unfold x_La_read at hf
  refine lv_aload_n hx hb d_La_read_0 rfl (lv_at hl 0 rfl) ?_
  refine lv_aload_n hx hb d_La_read_1 rfl (lv_at hl 1 rfl) ?_
  refine va_put (D := D) (ci := 4) (v := .ref b1) (ty := .array .byte) (C := "CoinKeeper$Layout") (T := F_4) (N := 15) hx hb hts i_4 t_4 t_4_ok n_4 hown hK hP hD hS 0 rfl rfl 0 (by decide) (hts _ gw_269) (fun _ h9 => h9) rfl (by decide +kernel) rfl rfl (Nat.le_of_ble_eq_true rfl) d_La_read_2 (fun H locs hP hD hS => ?_)
  have hP : va_P D classes [(o, .inr (4, [.ref b1, .int u0, .ref a_txAt, .ref a_firstIn, .ref a_firstOut, .ref a_inAt, .ref a_inScript, .ref a_inEnd, .ref a_outAt, .ref a_outScript, .ref a_outEnd, .int u1, .int u2, .int u3, .int u4])), (a_txAt, .inl (cy 1, 301, .inl u5)), (a_firstIn, .inl (cy 1, 301, .inl u6)), (a_firstOut, .inl (cy 1, 301, .inl u7)), (a_inAt, .inl (cy 1, 73, .inl u8)), (a_inScript, .inl (cy 1, 73, .inl u9)), (a_inEnd, .inl (cy 1, 73, .inl u10)), (a_outAt, .inl (cy 1, 333, .inl u11)), (a_outScript, .inl (cy 1, 333, .inl u12)), (a_outEnd, .inl (cy 1, 333, .inl u13)), (b1, .inl (cy 0, n1, .inl h1))] H := hP
  have hD : va_D A [(o, .inr (4, [.ref b1, .int u0, .ref a_txAt, .ref a_firstIn, .ref a_firstOut, .ref a_inAt, .ref a_inScript, .ref a_inEnd, .ref a_outAt, .ref a_outScript, .ref a_outEnd, .int u1, .int u2, .int u3, .int u4])), (a_txAt, .inl (cy 1, 301, .inl u5)), (a_firstIn, .inl (cy 1, 301, .inl u6)), (a_firstOut, .inl (cy 1, 301, .inl u7)), (a_inAt, .inl (cy 1, 73, .inl u8)), (a_inScript, .inl (cy 1, 73, .inl u9)), (a_inEnd, .inl (cy 1, 73, .inl u10)), (a_outAt, .inl (cy 1, 333, .inl u11)), (a_outScript, .inl (cy 1, 333, .inl u12)), (a_outEnd, .inl (cy 1, 333, .inl u13)), (b1, .inl (cy 0, n1, .inl h1))] := hD
  refine lv_aload_n hx hb d_La_read_5 rfl (lv_at hl 0 rfl) ?_
  refine lv_iload_n hx hb d_La_read_6 rfl (lv_at hl 2 rfl) ?_
  refine va_put (D := D) (ci := 4) (v := .int a2) (ty := .int) (C := "CoinKeeper$Layout") (T := F_4) (N := 15) hx hb hts i_4 t_4 t_4_ok n_4 hown hK hP hD hS 0 rfl rfl 11 (by decide) (hts _ gw_296) (fun _ h9 => h9) rfl (by decide +kernel) rfl rfl (Nat.le_of_ble_eq_true rfl) d_La_read_7 (fun H locs hP hD hS => ?_)
  have hP : va_P D classes [(o, .inr (4, [.ref b1, .int u0, .ref a_txAt, .ref a_firstIn, .ref a_firstOut, .ref a_inAt, .ref a_inScript, .ref a_inEnd, .ref a_outAt, .ref a_outScript, .ref a_outEnd, .int a2, .int u2, .int u3, .int u4])), (a_txAt, .inl (cy 1, 301, .inl u5)), (a_firstIn, .inl (cy 1, 301, .inl u6)), (a_firstOut, .inl (cy 1, 301, .inl u7)), (a_inAt, .inl (cy 1, 73, .inl u8)), (a_inScript, .inl (cy 1, 73, .inl u9)), (a_inEnd, .inl (cy 1, 73, .inl u10)), (a_outAt, .inl (cy 1, 333, .inl u11)), (a_outScript, .inl (cy 1, 333, .inl u12)), (a_outEnd, .inl (cy 1, 333, .inl u13)), (b1, .inl (cy 0, n1, .inl h1))] H := hP
  have hD : va_D A [(o, .inr (4, [.ref b1, .int u0, .ref a_txAt, .ref a_firstIn, .ref a_firstOut, .ref a_inAt, .ref a_inScript, .ref a_inEnd, .ref a_outAt, .ref a_outScript, .ref a_outEnd, .int a2, .int u2, .int u3, .int u4])), (a_txAt, .inl (cy 1, 301, .inl u5)), (a_firstIn, .inl (cy 1, 301, .inl u6)), (a_firstOut, .inl (cy 1, 301, .inl u7)), (a_inAt, .inl (cy 1, 73, .inl u8)), (a_inScript, .inl (cy 1, 73, .inl u9)), (a_inEnd, .inl (cy 1, 73, .inl u10)), (a_outAt, .inl (cy 1, 333, .inl u11)), (a_outScript, .inl (cy 1, 333, .inl u12)), (a_outEnd, .inl (cy 1, 333, .inl u13)), (b1, .inl (cy 0, n1, .inl h1))] := hD
  refine lv_aload_n hx hb d_La_read_10 rfl (lv_at hl 0 rfl) ?_
  refine lv_bipush (v := 80) hx hb d_La_read_11 (by decide) ?_
  refine va_put (D := D) (ci := 4) (v := .int (80 : Int32)) (ty := .int) (C := "CoinKeeper$Layout") (T := F_4) (N := 15) hx hb hts i_4 t_4 t_4_ok n_4 hown hK hP hD hS 0 rfl rfl 12 (by decide) (hts _ gw_297) (fun _ h9 => h9) rfl (by decide +kernel) rfl rfl (Nat.le_of_ble_eq_true rfl) d_La_read_13 (fun H locs hP hD hS => ?_)
  have hP : va_P D classes [(o, .inr (4, [.ref b1, .int u0, .ref a_txAt, .ref a_firstIn, .ref a_firstOut, .ref a_inAt, .ref a_inScript, .ref a_inEnd, .ref a_outAt, .ref a_outScript, .ref a_outEnd, .int a2, .int (80 : Int32), .int u3, .int u4])), (a_txAt, .inl (cy 1, 301, .inl u5)), (a_firstIn, .inl (cy 1, 301, .inl u6)), (a_firstOut, .inl (cy 1, 301, .inl u7)), (a_inAt, .inl (cy 1, 73, .inl u8)), (a_inScript, .inl (cy 1, 73, .inl u9)), (a_inEnd, .inl (cy 1, 73, .inl u10)), (a_outAt, .inl (cy 1, 333, .inl u11)), (a_outScript, .inl (cy 1, 333, .inl u12)), (a_outEnd, .inl (cy 1, 333, .inl u13)), (b1, .inl (cy 0, n1, .inl h1))] H := hP
  have hD : va_D A [(o, .inr (4, [.ref b1, .int u0, .ref a_txAt, .ref a_firstIn, .ref a_firstOut, .ref a_inAt, .ref a_inScript, .ref a_inEnd, .ref a_outAt, .ref a_outScript, .ref a_outEnd, .int a2, .int (80 : Int32), .int u3, .int u4])), (a_txAt, .inl (cy 1, 301, .inl u5)), (a_firstIn, .inl (cy 1, 301, .inl u6)), (a_firstOut, .inl (cy 1, 301, .inl u7)), (a_inAt, .inl (cy 1, 73, .inl u8)), (a_inScript, .inl (cy 1, 73, .inl u9)), (a_inEnd, .inl (cy 1, 73, .inl u10)), (a_outAt, .inl (cy 1, 333, .inl u11)), (a_outScript, .inl (cy 1, 333, .inl u12)), (a_outEnd, .inl (cy 1, 333, .inl u13)), (b1, .inl (cy 0, n1, .inl h1))] := hD
  refine lv_aload_n hx hb d_La_read_16 rfl (lv_at hl 0 rfl) ?_
  refine lv_iconst (v := 0) hx hb d_La_read_17 (by decide) ?_
  refine va_put (D := D) (ci := 4) (v := .int (0 : Int32)) (ty := .int) (C := "CoinKeeper$Layout") (T := F_4) (N := 15) hx hb hts i_4 t_4 t_4_ok n_4 hown hK hP hD hS 0 rfl rfl 1 (by decide) (hts _ gw_272) (fun _ h9 => h9) rfl (by decide +kernel) rfl rfl (Nat.le_of_ble_eq_true rfl) d_La_read_18 (fun H locs hP hD hS => ?_)
  have hP : va_P D classes [(o, .inr (4, [.ref b1, .int (0 : Int32), .ref a_txAt, .ref a_firstIn, .ref a_firstOut, .ref a_inAt, .ref a_inScript, .ref a_inEnd, .ref a_outAt, .ref a_outScript, .ref a_outEnd, .int a2, .int (80 : Int32), .int u3, .int u4])), (a_txAt, .inl (cy 1, 301, .inl u5)), (a_firstIn, .inl (cy 1, 301, .inl u6)), (a_firstOut, .inl (cy 1, 301, .inl u7)), (a_inAt, .inl (cy 1, 73, .inl u8)), (a_inScript, .inl (cy 1, 73, .inl u9)), (a_inEnd, .inl (cy 1, 73, .inl u10)), (a_outAt, .inl (cy 1, 333, .inl u11)), (a_outScript, .inl (cy 1, 333, .inl u12)), (a_outEnd, .inl (cy 1, 333, .inl u13)), (b1, .inl (cy 0, n1, .inl h1))] H := hP
  have hD : va_D A [(o, .inr (4, [.ref b1, .int (0 : Int32), .ref a_txAt, .ref a_firstIn, .ref a_firstOut, .ref a_inAt, .ref a_inScript, .ref a_inEnd, .ref a_outAt, .ref a_outScript, .ref a_outEnd, .int a2, .int (80 : Int32), .int u3, .int u4])), (a_txAt, .inl (cy 1, 301, .inl u5)), (a_firstIn, .inl (cy 1, 301, .inl u6)), (a_firstOut, .inl (cy 1, 301, .inl u7)), (a_inAt, .inl (cy 1, 73, .inl u8)), (a_inScript, .inl (cy 1, 73, .inl u9)), (a_inEnd, .inl (cy 1, 73, .inl u10)), (a_outAt, .inl (cy 1, 333, .inl u11)), (a_outScript, .inl (cy 1, 333, .inl u12)), (a_outEnd, .inl (cy 1, 333, .inl u13)), (b1, .inl (cy 0, n1, .inl h1))] := hD
  refine lv_aload_n hx hb d_La_read_21 rfl (lv_at hl 0 rfl) ?_
  refine lv_iconst (v := 0) hx hb d_La_read_22 (by decide) ?_
  refine va_put (D := D) (ci := 4) (v := .int (0 : Int32)) (ty := .int) (C := "CoinKeeper$Layout") (T := F_4) (N := 15) hx hb hts i_4 t_4 t_4_ok n_4 hown hK hP hD hS 0 rfl rfl 13 (by decide) (hts _ gw_298) (fun _ h9 => h9) rfl (by decide +kernel) rfl rfl (Nat.le_of_ble_eq_true rfl) d_La_read_23 (fun H locs hP hD hS => ?_)
  have hP : va_P D classes [(o, .inr (4, [.ref b1, .int (0 : Int32), .ref a_txAt, .ref a_firstIn, .ref a_firstOut, .ref a_inAt, .ref a_inScript, .ref a_inEnd, .ref a_outAt, .ref a_outScript, .ref a_outEnd, .int a2, .int (80 : Int32), .int (0 : Int32), .int u4])), (a_txAt, .inl (cy 1, 301, .inl u5)), (a_firstIn, .inl (cy 1, 301, .inl u6)), (a_firstOut, .inl (cy 1, 301, .inl u7)), (a_inAt, .inl (cy 1, 73, .inl u8)), (a_inScript, .inl (cy 1, 73, .inl u9)), (a_inEnd, .inl (cy 1, 73, .inl u10)), (a_outAt, .inl (cy 1, 333, .inl u11)), (a_outScript, .inl (cy 1, 333, .inl u12)), (a_outEnd, .inl (cy 1, 333, .inl u13)), (b1, .inl (cy 0, n1, .inl h1))] H := hP
  have hD : va_D A [(o, .inr (4, [.ref b1, .int (0 : Int32), .ref a_txAt, .ref a_firstIn, .ref a_firstOut, .ref a_inAt, .ref a_inScript, .ref a_inEnd, .ref a_outAt, .ref a_outScript, .ref a_outEnd, .int a2, .int (80 : Int32), .int (0 : Int32), .int u4])), (a_txAt, .inl (cy 1, 301, .inl u5)), (a_firstIn, .inl (cy 1, 301, .inl u6)), (a_firstOut, .inl (cy 1, 301, .inl u7)), (a_inAt, .inl (cy 1, 73, .inl u8)), (a_inScript, .inl (cy 1, 73, .inl u9)), (a_inEnd, .inl (cy 1, 73, .inl u10)), (a_outAt, .inl (cy 1, 333, .inl u11)), (a_outScript, .inl (cy 1, 333, .inl u12)), (a_outEnd, .inl (cy 1, 333, .inl u13)), (b1, .inl (cy 0, n1, .inl h1))] := hD
  refine lv_aload_n hx hb d_La_read_26 rfl (lv_at hl 0 rfl) ?_
  refine lv_iconst (v := 0) hx hb d_La_read_27 (by decide) ?_
  refine va_put (D := D) (ci := 4) (v := .int (0 : Int32)) (ty := .int) (C := "CoinKeeper$Layout") (T := F_4) (N := 15) hx hb hts i_4 t_4 t_4_ok n_4 hown hK hP hD hS 0 rfl rfl 14 (by decide) (hts _ gw_299) (fun _ h9 => h9) rfl (by decide +kernel) rfl rfl (Nat.le_of_ble_eq_true rfl) d_La_read_28 (fun H locs hP hD hS => ?_)
  have hP : va_P D classes [(o, .inr (4, [.ref b1, .int (0 : Int32), .ref a_txAt, .ref a_firstIn, .ref a_firstOut, .ref a_inAt, .ref a_inScript, .ref a_inEnd, .ref a_outAt, .ref a_outScript, .ref a_outEnd, .int a2, .int (80 : Int32), .int (0 : Int32), .int (0 : Int32)])), (a_txAt, .inl (cy 1, 301, .inl u5)), (a_firstIn, .inl (cy 1, 301, .inl u6)), (a_firstOut, .inl (cy 1, 301, .inl u7)), (a_inAt, .inl (cy 1, 73, .inl u8)), (a_inScript, .inl (cy 1, 73, .inl u9)), (a_inEnd, .inl (cy 1, 73, .inl u10)), (a_outAt, .inl (cy 1, 333, .inl u11)), (a_outScript, .inl (cy 1, 333, .inl u12)), (a_outEnd, .inl (cy 1, 333, .inl u13)), (b1, .inl (cy 0, n1, .inl h1))] H := hP
  have hD : va_D A [(o, .inr (4, [.ref b1, .int (0 : Int32), .ref a_txAt, .ref a_firstIn, .ref a_firstOut, .ref a_inAt, .ref a_inScript, .ref a_inEnd, .ref a_outAt, .ref a_outScript, .ref a_outEnd, .int a2, .int (80 : Int32), .int (0 : Int32), .int (0 : Int32)])), (a_txAt, .inl (cy 1, 301, .inl u5)), (a_firstIn, .inl (cy 1, 301, .inl u6)), (a_firstOut, .inl (cy 1, 301, .inl u7)), (a_inAt, .inl (cy 1, 73, .inl u8)), (a_inScript, .inl (cy 1, 73, .inl u9)), (a_inEnd, .inl (cy 1, 73, .inl u10)), (a_outAt, .inl (cy 1, 333, .inl u11)), (a_outScript, .inl (cy 1, 333, .inl u12)), (a_outEnd, .inl (cy 1, 333, .inl u13)), (b1, .inl (cy 0, n1, .inl h1))] := hD
  refine lv_iload_n hx hb d_La_read_31 rfl (lv_at hl 2 rfl) ?_
  refine lv_bipush (v := 80) hx hb d_La_read_32 (by decide) ?_
  refine lv_icmp_ge (tgt := 43) hx hb d_La_read_34 (by decide) (fun cx => ?_) (fun cx => ?_)
  · have hf := ifp cx hf
    refine lv_aload_n hx hb d_La_read_43 rfl (lv_at hl 0 rfl) ?_
    obtain ⟨v1, e2, hc, hf⟩ := bdp2 hf
    refine q_al (wr := [(a_txAt, .inl (cy 1, 301, .inl u5)), (a_firstIn, .inl (cy 1, 301, .inl u6)), (a_firstOut, .inl (cy 1, 301, .inl u7)), (a_inAt, .inl (cy 1, 73, .inl u8)), (a_inScript, .inl (cy 1, 73, .inl u9)), (a_inEnd, .inl (cy 1, 73, .inl u10)), (a_outAt, .inl (cy 1, 333, .inl u11)), (a_outScript, .inl (cy 1, 333, .inl u12)), (a_outEnd, .inl (cy 1, 333, .inl u13))]) (va_runV (C := "CoinKeeper$Layout") (As := []) (rest := []) ⟨hx, hb, hml, hown, hts⟩ (c_La_readCount l D cy ad fu o (.ref a_txAt) (.ref a_firstIn) (.ref a_firstOut) (.ref a_inAt) (.ref a_inScript) (.ref a_inEnd) (.ref a_outAt) (.ref a_outScript) (.ref a_outEnd) b1 (0 : Int32) a2 (0 : Int32) (0 : Int32) n1 h1 (80 : Int32) _ hc H.size) ⟨q_cB hts gw_687 gw_8 gw_684 hdc_24 ⟨by decide, by decide⟩, hts _ gw_686, hts _ gs_6⟩ (q_preV (q_pre (hP.sub [0, 10] rfl) (hD.sub [0, 10] (by decide) rfl) hK hSt hS (va_free hD hS hA [0, 10] rfl) _) (va_recv hK (hP.sub [0, 10] rfl) (ci := 4) (q0 := 0) rfl rfl)) rfl rfl hl.1 rfl (lv_room (Nat.le_of_ble_eq_true rfl)) d_La_read_44 ⟨Nat.le_of_ble_eq_true rfl, Nat.le_of_ble_eq_true rfl⟩) hP hD hS hA [0, 10] [1, 2, 3, 4, 5, 6, 7, 8, 9] rfl rfl (by decide) (by decide) (fun H locs hP hD hS => ?_)
    clear hc
    have hP : va_P D classes [(a_txAt, .inl (cy 1, 301, .inl u5)), (a_firstIn, .inl (cy 1, 301, .inl u6)), (a_firstOut, .inl (cy 1, 301, .inl u7)), (a_inAt, .inl (cy 1, 73, .inl u8)), (a_inScript, .inl (cy 1, 73, .inl u9)), (a_inEnd, .inl (cy 1, 73, .inl u10)), (a_outAt, .inl (cy 1, 333, .inl u11)), (a_outScript, .inl (cy 1, 333, .inl u12)), (a_outEnd, .inl (cy 1, 333, .inl u13)), (o, .inr (4, [.ref b1, .int (0 : Int32), .ref a_txAt, .ref a_firstIn, .ref a_firstOut, .ref a_inAt, .ref a_inScript, .ref a_inEnd, .ref a_outAt, .ref a_outScript, .ref a_outEnd, .int a2, .int e2, .int (0 : Int32), .int (0 : Int32)])), (b1, .inl (cy 0, n1, .inl h1))] H := hP
    have hD : va_D A [(a_txAt, .inl (cy 1, 301, .inl u5)), (a_firstIn, .inl (cy 1, 301, .inl u6)), (a_firstOut, .inl (cy 1, 301, .inl u7)), (a_inAt, .inl (cy 1, 73, .inl u8)), (a_inScript, .inl (cy 1, 73, .inl u9)), (a_inEnd, .inl (cy 1, 73, .inl u10)), (a_outAt, .inl (cy 1, 333, .inl u11)), (a_outScript, .inl (cy 1, 333, .inl u12)), (a_outEnd, .inl (cy 1, 333, .inl u13)), (o, .inr (4, [.ref b1, .int (0 : Int32), .ref a_txAt, .ref a_firstIn, .ref a_firstOut, .ref a_inAt, .ref a_inScript, .ref a_inEnd, .ref a_outAt, .ref a_outScript, .ref a_outEnd, .int a2, .int e2, .int (0 : Int32), .int (0 : Int32)])), (b1, .inl (cy 0, n1, .inl h1))] := hD
    exact wb_La_read_47 (fu := fu) F _ _ _ _ _ _ _ _ _ _ _ _ _ _ _ _ hf _ _ _ (hP.sub (ws' := [(o, .inr (4, [.ref b1, .int (0 : Int32), .ref a_txAt, .ref a_firstIn, .ref a_firstOut, .ref a_inAt, .ref a_inScript, .ref a_inEnd, .ref a_outAt, .ref a_outScript, .ref a_outEnd, .int a2, .int e2, .int (0 : Int32), .int (0 : Int32)])), (a_txAt, .inl (cy 1, 301, .inl u5)), (a_firstIn, .inl (cy 1, 301, .inl u6)), (a_firstOut, .inl (cy 1, 301, .inl u7)), (a_inAt, .inl (cy 1, 73, .inl u8)), (a_inScript, .inl (cy 1, 73, .inl u9)), (a_inEnd, .inl (cy 1, 73, .inl u10)), (a_outAt, .inl (cy 1, 333, .inl u11)), (a_outScript, .inl (cy 1, 333, .inl u12)), (a_outEnd, .inl (cy 1, 333, .inl u13)), (b1, .inl (cy 0, n1, .inl h1))]) [9, 0, 1, 2, 3, 4, 5, 6, 7, 8, 10] rfl) (hD.sub (ws' := [(o, .inr (4, [.ref b1, .int (0 : Int32), .ref a_txAt, .ref a_firstIn, .ref a_firstOut, .ref a_inAt, .ref a_inScript, .ref a_inEnd, .ref a_outAt, .ref a_outScript, .ref a_outEnd, .int a2, .int e2, .int (0 : Int32), .int (0 : Int32)])), (a_txAt, .inl (cy 1, 301, .inl u5)), (a_firstIn, .inl (cy 1, 301, .inl u6)), (a_firstOut, .inl (cy 1, 301, .inl u7)), (a_inAt, .inl (cy 1, 73, .inl u8)), (a_inScript, .inl (cy 1, 73, .inl u9)), (a_inEnd, .inl (cy 1, 73, .inl u10)), (a_outAt, .inl (cy 1, 333, .inl u11)), (a_outScript, .inl (cy 1, 333, .inl u12)), (a_outEnd, .inl (cy 1, 333, .inl u13)), (b1, .inl (cy 0, n1, .inl h1))]) [9, 0, 1, 2, 3, 4, 5, 6, 7, 8, 10] (by decide) rfl) hS (lv_sub hl [0] rfl)
  · have hf := ifn cx hf
    refine lv_ldc2 (v := (-1)) hx hb hown (hts _ gw_683) d_La_read_37 ?_
    refine lv_goto (tgt := 47) hx hb d_La_read_40 (by decide) ?_
    exact wb_La_read_47 (fu := fu) F _ _ _ _ _ _ _ _ _ _ _ _ _ _ _ _ hf _ _ _ hP hD hS (lv_sub hl [0] rfl)
theorem c_La_read (l : Launch) (D : va_G) (cy : Nat → ClassId) (ad : Nat → Nat) (fu : Nat) (o : Nat) (v_a_raw : Value) (a_txAt : Nat) (a_firstIn : Nat) (a_firstOut : Nat) (a_inAt : Nat) (a_inScript : Nat) (a_inEnd : Nat) (a_outAt : Nat) (a_outScript : Nat) (a_outEnd : Nat) (b1 : Nat) (n1 : Nat) (h1 : Nat → Int32) (a2 : Int32) (u0 : Int32) (u1 : Int32) (u2 : Int32) (u3 : Int32) (u4 : Int32) (u5 : Nat → Int32) (u6 : Nat → Int32) (u7 : Nat → Int32) (u8 : Nat → Int32) (u9 : Nat → Int32) (u10 : Nat → Int32) (u11 : Nat → Int32) (u12 : Nat → Int32) (u13 : Nat → Int32) (res : Int32 × Int32 × Int32 × Int32 × Int32 × Int32 × (Nat → Int32) × (Nat → Int32) × (Nat → Int32) × (Nat → Int32) × (Nat → Int32) × (Nat → Int32) × (Nat → Int32) × (Nat → Int32) × (Nat → Int32)) (hf : x_La_read fu n1 h1 a2 u0 u1 u2 u3 u4 u5 u6 u7 u8 u9 u10 u11 u12 u13 = some res) (sz : Nat) : Met l ({ cls := "CoinKeeper$Layout", name := "read", desc := "([BI)Z" } : Jvm.MethodName) (.code ({ cls := "CoinKeeper$Layout", name := "read", desc := "([BI)Z" } : Jvm.MethodName) b_La_read 6 (some .boolean) :: gw) rm_La_read (va_Pc [.ref o, .ref b1, .int a2] (Pr D cy ad [(o, .inr (4, [v_a_raw, .int u0, .ref a_txAt, .ref a_firstIn, .ref a_firstOut, .ref a_inAt, .ref a_inScript, .ref a_inEnd, .ref a_outAt, .ref a_outScript, .ref a_outEnd, .int u1, .int u2, .int u3, .int u4])), (a_txAt, .inl (cy 1, 301, .inl u5)), (a_firstIn, .inl (cy 1, 301, .inl u6)), (a_firstOut, .inl (cy 1, 301, .inl u7)), (a_inAt, .inl (cy 1, 73, .inl u8)), (a_inScript, .inl (cy 1, 73, .inl u9)), (a_inEnd, .inl (cy 1, 73, .inl u10)), (a_outAt, .inl (cy 1, 333, .inl u11)), (a_outScript, .inl (cy 1, 333, .inl u12)), (a_outEnd, .inl (cy 1, 333, .inl u13)), (b1, .inl (cy 0, n1, .inl h1))] sz)) (q_La_read D cy (va_A [(o, .inr (4, [v_a_raw, .int u0, .ref a_txAt, .ref a_firstIn, .ref a_firstOut, .ref a_inAt, .ref a_inScript, .ref a_inEnd, .ref a_outAt, .ref a_outScript, .ref a_outEnd, .int u1, .int u2, .int u3, .int u4])), (a_txAt, .inl (cy 1, 301, .inl u5)), (a_firstIn, .inl (cy 1, 301, .inl u6)), (a_firstOut, .inl (cy 1, 301, .inl u7)), (a_inAt, .inl (cy 1, 73, .inl u8)), (a_inScript, .inl (cy 1, 73, .inl u9)), (a_inEnd, .inl (cy 1, 73, .inl u10)), (a_outAt, .inl (cy 1, 333, .inl u11)), (a_outScript, .inl (cy 1, 333, .inl u12)), (a_outEnd, .inl (cy 1, 333, .inl u13)), (b1, .inl (cy 0, n1, .inl h1))] sz) o v_a_raw a_txAt a_firstIn a_firstOut a_inAt a_inScript a_inEnd a_outAt a_outScript a_outEnd b1 n1 h1 res) 0 0 (va_A [(o, .inr (4, [v_a_raw, .int u0, .ref a_txAt, .ref a_firstIn, .ref a_firstOut, .ref a_inAt, .ref a_inScript, .ref a_inEnd, .ref a_outAt, .ref a_outScript, .ref a_outEnd, .int u1, .int u2, .int u3, .int u4])), (a_txAt, .inl (cy 1, 301, .inl u5)), (a_firstIn, .inl (cy 1, 301, .inl u6)), (a_firstOut, .inl (cy 1, 301, .inl u7)), (a_inAt, .inl (cy 1, 73, .inl u8)), (a_inScript, .inl (cy 1, 73, .inl u9)), (a_inEnd, .inl (cy 1, 73, .inl u10)), (a_outAt, .inl (cy 1, 333, .inl u11)), (a_outScript, .inl (cy 1, 333, .inl u12)), (a_outEnd, .inl (cy 1, 333, .inl u13)), (b1, .inl (cy 0, n1, .inl h1))] sz) :=
  q_met (Qc := fun A => q_La_read D cy A o v_a_raw a_txAt a_firstIn a_firstOut a_inAt a_inScript a_inEnd a_outAt a_outScript a_outEnd b1 n1 h1 res) (by decide) rfl rfl (Nat.le_of_ble_eq_true rfl) (fun p e s m below meth c ls F hP hD hS hl => we_La_read (fu := fu) F a2 u0 u1 u2 u3 u4 u5 u6 u7 u8 u9 u10 u11 u12 u13 res hf _ _ _ hP hD hS hl) sz
abbrev b_La_beginsWith : ByteArray := prog_5_method_13_code
theorem d_La_beginsWith_0 : decode b_La_beginsWith 0 = .ok (.aload_n 0, 1) := by decide +kernel
theorem d_La_beginsWith_1 : decode b_La_beginsWith 1 = .ok (.getfield 24, 3) := by decide +kernel
theorem d_La_beginsWith_4 : decode b_La_beginsWith 4 = .ok (.iconst 0, 1) := by decide +kernel
theorem d_La_beginsWith_5 : decode b_La_beginsWith 5 = .ok (.iaload, 1) := by decide +kernel
theorem d_La_beginsWith_6 : decode b_La_beginsWith 6 = .ok (.istore_n 2, 1) := by decide +kernel
theorem d_La_beginsWith_7 : decode b_La_beginsWith 7 = .ok (.aload_n 0, 1) := by decide +kernel
theorem d_La_beginsWith_8 : decode b_La_beginsWith 8 = .ok (.getfield 27, 3) := by decide +kernel
theorem d_La_beginsWith_11 : decode b_La_beginsWith 11 = .ok (.iconst 0, 1) := by decide +kernel
theorem d_La_beginsWith_12 : decode b_La_beginsWith 12 = .ok (.iaload, 1) := by decide +kernel
theorem d_La_beginsWith_13 : decode b_La_beginsWith 13 = .ok (.iload_n 2, 1) := by decide +kernel
theorem d_La_beginsWith_14 : decode b_La_beginsWith 14 = .ok (.isub, 1) := by decide +kernel
theorem d_La_beginsWith_15 : decode b_La_beginsWith 15 = .ok (.istore_n 3, 1) := by decide +kernel
theorem d_La_beginsWith_16 : decode b_La_beginsWith 16 = .ok (.iload_n 3, 1) := by decide +kernel
theorem d_La_beginsWith_17 : decode b_La_beginsWith 17 = .ok (.iconst 2, 1) := by decide +kernel
theorem d_La_beginsWith_18 : decode b_La_beginsWith 18 = .ok (.if_icmp .lt 9, 3) := by decide +kernel
theorem d_La_beginsWith_21 : decode b_La_beginsWith 21 = .ok (.iload_n 3, 1) := by decide +kernel
theorem d_La_beginsWith_22 : decode b_La_beginsWith 22 = .ok (.bipush 100, 2) := by decide +kernel
theorem d_La_beginsWith_24 : decode b_La_beginsWith 24 = .ok (.if_icmp .le 5, 3) := by decide +kernel
theorem d_La_beginsWith_27 : decode b_La_beginsWith 27 = .ok (.iconst 0, 1) := by decide +kernel
theorem d_La_beginsWith_28 : decode b_La_beginsWith 28 = .ok (.ireturn, 1) := by decide +kernel
theorem d_La_beginsWith_29 : decode b_La_beginsWith 29 = .ok (.iload_n 1, 1) := by decide +kernel
theorem d_La_beginsWith_30 : decode b_La_beginsWith 30 = .ok (.bipush 16, 2) := by decide +kernel
theorem d_La_beginsWith_32 : decode b_La_beginsWith 32 = .ok (.if_icmp .gt 26, 3) := by decide +kernel
theorem d_La_beginsWith_35 : decode b_La_beginsWith 35 = .ok (.aload_n 0, 1) := by decide +kernel
theorem d_La_beginsWith_36 : decode b_La_beginsWith 36 = .ok (.getfield 39, 3) := by decide +kernel
theorem d_La_beginsWith_39 : decode b_La_beginsWith 39 = .ok (.iload_n 2, 1) := by decide +kernel
theorem d_La_beginsWith_40 : decode b_La_beginsWith 40 = .ok (.baload, 1) := by decide +kernel
theorem d_La_beginsWith_41 : decode b_La_beginsWith 41 = .ok (.sipush 255, 3) := by decide +kernel
theorem d_La_beginsWith_44 : decode b_La_beginsWith 44 = .ok (.iand, 1) := by decide +kernel
theorem d_La_beginsWith_45 : decode b_La_beginsWith 45 = .ok (.bipush 80, 2) := by decide +kernel
theorem d_La_beginsWith_47 : decode b_La_beginsWith 47 = .ok (.iload_n 1, 1) := by decide +kernel
theorem d_La_beginsWith_48 : decode b_La_beginsWith 48 = .ok (.iadd, 1) := by decide +kernel
theorem d_La_beginsWith_49 : decode b_La_beginsWith 49 = .ok (.if_icmp .ne 7, 3) := by decide +kernel
theorem d_La_beginsWith_52 : decode b_La_beginsWith 52 = .ok (.iconst 1, 1) := by decide +kernel
theorem d_La_beginsWith_53 : decode b_La_beginsWith 53 = .ok (.goto 4, 3) := by decide +kernel
theorem d_La_beginsWith_56 : decode b_La_beginsWith 56 = .ok (.iconst 0, 1) := by decide +kernel
theorem d_La_beginsWith_57 : decode b_La_beginsWith 57 = .ok (.ireturn, 1) := by decide +kernel
theorem d_La_beginsWith_58 : decode b_La_beginsWith 58 = .ok (.iload_n 1, 1) := by decide +kernel
theorem d_La_beginsWith_59 : decode b_La_beginsWith 59 = .ok (.sipush 128, 3) := by decide +kernel
theorem d_La_beginsWith_62 : decode b_La_beginsWith 62 = .ok (.if_icmp .ge 7, 3) := by decide +kernel
theorem d_La_beginsWith_65 : decode b_La_beginsWith 65 = .ok (.iconst 1, 1) := by decide +kernel
theorem d_La_beginsWith_66 : decode b_La_beginsWith 66 = .ok (.goto 4, 3) := by decide +kernel
theorem d_La_beginsWith_69 : decode b_La_beginsWith 69 = .ok (.iconst 2, 1) := by decide +kernel
theorem d_La_beginsWith_70 : decode b_La_beginsWith 70 = .ok (.istore 4, 2) := by decide +kernel
theorem d_La_beginsWith_72 : decode b_La_beginsWith 72 = .ok (.iload_n 3, 1) := by decide +kernel
theorem d_La_beginsWith_73 : decode b_La_beginsWith 73 = .ok (.iload 4, 2) := by decide +kernel
theorem d_La_beginsWith_75 : decode b_La_beginsWith 75 = .ok (.if_icmp .le 59, 3) := by decide +kernel
theorem d_La_beginsWith_78 : decode b_La_beginsWith 78 = .ok (.aload_n 0, 1) := by decide +kernel
theorem d_La_beginsWith_79 : decode b_La_beginsWith 79 = .ok (.getfield 39, 3) := by decide +kernel
theorem d_La_beginsWith_82 : decode b_La_beginsWith 82 = .ok (.iload_n 2, 1) := by decide +kernel
theorem d_La_beginsWith_83 : decode b_La_beginsWith 83 = .ok (.baload, 1) := by decide +kernel
theorem d_La_beginsWith_84 : decode b_La_beginsWith 84 = .ok (.iload 4, 2) := by decide +kernel
theorem d_La_beginsWith_86 : decode b_La_beginsWith 86 = .ok (.if_icmp .ne 48, 3) := by decide +kernel
theorem d_La_beginsWith_89 : decode b_La_beginsWith 89 = .ok (.aload_n 0, 1) := by decide +kernel
theorem d_La_beginsWith_90 : decode b_La_beginsWith 90 = .ok (.getfield 39, 3) := by decide +kernel
theorem d_La_beginsWith_93 : decode b_La_beginsWith 93 = .ok (.iload_n 2, 1) := by decide +kernel
theorem d_La_beginsWith_94 : decode b_La_beginsWith 94 = .ok (.iconst 1, 1) := by decide +kernel
theorem d_La_beginsWith_95 : decode b_La_beginsWith 95 = .ok (.iadd, 1) := by decide +kernel
theorem d_La_beginsWith_96 : decode b_La_beginsWith 96 = .ok (.baload, 1) := by decide +kernel
theorem d_La_beginsWith_97 : decode b_La_beginsWith 97 = .ok (.sipush 255, 3) := by decide +kernel
theorem d_La_beginsWith_100 : decode b_La_beginsWith 100 = .ok (.iand, 1) := by decide +kernel
theorem d_La_beginsWith_101 : decode b_La_beginsWith 101 = .ok (.iload_n 1, 1) := by decide +kernel
theorem d_La_beginsWith_102 : decode b_La_beginsWith 102 = .ok (.sipush 255, 3) := by decide +kernel
theorem d_La_beginsWith_105 : decode b_La_beginsWith 105 = .ok (.iand, 1) := by decide +kernel
theorem d_La_beginsWith_106 : decode b_La_beginsWith 106 = .ok (.if_icmp .ne 28, 3) := by decide +kernel
theorem d_La_beginsWith_109 : decode b_La_beginsWith 109 = .ok (.iload 4, 2) := by decide +kernel
theorem d_La_beginsWith_111 : decode b_La_beginsWith 111 = .ok (.iconst 1, 1) := by decide +kernel
theorem d_La_beginsWith_112 : decode b_La_beginsWith 112 = .ok (.if_icmp .eq 18, 3) := by decide +kernel
theorem d_La_beginsWith_115 : decode b_La_beginsWith 115 = .ok (.aload_n 0, 1) := by decide +kernel
theorem d_La_beginsWith_116 : decode b_La_beginsWith 116 = .ok (.getfield 39, 3) := by decide +kernel
theorem d_La_beginsWith_119 : decode b_La_beginsWith 119 = .ok (.iload_n 2, 1) := by decide +kernel
theorem d_La_beginsWith_120 : decode b_La_beginsWith 120 = .ok (.iconst 2, 1) := by decide +kernel
theorem d_La_beginsWith_121 : decode b_La_beginsWith 121 = .ok (.iadd, 1) := by decide +kernel
theorem d_La_beginsWith_122 : decode b_La_beginsWith 122 = .ok (.baload, 1) := by decide +kernel
theorem d_La_beginsWith_123 : decode b_La_beginsWith 123 = .ok (.iload_n 1, 1) := by decide +kernel
theorem d_La_beginsWith_124 : decode b_La_beginsWith 124 = .ok (.bipush 8, 2) := by decide +kernel
theorem d_La_beginsWith_126 : decode b_La_beginsWith 126 = .ok (.ishr, 1) := by decide +kernel
theorem d_La_beginsWith_127 : decode b_La_beginsWith 127 = .ok (.if_icmp .ne 7, 3) := by decide +kernel
theorem d_La_beginsWith_130 : decode b_La_beginsWith 130 = .ok (.iconst 1, 1) := by decide +kernel
theorem d_La_beginsWith_131 : decode b_La_beginsWith 131 = .ok (.goto 4, 3) := by decide +kernel
theorem d_La_beginsWith_134 : decode b_La_beginsWith 134 = .ok (.iconst 0, 1) := by decide +kernel
theorem d_La_beginsWith_135 : decode b_La_beginsWith 135 = .ok (.ireturn, 1) := by decide +kernel
abbrev rm_La_beginsWith : Room := { frames := 0, cells := 0, slots := 0, locals := 0 }
abbrev q_La_beginsWith (D : va_G) (cy : Nat → ClassId) (A : Nat → Prop) (o : Nat) (v_a_txAt : Value) (v_a_firstIn : Value) (v_a_firstOut : Value) (v_a_inAt : Value) (v_a_outAt : Value) (v_a_outScript : Value) (v_a_outEnd : Value) (a_raw : Nat) (a_inScript : Nat) (a_inEnd : Nat) (i_txs : Int32) (i_end : Int32) (i_at : Int32) (i_ins : Int32) (i_outs : Int32) (n_raw : Nat) (g_raw : Nat → Int32) (g_inScript : Nat → Int32) (g_inEnd : Nat → Int32) (res : Int32) : Array Value → State → Outcome → State → Prop := va_Qi (fun r' (_ : Unit) => r' = res) (fun _ t => Po D cy A [(o, .inr (4, [.ref a_raw, .int i_txs, v_a_txAt, v_a_firstIn, v_a_firstOut, v_a_inAt, .ref a_inScript, .ref a_inEnd, v_a_outAt, v_a_outScript, v_a_outEnd, .int i_end, .int i_at, .int i_ins, .int i_outs])), (a_raw, .inl (cy 0, n_raw, .inl g_raw)), (a_inScript, .inl (cy 1, 73, .inl g_inScript)), (a_inEnd, .inl (cy 1, 73, .inl g_inEnd))] t) A
def I_La_beginsWith_130 (p : Program) (l : Launch) (e : Env) (s : State) (m : MethodId) (args : Array Value) (below : List Frame) (meth : Method) (c : Code) (D : va_G) (cy : Nat → ClassId) (A : Nat → Prop) (ad : Nat → Nat) (o : Nat) (v_a_txAt : Value) (v_a_firstIn : Value) (v_a_firstOut : Value) (v_a_inAt : Value) (v_a_outAt : Value) (v_a_outScript : Value) (v_a_outEnd : Value) (a_raw : Nat) (a_inScript : Nat) (a_inEnd : Nat) (i_txs : Int32) (i_end : Int32) (i_at : Int32) (i_ins : Int32) (i_outs : Int32) (n_raw : Nat) (g_raw : Nat → Int32) (g_inScript : Nat → Int32) (g_inEnd : Nat → Int32) (k : Option (Int32)) : Prop :=
  ∀ (res : Int32), k  = some res → ∀ (H : Heap) (locs : List Loc) (ls : Array Slot), va_P D classes [(o, .inr (4, [.ref a_raw, .int i_txs, v_a_txAt, v_a_firstIn, v_a_firstOut, v_a_inAt, .ref a_inScript, .ref a_inEnd, v_a_outAt, v_a_outScript, v_a_outEnd, .int i_end, .int i_at, .int i_ins, .int i_outs])), (a_raw, .inl (cy 0, n_raw, .inl g_raw)), (a_inScript, .inl (cy 1, 73, .inl g_inScript)), (a_inEnd, .inl (cy 1, 73, .inl g_inEnd))] H → va_D A [(o, .inr (4, [.ref a_raw, .int i_txs, v_a_txAt, v_a_firstIn, v_a_firstOut, v_a_inAt, .ref a_inScript, .ref a_inEnd, v_a_outAt, v_a_outScript, v_a_outEnd, .int i_end, .int i_at, .int i_ins, .int i_outs])), (a_raw, .inl (cy 0, n_raw, .inl g_raw)), (a_inScript, .inl (cy 1, 73, .inl g_inScript)), (a_inEnd, .inl (cy 1, 73, .inl g_inEnd))] → va_S A s.heap H locs → lv_has ls 5 [] → W p l e rm_La_beginsWith s m args below meth c H locs 0 0 (MQ below (q_La_beginsWith D cy A o v_a_txAt v_a_firstIn v_a_firstOut v_a_inAt v_a_outAt v_a_outScript v_a_outEnd a_raw a_inScript a_inEnd i_txs i_end i_at i_ins i_outs n_raw g_raw g_inScript g_inEnd res) args s 0 0 A) (F0 m 130 ls [])
def I_La_beginsWith_70 (p : Program) (l : Launch) (e : Env) (s : State) (m : MethodId) (args : Array Value) (below : List Frame) (meth : Method) (c : Code) (D : va_G) (cy : Nat → ClassId) (A : Nat → Prop) (ad : Nat → Nat) (o : Nat) (v_a_txAt : Value) (v_a_firstIn : Value) (v_a_firstOut : Value) (v_a_inAt : Value) (v_a_outAt : Value) (v_a_outScript : Value) (v_a_outEnd : Value) (a_raw : Nat) (a_inScript : Nat) (a_inEnd : Nat) (i_txs : Int32) (i_end : Int32) (i_at : Int32) (i_ins : Int32) (i_outs : Int32) (n_raw : Nat) (g_raw : Nat → Int32) (g_inScript : Nat → Int32) (g_inEnd : Nat → Int32) (k : Int32 → Int32 → Int32 → Int32 → Option (Int32)) : Prop :=
  ∀ (x1 : Int32) (x2 : Int32) (x3 : Int32) (y0 : Int32) (res : Int32), k x1 x2 x3 y0 = some res → ∀ (H : Heap) (locs : List Loc) (ls : Array Slot), va_P D classes [(o, .inr (4, [.ref a_raw, .int i_txs, v_a_txAt, v_a_firstIn, v_a_firstOut, v_a_inAt, .ref a_inScript, .ref a_inEnd, v_a_outAt, v_a_outScript, v_a_outEnd, .int i_end, .int i_at, .int i_ins, .int i_outs])), (a_raw, .inl (cy 0, n_raw, .inl g_raw)), (a_inScript, .inl (cy 1, 73, .inl g_inScript)), (a_inEnd, .inl (cy 1, 73, .inl g_inEnd))] H → va_D A [(o, .inr (4, [.ref a_raw, .int i_txs, v_a_txAt, v_a_firstIn, v_a_firstOut, v_a_inAt, .ref a_inScript, .ref a_inEnd, v_a_outAt, v_a_outScript, v_a_outEnd, .int i_end, .int i_at, .int i_ins, .int i_outs])), (a_raw, .inl (cy 0, n_raw, .inl g_raw)), (a_inScript, .inl (cy 1, 73, .inl g_inScript)), (a_inEnd, .inl (cy 1, 73, .inl g_inEnd))] → va_S A s.heap H locs → lv_has ls 5 [(0, .ref o), (1, .int x1), (2, .int x2), (3, .int x3)] → W p l e rm_La_beginsWith s m args below meth c H locs 0 0 (MQ below (q_La_beginsWith D cy A o v_a_txAt v_a_firstIn v_a_firstOut v_a_inAt v_a_outAt v_a_outScript v_a_outEnd a_raw a_inScript a_inEnd i_txs i_end i_at i_ins i_outs n_raw g_raw g_inScript g_inEnd res) args s 0 0 A) (F0 m 70 ls [.int y0])
def I_La_beginsWith_e (p : Program) (l : Launch) (e : Env) (s : State) (m : MethodId) (args : Array Value) (below : List Frame) (meth : Method) (c : Code) (D : va_G) (cy : Nat → ClassId) (A : Nat → Prop) (ad : Nat → Nat) (o : Nat) (v_a_txAt : Value) (v_a_firstIn : Value) (v_a_firstOut : Value) (v_a_inAt : Value) (v_a_outAt : Value) (v_a_outScript : Value) (v_a_outEnd : Value) (a_raw : Nat) (a_inScript : Nat) (a_inEnd : Nat) (i_txs : Int32) (i_end : Int32) (i_at : Int32) (i_ins : Int32) (i_outs : Int32) (n_raw : Nat) (g_raw : Nat → Int32) (g_inScript : Nat → Int32) (g_inEnd : Nat → Int32) (k : Int32 → Option (Int32)) : Prop :=
  ∀ (a1 : Int32) (res : Int32), k a1 = some res → ∀ (H : Heap) (locs : List Loc) (ls : Array Slot), va_P D classes [(o, .inr (4, [.ref a_raw, .int i_txs, v_a_txAt, v_a_firstIn, v_a_firstOut, v_a_inAt, .ref a_inScript, .ref a_inEnd, v_a_outAt, v_a_outScript, v_a_outEnd, .int i_end, .int i_at, .int i_ins, .int i_outs])), (a_raw, .inl (cy 0, n_raw, .inl g_raw)), (a_inScript, .inl (cy 1, 73, .inl g_inScript)), (a_inEnd, .inl (cy 1, 73, .inl g_inEnd))] H → va_D A [(o, .inr (4, [.ref a_raw, .int i_txs, v_a_txAt, v_a_firstIn, v_a_firstOut, v_a_inAt, .ref a_inScript, .ref a_inEnd, v_a_outAt, v_a_outScript, v_a_outEnd, .int i_end, .int i_at, .int i_ins, .int i_outs])), (a_raw, .inl (cy 0, n_raw, .inl g_raw)), (a_inScript, .inl (cy 1, 73, .inl g_inScript)), (a_inEnd, .inl (cy 1, 73, .inl g_inEnd))] → va_S A s.heap H locs → lv_has ls 5 [(0, .ref o), (1, .int a1)] → W p l e rm_La_beginsWith s m args below meth c H locs 0 0 (MQ below (q_La_beginsWith D cy A o v_a_txAt v_a_firstIn v_a_firstOut v_a_inAt v_a_outAt v_a_outScript v_a_outEnd a_raw a_inScript a_inEnd i_txs i_end i_at i_ins i_outs n_raw g_raw g_inScript g_inEnd res) args s 0 0 A) (F0 m 0 ls [])
set_option maxHeartbeats 8000000 in
set_option maxRecDepth 100000 in
theorem wb_La_beginsWith_130 {p : Program} {l : Launch} {e : Env} {s : State} {m : MethodId} {args : Array Value} {below : List Frame} {meth : Method} {c : Code} {D : va_G} {cy : Nat → ClassId} {A : Nat → Prop} {ad : Nat → Nat} {o : Nat} {v_a_txAt : Value} {v_a_firstIn : Value} {v_a_firstOut : Value} {v_a_inAt : Value} {v_a_outAt : Value} {v_a_outScript : Value} {v_a_outEnd : Value} {a_raw : Nat} {a_inScript : Nat} {a_inEnd : Nat} {i_txs : Int32} {i_end : Int32} {i_at : Int32} {i_ins : Int32} {i_outs : Int32} {n_raw : Nat} {g_raw : Nat → Int32} {g_inScript : Nat → Int32} {g_inEnd : Nat → Int32} {fu : Nat} (F : Fx p s m args meth c b_La_beginsWith 5 "CoinKeeper$Layout" "beginsWith" (some .boolean) D cy ad A) : I_La_beginsWith_130 p l e s m args below meth c D cy A ad o v_a_txAt v_a_firstIn v_a_firstOut v_a_inAt v_a_outAt v_a_outScript v_a_outEnd a_raw a_inScript a_inEnd i_txs i_end i_at i_ins i_outs n_raw g_raw g_inScript g_inEnd (xb_La_beginsWith_130 fu i_txs i_end i_at i_ins i_outs n_raw g_raw g_inScript g_inEnd) := by
  obtain ⟨hx, hb, hr, hml, hown, hts, hlocks, hK, hA, hSt, hnm, hex⟩ := id F
  intro  res hf H locs ls hP hD hS hl
  unfold xb_La_beginsWith_130 at hf
  refine lv_iconst (v := 1) hx hb d_La_beginsWith_130 (by decide) ?_
  refine lv_goto (tgt := 135) hx hb d_La_beginsWith_131 (by decide) ?_
  obtain rfl := Option.some.inj hf
  exact q_rz hx hb hr hlocks hK hP hD hS (isb_n (v := 1) (by decide)) d_La_beginsWith_135
set_option maxHeartbeats 8000000 in
set_option maxRecDepth 100000 in
theorem wb_La_beginsWith_70 {p : Program} {l : Launch} {e : Env} {s : State} {m : MethodId} {args : Array Value} {below : List Frame} {meth : Method} {c : Code} {D : va_G} {cy : Nat → ClassId} {A : Nat → Prop} {ad : Nat → Nat} {o : Nat} {v_a_txAt : Value} {v_a_firstIn : Value} {v_a_firstOut : Value} {v_a_inAt : Value} {v_a_outAt : Value} {v_a_outScript : Value} {v_a_outEnd : Value} {a_raw : Nat} {a_inScript : Nat} {a_inEnd : Nat} {i_txs : Int32} {i_end : Int32} {i_at : Int32} {i_ins : Int32} {i_outs : Int32} {n_raw : Nat} {g_raw : Nat → Int32} {g_inScript : Nat → Int32} {g_inEnd : Nat → Int32} {fu : Nat} (F : Fx p s m args meth c b_La_beginsWith 5 "CoinKeeper$Layout" "beginsWith" (some .boolean) D cy ad A) : I_La_beginsWith_70 p l e s m args below meth c D cy A ad o v_a_txAt v_a_firstIn v_a_firstOut v_a_inAt v_a_outAt v_a_outScript v_a_outEnd a_raw a_inScript a_inEnd i_txs i_end i_at i_ins i_outs n_raw g_raw g_inScript g_inEnd (xb_La_beginsWith_70 fu i_txs i_end i_at i_ins i_outs n_raw g_raw g_inScript g_inEnd) := by
  obtain ⟨hx, hb, hr, hml, hown, hts, hlocks, hK, hA, hSt, hnm, hex⟩ := id F
  intro x1 x2 x3 y0 res hf H locs ls hP hD hS hl
  unfold xb_La_beginsWith_70 at hf
  refine lv_istore (lv' := [(4, .int y0), (0, .ref o), (1, .int x1), (2, .int x2), (3, .int x3)]) hx hb d_La_beginsWith_70 hl (by decide) rfl (fun ls hl => ?_)
  refine lv_iload_n hx hb d_La_beginsWith_72 rfl (lv_at hl 4 rfl) ?_
  refine lv_iload hx hb d_La_beginsWith_73 (lv_at hl 0 rfl) ?_
  refine lv_icmp_le (tgt := 134) hx hb d_La_beginsWith_75 (by decide) (fun cx => ?_) (fun cx => ?_)
  · have hf := ifp cx hf
    refine lv_iconst (v := 0) hx hb d_La_beginsWith_134 (by decide) ?_
    obtain rfl := Option.some.inj hf
    exact q_rz hx hb hr hlocks hK hP hD hS (isb_n (v := 0) (by decide)) d_La_beginsWith_135
  · have hf := ifn cx hf
    refine lv_aload_n hx hb d_La_beginsWith_78 rfl (lv_at hl 1 rfl) ?_
    refine va_get (D := D) (ci := 4) (v := .ref a_raw) (C := "CoinKeeper$Layout") (T := F_4) (N := 15) hx hb hts i_4 hown hK hP 0 rfl rfl 0 (by decide) (hts _ gw_269) (fun _ h9 => h9) rfl d_La_beginsWith_79 ?_
    refine lv_iload_n hx hb d_La_beginsWith_82 rfl (lv_at hl 3 rfl) ?_
    obtain ⟨hg, hf⟩ := gdp hf
    refine va_bald hx hb hK hP 1 0 rfl rfl (inb_in hg) d_La_beginsWith_83 ?_
    refine lv_topi (fun v1 ev => ?_)
    have hf := bn ev hf
    clear ev
    refine lv_iload hx hb d_La_beginsWith_84 (lv_at hl 0 rfl) ?_
    refine lv_icmp_ne (tgt := 134) hx hb d_La_beginsWith_86 (by decide) (fun cx => ?_) (fun cx => ?_)
    · have hf := ifn cx hf
      refine lv_iconst (v := 0) hx hb d_La_beginsWith_134 (by decide) ?_
      obtain rfl := Option.some.inj hf
      exact q_rz hx hb hr hlocks hK hP hD hS (isb_n (v := 0) (by decide)) d_La_beginsWith_135
    · have hf := ifp cx hf
      refine lv_aload_n hx hb d_La_beginsWith_89 rfl (lv_at hl 1 rfl) ?_
      refine va_get (D := D) (ci := 4) (v := .ref a_raw) (C := "CoinKeeper$Layout") (T := F_4) (N := 15) hx hb hts i_4 hown hK hP 0 rfl rfl 0 (by decide) (hts _ gw_269) (fun _ h9 => h9) rfl d_La_beginsWith_90 ?_
      refine lv_iload_n hx hb d_La_beginsWith_93 rfl (lv_at hl 3 rfl) ?_
      refine lv_iconst (v := 1) hx hb d_La_beginsWith_94 (by decide) ?_
      refine lv_iadd hx hb d_La_beginsWith_95 ?_
      refine lv_topi (fun v2 ev => ?_)
      have hf := bn ev hf
      clear ev
      obtain ⟨hg, hf⟩ := gdp hf
      refine va_bald hx hb hK hP 1 0 rfl rfl (inb_in hg) d_La_beginsWith_96 ?_
      refine lv_topi (fun v3 ev => ?_)
      have hf := bn ev hf
      clear ev
      refine lv_sipush (v := 255) hx hb d_La_beginsWith_97 (by decide) ?_
      refine lv_iand hx hb d_La_beginsWith_100 ?_
      refine lv_topi (fun v4 ev => ?_)
      have hf := bn ev hf
      clear ev
      refine lv_iload_n hx hb d_La_beginsWith_101 rfl (lv_at hl 2 rfl) ?_
      refine lv_sipush (v := 255) hx hb d_La_beginsWith_102 (by decide) ?_
      refine lv_iand hx hb d_La_beginsWith_105 ?_
      refine lv_icmp_ne (tgt := 134) hx hb d_La_beginsWith_106 (by decide) (fun cx => ?_) (fun cx => ?_)
      · have hf := ifn cx hf
        refine lv_iconst (v := 0) hx hb d_La_beginsWith_134 (by decide) ?_
        obtain rfl := Option.some.inj hf
        exact q_rz hx hb hr hlocks hK hP hD hS (isb_n (v := 0) (by decide)) d_La_beginsWith_135
      · have hf := ifp cx hf
        refine lv_iload hx hb d_La_beginsWith_109 (lv_at hl 0 rfl) ?_
        refine lv_iconst (v := 1) hx hb d_La_beginsWith_111 (by decide) ?_
        refine lv_icmp_eq (tgt := 130) hx hb d_La_beginsWith_112 (by decide) (fun cx => ?_) (fun cx => ?_)
        · have hf := ifp cx hf
          exact wb_La_beginsWith_130 (fu := fu) F _ hf _ _ _ hP hD hS (lv_sub hl [] rfl)
        · have hf := ifn cx hf
          refine lv_aload_n hx hb d_La_beginsWith_115 rfl (lv_at hl 1 rfl) ?_
          refine va_get (D := D) (ci := 4) (v := .ref a_raw) (C := "CoinKeeper$Layout") (T := F_4) (N := 15) hx hb hts i_4 hown hK hP 0 rfl rfl 0 (by decide) (hts _ gw_269) (fun _ h9 => h9) rfl d_La_beginsWith_116 ?_
          refine lv_iload_n hx hb d_La_beginsWith_119 rfl (lv_at hl 3 rfl) ?_
          refine lv_iconst (v := 2) hx hb d_La_beginsWith_120 (by decide) ?_
          refine lv_iadd hx hb d_La_beginsWith_121 ?_
          refine lv_topi (fun v5 ev => ?_)
          have hf := bn ev hf
          clear ev
          obtain ⟨hg, hf⟩ := gdp hf
          refine va_bald hx hb hK hP 1 0 rfl rfl (inb_in hg) d_La_beginsWith_122 ?_
          refine lv_topi (fun v6 ev => ?_)
          have hf := bn ev hf
          clear ev
          refine lv_iload_n hx hb d_La_beginsWith_123 rfl (lv_at hl 2 rfl) ?_
          refine lv_bipush (v := 8) hx hb d_La_beginsWith_124 (by decide) ?_
          refine lv_ishr hx hb d_La_beginsWith_126 ?_
          refine lv_icmp_ne (tgt := 134) hx hb d_La_beginsWith_127 (by decide) (fun cx => ?_) (fun cx => ?_)
          · have hf := ifn cx hf
            refine lv_iconst (v := 0) hx hb d_La_beginsWith_134 (by decide) ?_
            obtain rfl := Option.some.inj hf
            exact q_rz hx hb hr hlocks hK hP hD hS (isb_n (v := 0) (by decide)) d_La_beginsWith_135
          · have hf := ifp cx hf
            exact wb_La_beginsWith_130 (fu := fu) F _ hf _ _ _ hP hD hS (lv_sub hl [] rfl)
set_option maxHeartbeats 8000000 in
set_option maxRecDepth 100000 in
theorem we_La_beginsWith {p : Program} {l : Launch} {e : Env} {s : State} {m : MethodId} {args : Array Value} {below : List Frame} {meth : Method} {c : Code} {D : va_G} {cy : Nat → ClassId} {A : Nat → Prop} {ad : Nat → Nat} {o : Nat} {v_a_txAt : Value} {v_a_firstIn : Value} {v_a_firstOut : Value} {v_a_inAt : Value} {v_a_outAt : Value} {v_a_outScript : Value} {v_a_outEnd : Value} {a_raw : Nat} {a_inScript : Nat} {a_inEnd : Nat} {i_txs : Int32} {i_end : Int32} {i_at : Int32} {i_ins : Int32} {i_outs : Int32} {n_raw : Nat} {g_raw : Nat → Int32} {g_inScript : Nat → Int32} {g_inEnd : Nat → Int32} {fu : Nat} (F : Fx p s m args meth c b_La_beginsWith 5 "CoinKeeper$Layout" "beginsWith" (some .boolean) D cy ad A) : I_La_beginsWith_e p l e s m args below meth c D cy A ad o v_a_txAt v_a_firstIn v_a_firstOut v_a_inAt v_a_outAt v_a_outScript v_a_outEnd a_raw a_inScript a_inEnd i_txs i_end i_at i_ins i_outs n_raw g_raw g_inScript g_inEnd (x_La_beginsWith fu i_txs i_end i_at i_ins i_outs n_raw g_raw g_inScript g_inEnd) := by
  obtain ⟨hx, hb, hr, hml, hown, hts, hlocks, hK, hA, hSt, hnm, hex⟩ := id F
  intro a1 res hf H locs ls hP hD hS hl
  unfold x_La_beginsWith at hf
  refine lv_aload_n hx hb d_La_beginsWith_0 rfl (lv_at hl 0 rfl) ?_
  refine va_get (D := D) (ci := 4) (v := .ref a_inScript) (C := "CoinKeeper$Layout") (T := F_4) (N := 15) hx hb hts i_4 hown hK hP 0 rfl rfl 6 (by decide) (hts _ gw_285) (fun _ h9 => h9) rfl d_La_beginsWith_1 ?_
  refine lv_iconst (v := 0) hx hb d_La_beginsWith_4 (by decide) ?_
  refine va_iald hx hb hK hP 2 1 rfl rfl (inb_in (by decide)) d_La_beginsWith_5 ?_
  refine lv_topi (fun v1 ev => ?_)
  have hf := bn ev hf
  clear ev
  refine lv_istore_n (lv' := [(2, .int v1), (0, .ref o), (1, .int a1)]) hx hb d_La_beginsWith_6 rfl hl (by decide) rfl (fun ls hl => ?_)
  refine lv_aload_n hx hb d_La_beginsWith_7 rfl (lv_at hl 1 rfl) ?_
  refine va_get (D := D) (ci := 4) (v := .ref a_inEnd) (C := "CoinKeeper$Layout") (T := F_4) (N := 15) hx hb hts i_4 hown hK hP 0 rfl rfl 7 (by decide) (hts _ gw_287) (fun _ h9 => h9) rfl d_La_beginsWith_8 ?_
  refine lv_iconst (v := 0) hx hb d_La_beginsWith_11 (by decide) ?_
  refine va_iald hx hb hK hP 3 1 rfl rfl (inb_in (by decide)) d_La_beginsWith_12 ?_
  refine lv_topi (fun v2 ev => ?_)
  have hf := bn ev hf
  clear ev
  refine lv_iload_n hx hb d_La_beginsWith_13 rfl (lv_at hl 0 rfl) ?_
  refine lv_isub hx hb d_La_beginsWith_14 ?_
  refine lv_topi (fun v3 ev => ?_)
  have hf := bn ev hf
  clear ev
  refine lv_istore_n (lv' := [(3, .int v3), (2, .int v1), (0, .ref o), (1, .int a1)]) hx hb d_La_beginsWith_15 rfl hl (by decide) rfl (fun ls hl => ?_)
  refine lv_iload_n hx hb d_La_beginsWith_16 rfl (lv_at hl 0 rfl) ?_
  refine lv_iconst (v := 2) hx hb d_La_beginsWith_17 (by decide) ?_
  refine lv_icmp_lt (tgt := 27) hx hb d_La_beginsWith_18 (by decide) (fun cx => ?_) (fun cx => ?_)
  · have hf := ifp cx hf
    refine lv_iconst (v := 0) hx hb d_La_beginsWith_27 (by decide) ?_
    obtain rfl := Option.some.inj hf
    exact q_rz hx hb hr hlocks hK hP hD hS (isb_n (v := 0) (by decide)) d_La_beginsWith_28
  · have hf := ifn cx hf
    refine lv_iload_n hx hb d_La_beginsWith_21 rfl (lv_at hl 0 rfl) ?_
    refine lv_bipush (v := 100) hx hb d_La_beginsWith_22 (by decide) ?_
    refine lv_icmp_le (tgt := 29) hx hb d_La_beginsWith_24 (by decide) (fun cx => ?_) (fun cx => ?_)
    · have hf := ifp cx hf
      refine lv_iload_n hx hb d_La_beginsWith_29 rfl (lv_at hl 3 rfl) ?_
      refine lv_bipush (v := 16) hx hb d_La_beginsWith_30 (by decide) ?_
      refine lv_icmp_gt (tgt := 58) hx hb d_La_beginsWith_32 (by decide) (fun cx => ?_) (fun cx => ?_)
      · have hf := ifp cx hf
        refine lv_iload_n hx hb d_La_beginsWith_58 rfl (lv_at hl 3 rfl) ?_
        refine lv_sipush (v := 128) hx hb d_La_beginsWith_59 (by decide) ?_
        refine lv_icmp_ge (tgt := 69) hx hb d_La_beginsWith_62 (by decide) (fun cx => ?_) (fun cx => ?_)
        · have hf := ifp cx hf
          refine lv_iconst (v := 2) hx hb d_La_beginsWith_69 (by decide) ?_
          exact wb_La_beginsWith_70 (fu := fu) F _ _ _ _ _ hf _ _ _ hP hD hS (lv_sub hl [2, 3, 1, 0] rfl)
        · have hf := ifn cx hf
          refine lv_iconst (v := 1) hx hb d_La_beginsWith_65 (by decide) ?_
          refine lv_goto (tgt := 70) hx hb d_La_beginsWith_66 (by decide) ?_
          exact wb_La_beginsWith_70 (fu := fu) F _ _ _ _ _ hf _ _ _ hP hD hS (lv_sub hl [2, 3, 1, 0] rfl)
      · have hf := ifn cx hf
        refine lv_aload_n hx hb d_La_beginsWith_35 rfl (lv_at hl 2 rfl) ?_
        refine va_get (D := D) (ci := 4) (v := .ref a_raw) (C := "CoinKeeper$Layout") (T := F_4) (N := 15) hx hb hts i_4 hown hK hP 0 rfl rfl 0 (by decide) (hts _ gw_269) (fun _ h9 => h9) rfl d_La_beginsWith_36 ?_
        refine lv_iload_n hx hb d_La_beginsWith_39 rfl (lv_at hl 1 rfl) ?_
        obtain ⟨hg, hf⟩ := gdp hf
        refine va_bald hx hb hK hP 1 0 rfl rfl (inb_in hg) d_La_beginsWith_40 ?_
        refine lv_topi (fun v4 ev => ?_)
        have hf := bn ev hf
        clear ev
        refine lv_sipush (v := 255) hx hb d_La_beginsWith_41 (by decide) ?_
        refine lv_iand hx hb d_La_beginsWith_44 ?_
        refine lv_topi (fun v5 ev => ?_)
        have hf := bn ev hf
        clear ev
        refine lv_bipush (v := 80) hx hb d_La_beginsWith_45 (by decide) ?_
        refine lv_iload_n hx hb d_La_beginsWith_47 rfl (lv_at hl 3 rfl) ?_
        refine lv_iadd hx hb d_La_beginsWith_48 ?_
        refine lv_icmp_ne (tgt := 56) hx hb d_La_beginsWith_49 (by decide) (fun cx => ?_) (fun cx => ?_)
        · have hf := ifn cx hf
          refine lv_iconst (v := 0) hx hb d_La_beginsWith_56 (by decide) ?_
          obtain rfl := Option.some.inj hf
          exact q_rz hx hb hr hlocks hK hP hD hS (isb_n (v := 0) (by decide)) d_La_beginsWith_57
        · have hf := ifp cx hf
          refine lv_iconst (v := 1) hx hb d_La_beginsWith_52 (by decide) ?_
          refine lv_goto (tgt := 57) hx hb d_La_beginsWith_53 (by decide) ?_
          obtain rfl := Option.some.inj hf
          exact q_rz hx hb hr hlocks hK hP hD hS (isb_n (v := 1) (by decide)) d_La_beginsWith_57
    · have hf := ifn cx hf
      refine lv_iconst (v := 0) hx hb d_La_beginsWith_27 (by decide) ?_
      obtain rfl := Option.some.inj hf
      exact q_rz hx hb hr hlocks hK hP hD hS (isb_n (v := 0) (by decide)) d_La_beginsWith_28
theorem c_La_beginsWith (l : Launch) (D : va_G) (cy : Nat → ClassId) (ad : Nat → Nat) (fu : Nat) (o : Nat) (v_a_txAt : Value) (v_a_firstIn : Value) (v_a_firstOut : Value) (v_a_inAt : Value) (v_a_outAt : Value) (v_a_outScript : Value) (v_a_outEnd : Value) (a_raw : Nat) (a_inScript : Nat) (a_inEnd : Nat) (i_txs : Int32) (i_end : Int32) (i_at : Int32) (i_ins : Int32) (i_outs : Int32) (n_raw : Nat) (g_raw : Nat → Int32) (g_inScript : Nat → Int32) (g_inEnd : Nat → Int32) (a1 : Int32) (res : Int32) (hf : x_La_beginsWith fu i_txs i_end i_at i_ins i_outs n_raw g_raw g_inScript g_inEnd a1 = some res) (sz : Nat) : Met l ({ cls := "CoinKeeper$Layout", name := "beginsWith", desc := "(I)Z" } : Jvm.MethodName) (.code ({ cls := "CoinKeeper$Layout", name := "beginsWith", desc := "(I)Z" } : Jvm.MethodName) b_La_beginsWith 5 (some .boolean) :: gw) rm_La_beginsWith (va_Pc [.ref o, .int a1] (Pr D cy ad [(o, .inr (4, [.ref a_raw, .int i_txs, v_a_txAt, v_a_firstIn, v_a_firstOut, v_a_inAt, .ref a_inScript, .ref a_inEnd, v_a_outAt, v_a_outScript, v_a_outEnd, .int i_end, .int i_at, .int i_ins, .int i_outs])), (a_raw, .inl (cy 0, n_raw, .inl g_raw)), (a_inScript, .inl (cy 1, 73, .inl g_inScript)), (a_inEnd, .inl (cy 1, 73, .inl g_inEnd))] sz)) (q_La_beginsWith D cy (va_A [(o, .inr (4, [.ref a_raw, .int i_txs, v_a_txAt, v_a_firstIn, v_a_firstOut, v_a_inAt, .ref a_inScript, .ref a_inEnd, v_a_outAt, v_a_outScript, v_a_outEnd, .int i_end, .int i_at, .int i_ins, .int i_outs])), (a_raw, .inl (cy 0, n_raw, .inl g_raw)), (a_inScript, .inl (cy 1, 73, .inl g_inScript)), (a_inEnd, .inl (cy 1, 73, .inl g_inEnd))] sz) o v_a_txAt v_a_firstIn v_a_firstOut v_a_inAt v_a_outAt v_a_outScript v_a_outEnd a_raw a_inScript a_inEnd i_txs i_end i_at i_ins i_outs n_raw g_raw g_inScript g_inEnd res) 0 0 (va_A [(o, .inr (4, [.ref a_raw, .int i_txs, v_a_txAt, v_a_firstIn, v_a_firstOut, v_a_inAt, .ref a_inScript, .ref a_inEnd, v_a_outAt, v_a_outScript, v_a_outEnd, .int i_end, .int i_at, .int i_ins, .int i_outs])), (a_raw, .inl (cy 0, n_raw, .inl g_raw)), (a_inScript, .inl (cy 1, 73, .inl g_inScript)), (a_inEnd, .inl (cy 1, 73, .inl g_inEnd))] sz) :=
  q_met (Qc := fun A => q_La_beginsWith D cy A o v_a_txAt v_a_firstIn v_a_firstOut v_a_inAt v_a_outAt v_a_outScript v_a_outEnd a_raw a_inScript a_inEnd i_txs i_end i_at i_ins i_outs n_raw g_raw g_inScript g_inEnd res) (by decide) rfl rfl (Nat.le_of_ble_eq_true rfl) (fun p e s m below meth c ls F hP hD hS hl => we_La_beginsWith (fu := fu) F a1 res hf _ _ _ hP hD hS hl) sz
abbrev b_La_sigsOf : ByteArray := prog_5_method_16_code
theorem d_La_sigsOf_0 : decode b_La_sigsOf 0 = .ok (.iconst 0, 1) := by decide +kernel
theorem d_La_sigsOf_1 : decode b_La_sigsOf 1 = .ok (.istore_n 3, 1) := by decide +kernel
theorem d_La_sigsOf_2 : decode b_La_sigsOf 2 = .ok (.iload_n 1, 1) := by decide +kernel
theorem d_La_sigsOf_3 : decode b_La_sigsOf 3 = .ok (.istore 4, 2) := by decide +kernel
theorem d_La_sigsOf_5 : decode b_La_sigsOf 5 = .ok (.iload 4, 2) := by decide +kernel
theorem d_La_sigsOf_7 : decode b_La_sigsOf 7 = .ok (.iload_n 2, 1) := by decide +kernel
theorem d_La_sigsOf_8 : decode b_La_sigsOf 8 = .ok (.if_icmp .ge 118, 3) := by decide +kernel
theorem d_La_sigsOf_11 : decode b_La_sigsOf 11 = .ok (.aload_n 0, 1) := by decide +kernel
theorem d_La_sigsOf_12 : decode b_La_sigsOf 12 = .ok (.getfield 39, 3) := by decide +kernel
theorem d_La_sigsOf_15 : decode b_La_sigsOf 15 = .ok (.iload 4, 2) := by decide +kernel
theorem d_La_sigsOf_17 : decode b_La_sigsOf 17 = .ok (.baload, 1) := by decide +kernel
theorem d_La_sigsOf_18 : decode b_La_sigsOf 18 = .ok (.sipush 255, 3) := by decide +kernel
theorem d_La_sigsOf_21 : decode b_La_sigsOf 21 = .ok (.iand, 1) := by decide +kernel
theorem d_La_sigsOf_22 : decode b_La_sigsOf 22 = .ok (.istore 5, 2) := by decide +kernel
theorem d_La_sigsOf_24 : decode b_La_sigsOf 24 = .ok (.iinc 4 1, 3) := by decide +kernel
theorem d_La_sigsOf_27 : decode b_La_sigsOf 27 = .ok (.iload 5, 2) := by decide +kernel
theorem d_La_sigsOf_29 : decode b_La_sigsOf 29 = .ok (.bipush 76, 2) := by decide +kernel
theorem d_La_sigsOf_31 : decode b_La_sigsOf 31 = .ok (.if_icmp .ne 34, 3) := by decide +kernel
theorem d_La_sigsOf_34 : decode b_La_sigsOf 34 = .ok (.iload 4, 2) := by decide +kernel
theorem d_La_sigsOf_36 : decode b_La_sigsOf 36 = .ok (.iload 4, 2) := by decide +kernel
theorem d_La_sigsOf_38 : decode b_La_sigsOf 38 = .ok (.iload_n 2, 1) := by decide +kernel
theorem d_La_sigsOf_39 : decode b_La_sigsOf 39 = .ok (.if_icmp .ge 19, 3) := by decide +kernel
theorem d_La_sigsOf_42 : decode b_La_sigsOf 42 = .ok (.iconst 1, 1) := by decide +kernel
theorem d_La_sigsOf_43 : decode b_La_sigsOf 43 = .ok (.aload_n 0, 1) := by decide +kernel
theorem d_La_sigsOf_44 : decode b_La_sigsOf 44 = .ok (.getfield 39, 3) := by decide +kernel
theorem d_La_sigsOf_47 : decode b_La_sigsOf 47 = .ok (.iload 4, 2) := by decide +kernel
theorem d_La_sigsOf_49 : decode b_La_sigsOf 49 = .ok (.baload, 1) := by decide +kernel
theorem d_La_sigsOf_50 : decode b_La_sigsOf 50 = .ok (.sipush 255, 3) := by decide +kernel
theorem d_La_sigsOf_53 : decode b_La_sigsOf 53 = .ok (.iand, 1) := by decide +kernel
theorem d_La_sigsOf_54 : decode b_La_sigsOf 54 = .ok (.iadd, 1) := by decide +kernel
theorem d_La_sigsOf_55 : decode b_La_sigsOf 55 = .ok (.goto 4, 3) := by decide +kernel
theorem d_La_sigsOf_58 : decode b_La_sigsOf 58 = .ok (.iconst 1, 1) := by decide +kernel
theorem d_La_sigsOf_59 : decode b_La_sigsOf 59 = .ok (.iadd, 1) := by decide +kernel
theorem d_La_sigsOf_60 : decode b_La_sigsOf 60 = .ok (.istore 4, 2) := by decide +kernel
theorem d_La_sigsOf_62 : decode b_La_sigsOf 62 = .ok (.goto 61, 3) := by decide +kernel
theorem d_La_sigsOf_65 : decode b_La_sigsOf 65 = .ok (.iload 5, 2) := by decide +kernel
theorem d_La_sigsOf_67 : decode b_La_sigsOf 67 = .ok (.bipush 76, 2) := by decide +kernel
theorem d_La_sigsOf_69 : decode b_La_sigsOf 69 = .ok (.if_icmp .ge 13, 3) := by decide +kernel
theorem d_La_sigsOf_72 : decode b_La_sigsOf 72 = .ok (.iload 4, 2) := by decide +kernel
theorem d_La_sigsOf_74 : decode b_La_sigsOf 74 = .ok (.iload 5, 2) := by decide +kernel
theorem d_La_sigsOf_76 : decode b_La_sigsOf 76 = .ok (.iadd, 1) := by decide +kernel
theorem d_La_sigsOf_77 : decode b_La_sigsOf 77 = .ok (.istore 4, 2) := by decide +kernel
theorem d_La_sigsOf_79 : decode b_La_sigsOf 79 = .ok (.goto 44, 3) := by decide +kernel
theorem d_La_sigsOf_82 : decode b_La_sigsOf 82 = .ok (.iload 5, 2) := by decide +kernel
theorem d_La_sigsOf_84 : decode b_La_sigsOf 84 = .ok (.sipush 172, 3) := by decide +kernel
theorem d_La_sigsOf_87 : decode b_La_sigsOf 87 = .ok (.if_icmp .eq 11, 3) := by decide +kernel
theorem d_La_sigsOf_90 : decode b_La_sigsOf 90 = .ok (.iload 5, 2) := by decide +kernel
theorem d_La_sigsOf_92 : decode b_La_sigsOf 92 = .ok (.sipush 173, 3) := by decide +kernel
theorem d_La_sigsOf_95 : decode b_La_sigsOf 95 = .ok (.if_icmp .ne 9, 3) := by decide +kernel
theorem d_La_sigsOf_98 : decode b_La_sigsOf 98 = .ok (.iinc 3 1, 3) := by decide +kernel
theorem d_La_sigsOf_101 : decode b_La_sigsOf 101 = .ok (.goto 22, 3) := by decide +kernel
theorem d_La_sigsOf_104 : decode b_La_sigsOf 104 = .ok (.iload 5, 2) := by decide +kernel
theorem d_La_sigsOf_106 : decode b_La_sigsOf 106 = .ok (.sipush 174, 3) := by decide +kernel
theorem d_La_sigsOf_109 : decode b_La_sigsOf 109 = .ok (.if_icmp .eq 11, 3) := by decide +kernel
theorem d_La_sigsOf_112 : decode b_La_sigsOf 112 = .ok (.iload 5, 2) := by decide +kernel
theorem d_La_sigsOf_114 : decode b_La_sigsOf 114 = .ok (.sipush 175, 3) := by decide +kernel
theorem d_La_sigsOf_117 : decode b_La_sigsOf 117 = .ok (.if_icmp .ne 6, 3) := by decide +kernel
theorem d_La_sigsOf_120 : decode b_La_sigsOf 120 = .ok (.iinc 3 20, 3) := by decide +kernel
theorem d_La_sigsOf_123 : decode b_La_sigsOf 123 = .ok (.goto (-118), 3) := by decide +kernel
theorem d_La_sigsOf_126 : decode b_La_sigsOf 126 = .ok (.iload_n 3, 1) := by decide +kernel
theorem d_La_sigsOf_127 : decode b_La_sigsOf 127 = .ok (.ireturn, 1) := by decide +kernel
abbrev rm_La_sigsOf : Room := { frames := 0, cells := 0, slots := 0, locals := 0 }
abbrev q_La_sigsOf (D : va_G) (cy : Nat → ClassId) (A : Nat → Prop) (o : Nat) (v_a_txAt : Value) (v_a_firstIn : Value) (v_a_firstOut : Value) (v_a_inAt : Value) (v_a_inScript : Value) (v_a_inEnd : Value) (v_a_outAt : Value) (v_a_outScript : Value) (v_a_outEnd : Value) (a_raw : Nat) (i_txs : Int32) (i_end : Int32) (i_at : Int32) (i_ins : Int32) (i_outs : Int32) (n_raw : Nat) (g_raw : Nat → Int32) (res : Int32) : Array Value → State → Outcome → State → Prop := va_Qi (fun r' (_ : Unit) => r' = res) (fun _ t => Po D cy A [(o, .inr (4, [.ref a_raw, .int i_txs, v_a_txAt, v_a_firstIn, v_a_firstOut, v_a_inAt, v_a_inScript, v_a_inEnd, v_a_outAt, v_a_outScript, v_a_outEnd, .int i_end, .int i_at, .int i_ins, .int i_outs])), (a_raw, .inl (cy 0, n_raw, .inl g_raw))] t) A
def I_La_sigsOf_123 (p : Program) (l : Launch) (e : Env) (s : State) (m : MethodId) (args : Array Value) (below : List Frame) (meth : Method) (c : Code) (D : va_G) (cy : Nat → ClassId) (A : Nat → Prop) (ad : Nat → Nat) (o : Nat) (v_a_txAt : Value) (v_a_firstIn : Value) (v_a_firstOut : Value) (v_a_inAt : Value) (v_a_inScript : Value) (v_a_inEnd : Value) (v_a_outAt : Value) (v_a_outScript : Value) (v_a_outEnd : Value) (a_raw : Nat) (i_txs : Int32) (i_end : Int32) (i_at : Int32) (i_ins : Int32) (i_outs : Int32) (n_raw : Nat) (g_raw : Nat → Int32) (k : Int32 → Int32 → Int32 → Option (Int32)) : Prop :=
  ∀ (x2 : Int32) (x3 : Int32) (x4 : Int32) (res : Int32), k x2 x3 x4 = some res → ∀ (H : Heap) (locs : List Loc) (ls : Array Slot), va_P D classes [(o, .inr (4, [.ref a_raw, .int i_txs, v_a_txAt, v_a_firstIn, v_a_firstOut, v_a_inAt, v_a_inScript, v_a_inEnd, v_a_outAt, v_a_outScript, v_a_outEnd, .int i_end, .int i_at, .int i_ins, .int i_outs])), (a_raw, .inl (cy 0, n_raw, .inl g_raw))] H → va_D A [(o, .inr (4, [.ref a_raw, .int i_txs, v_a_txAt, v_a_firstIn, v_a_firstOut, v_a_inAt, v_a_inScript, v_a_inEnd, v_a_outAt, v_a_outScript, v_a_outEnd, .int i_end, .int i_at, .int i_ins, .int i_outs])), (a_raw, .inl (cy 0, n_raw, .inl g_raw))] → va_S A s.heap H locs → lv_has ls 6 [(0, .ref o), (2, .int x2), (3, .int x3), (4, .int x4)] → W p l e rm_La_sigsOf s m args below meth c H locs 0 0 (MQ below (q_La_sigsOf D cy A o v_a_txAt v_a_firstIn v_a_firstOut v_a_inAt v_a_inScript v_a_inEnd v_a_outAt v_a_outScript v_a_outEnd a_raw i_txs i_end i_at i_ins i_outs n_raw g_raw res) args s 0 0 A) (F0 m 123 ls [])
def I_La_sigsOf_98 (p : Program) (l : Launch) (e : Env) (s : State) (m : MethodId) (args : Array Value) (below : List Frame) (meth : Method) (c : Code) (D : va_G) (cy : Nat → ClassId) (A : Nat → Prop) (ad : Nat → Nat) (o : Nat) (v_a_txAt : Value) (v_a_firstIn : Value) (v_a_firstOut : Value) (v_a_inAt : Value) (v_a_inScript : Value) (v_a_inEnd : Value) (v_a_outAt : Value) (v_a_outScript : Value) (v_a_outEnd : Value) (a_raw : Nat) (i_txs : Int32) (i_end : Int32) (i_at : Int32) (i_ins : Int32) (i_outs : Int32) (n_raw : Nat) (g_raw : Nat → Int32) (k : Int32 → Int32 → Int32 → Option (Int32)) : Prop :=
  ∀ (x2 : Int32) (x3 : Int32) (x4 : Int32) (res : Int32), k x2 x3 x4 = some res → ∀ (H : Heap) (locs : List Loc) (ls : Array Slot), va_P D classes [(o, .inr (4, [.ref a_raw, .int i_txs, v_a_txAt, v_a_firstIn, v_a_firstOut, v_a_inAt, v_a_inScript, v_a_inEnd, v_a_outAt, v_a_outScript, v_a_outEnd, .int i_end, .int i_at, .int i_ins, .int i_outs])), (a_raw, .inl (cy 0, n_raw, .inl g_raw))] H → va_D A [(o, .inr (4, [.ref a_raw, .int i_txs, v_a_txAt, v_a_firstIn, v_a_firstOut, v_a_inAt, v_a_inScript, v_a_inEnd, v_a_outAt, v_a_outScript, v_a_outEnd, .int i_end, .int i_at, .int i_ins, .int i_outs])), (a_raw, .inl (cy 0, n_raw, .inl g_raw))] → va_S A s.heap H locs → lv_has ls 6 [(0, .ref o), (2, .int x2), (3, .int x3), (4, .int x4)] → W p l e rm_La_sigsOf s m args below meth c H locs 0 0 (MQ below (q_La_sigsOf D cy A o v_a_txAt v_a_firstIn v_a_firstOut v_a_inAt v_a_inScript v_a_inEnd v_a_outAt v_a_outScript v_a_outEnd a_raw i_txs i_end i_at i_ins i_outs n_raw g_raw res) args s 0 0 A) (F0 m 98 ls [])
def I_La_sigsOf_120 (p : Program) (l : Launch) (e : Env) (s : State) (m : MethodId) (args : Array Value) (below : List Frame) (meth : Method) (c : Code) (D : va_G) (cy : Nat → ClassId) (A : Nat → Prop) (ad : Nat → Nat) (o : Nat) (v_a_txAt : Value) (v_a_firstIn : Value) (v_a_firstOut : Value) (v_a_inAt : Value) (v_a_inScript : Value) (v_a_inEnd : Value) (v_a_outAt : Value) (v_a_outScript : Value) (v_a_outEnd : Value) (a_raw : Nat) (i_txs : Int32) (i_end : Int32) (i_at : Int32) (i_ins : Int32) (i_outs : Int32) (n_raw : Nat) (g_raw : Nat → Int32) (k : Int32 → Int32 → Int32 → Option (Int32)) : Prop :=
  ∀ (x2 : Int32) (x3 : Int32) (x4 : Int32) (res : Int32), k x2 x3 x4 = some res → ∀ (H : Heap) (locs : List Loc) (ls : Array Slot), va_P D classes [(o, .inr (4, [.ref a_raw, .int i_txs, v_a_txAt, v_a_firstIn, v_a_firstOut, v_a_inAt, v_a_inScript, v_a_inEnd, v_a_outAt, v_a_outScript, v_a_outEnd, .int i_end, .int i_at, .int i_ins, .int i_outs])), (a_raw, .inl (cy 0, n_raw, .inl g_raw))] H → va_D A [(o, .inr (4, [.ref a_raw, .int i_txs, v_a_txAt, v_a_firstIn, v_a_firstOut, v_a_inAt, v_a_inScript, v_a_inEnd, v_a_outAt, v_a_outScript, v_a_outEnd, .int i_end, .int i_at, .int i_ins, .int i_outs])), (a_raw, .inl (cy 0, n_raw, .inl g_raw))] → va_S A s.heap H locs → lv_has ls 6 [(0, .ref o), (2, .int x2), (3, .int x3), (4, .int x4)] → W p l e rm_La_sigsOf s m args below meth c H locs 0 0 (MQ below (q_La_sigsOf D cy A o v_a_txAt v_a_firstIn v_a_firstOut v_a_inAt v_a_inScript v_a_inEnd v_a_outAt v_a_outScript v_a_outEnd a_raw i_txs i_end i_at i_ins i_outs n_raw g_raw res) args s 0 0 A) (F0 m 120 ls [])
def I_La_sigsOf_59 (p : Program) (l : Launch) (e : Env) (s : State) (m : MethodId) (args : Array Value) (below : List Frame) (meth : Method) (c : Code) (D : va_G) (cy : Nat → ClassId) (A : Nat → Prop) (ad : Nat → Nat) (o : Nat) (v_a_txAt : Value) (v_a_firstIn : Value) (v_a_firstOut : Value) (v_a_inAt : Value) (v_a_inScript : Value) (v_a_inEnd : Value) (v_a_outAt : Value) (v_a_outScript : Value) (v_a_outEnd : Value) (a_raw : Nat) (i_txs : Int32) (i_end : Int32) (i_at : Int32) (i_ins : Int32) (i_outs : Int32) (n_raw : Nat) (g_raw : Nat → Int32) (k : Int32 → Int32 → Int32 → Int32 → Option (Int32)) : Prop :=
  ∀ (x2 : Int32) (x3 : Int32) (y0 : Int32) (y1 : Int32) (res : Int32), k x2 x3 y0 y1 = some res → ∀ (H : Heap) (locs : List Loc) (ls : Array Slot), va_P D classes [(o, .inr (4, [.ref a_raw, .int i_txs, v_a_txAt, v_a_firstIn, v_a_firstOut, v_a_inAt, v_a_inScript, v_a_inEnd, v_a_outAt, v_a_outScript, v_a_outEnd, .int i_end, .int i_at, .int i_ins, .int i_outs])), (a_raw, .inl (cy 0, n_raw, .inl g_raw))] H → va_D A [(o, .inr (4, [.ref a_raw, .int i_txs, v_a_txAt, v_a_firstIn, v_a_firstOut, v_a_inAt, v_a_inScript, v_a_inEnd, v_a_outAt, v_a_outScript, v_a_outEnd, .int i_end, .int i_at, .int i_ins, .int i_outs])), (a_raw, .inl (cy 0, n_raw, .inl g_raw))] → va_S A s.heap H locs → lv_has ls 6 [(0, .ref o), (2, .int x2), (3, .int x3)] → W p l e rm_La_sigsOf s m args below meth c H locs 0 0 (MQ below (q_La_sigsOf D cy A o v_a_txAt v_a_firstIn v_a_firstOut v_a_inAt v_a_inScript v_a_inEnd v_a_outAt v_a_outScript v_a_outEnd a_raw i_txs i_end i_at i_ins i_outs n_raw g_raw res) args s 0 0 A) (F0 m 59 ls [.int y0, .int y1])
def I_La_sigsOf_5 (p : Program) (l : Launch) (e : Env) (s : State) (m : MethodId) (args : Array Value) (below : List Frame) (meth : Method) (c : Code) (D : va_G) (cy : Nat → ClassId) (A : Nat → Prop) (ad : Nat → Nat) (o : Nat) (v_a_txAt : Value) (v_a_firstIn : Value) (v_a_firstOut : Value) (v_a_inAt : Value) (v_a_inScript : Value) (v_a_inEnd : Value) (v_a_outAt : Value) (v_a_outScript : Value) (v_a_outEnd : Value) (a_raw : Nat) (i_txs : Int32) (i_end : Int32) (i_at : Int32) (i_ins : Int32) (i_outs : Int32) (n_raw : Nat) (g_raw : Nat → Int32) (k : Int32 → Int32 → Int32 → Option (Int32)) : Prop :=
  ∀ (x2 : Int32) (x3 : Int32) (x4 : Int32) (res : Int32), k x2 x3 x4 = some res → ∀ (H : Heap) (locs : List Loc) (ls : Array Slot), va_P D classes [(o, .inr (4, [.ref a_raw, .int i_txs, v_a_txAt, v_a_firstIn, v_a_firstOut, v_a_inAt, v_a_inScript, v_a_inEnd, v_a_outAt, v_a_outScript, v_a_outEnd, .int i_end, .int i_at, .int i_ins, .int i_outs])), (a_raw, .inl (cy 0, n_raw, .inl g_raw))] H → va_D A [(o, .inr (4, [.ref a_raw, .int i_txs, v_a_txAt, v_a_firstIn, v_a_firstOut, v_a_inAt, v_a_inScript, v_a_inEnd, v_a_outAt, v_a_outScript, v_a_outEnd, .int i_end, .int i_at, .int i_ins, .int i_outs])), (a_raw, .inl (cy 0, n_raw, .inl g_raw))] → va_S A s.heap H locs → lv_has ls 6 [(0, .ref o), (2, .int x2), (3, .int x3), (4, .int x4)] → W p l e rm_La_sigsOf s m args below meth c H locs 0 0 (MQ below (q_La_sigsOf D cy A o v_a_txAt v_a_firstIn v_a_firstOut v_a_inAt v_a_inScript v_a_inEnd v_a_outAt v_a_outScript v_a_outEnd a_raw i_txs i_end i_at i_ins i_outs n_raw g_raw res) args s 0 0 A) (F0 m 5 ls [])
def I_La_sigsOf_e (p : Program) (l : Launch) (e : Env) (s : State) (m : MethodId) (args : Array Value) (below : List Frame) (meth : Method) (c : Code) (D : va_G) (cy : Nat → ClassId) (A : Nat → Prop) (ad : Nat → Nat) (o : Nat) (v_a_txAt : Value) (v_a_firstIn : Value) (v_a_firstOut : Value) (v_a_inAt : Value) (v_a_inScript : Value) (v_a_inEnd : Value) (v_a_outAt : Value) (v_a_outScript : Value) (v_a_outEnd : Value) (a_raw : Nat) (i_txs : Int32) (i_end : Int32) (i_at : Int32) (i_ins : Int32) (i_outs : Int32) (n_raw : Nat) (g_raw : Nat → Int32) (k : Int32 → Int32 → Option (Int32)) : Prop :=
  ∀ (a1 : Int32) (a2 : Int32) (res : Int32), k a1 a2 = some res → ∀ (H : Heap) (locs : List Loc) (ls : Array Slot), va_P D classes [(o, .inr (4, [.ref a_raw, .int i_txs, v_a_txAt, v_a_firstIn, v_a_firstOut, v_a_inAt, v_a_inScript, v_a_inEnd, v_a_outAt, v_a_outScript, v_a_outEnd, .int i_end, .int i_at, .int i_ins, .int i_outs])), (a_raw, .inl (cy 0, n_raw, .inl g_raw))] H → va_D A [(o, .inr (4, [.ref a_raw, .int i_txs, v_a_txAt, v_a_firstIn, v_a_firstOut, v_a_inAt, v_a_inScript, v_a_inEnd, v_a_outAt, v_a_outScript, v_a_outEnd, .int i_end, .int i_at, .int i_ins, .int i_outs])), (a_raw, .inl (cy 0, n_raw, .inl g_raw))] → va_S A s.heap H locs → lv_has ls 6 [(0, .ref o), (1, .int a1), (2, .int a2)] → W p l e rm_La_sigsOf s m args below meth c H locs 0 0 (MQ below (q_La_sigsOf D cy A o v_a_txAt v_a_firstIn v_a_firstOut v_a_inAt v_a_inScript v_a_inEnd v_a_outAt v_a_outScript v_a_outEnd a_raw i_txs i_end i_at i_ins i_outs n_raw g_raw res) args s 0 0 A) (F0 m 0 ls [])
set_option maxHeartbeats 8000000 in
set_option maxRecDepth 100000 in
theorem wb_La_sigsOf_123 {p : Program} {l : Launch} {e : Env} {s : State} {m : MethodId} {args : Array Value} {below : List Frame} {meth : Method} {c : Code} {D : va_G} {cy : Nat → ClassId} {A : Nat → Prop} {ad : Nat → Nat} {o : Nat} {v_a_txAt : Value} {v_a_firstIn : Value} {v_a_firstOut : Value} {v_a_inAt : Value} {v_a_inScript : Value} {v_a_inEnd : Value} {v_a_outAt : Value} {v_a_outScript : Value} {v_a_outEnd : Value} {a_raw : Nat} {i_txs : Int32} {i_end : Int32} {i_at : Int32} {i_ins : Int32} {i_outs : Int32} {n_raw : Nat} {g_raw : Nat → Int32} {fu : Nat} {k_5 : Int32 → Int32 → Int32 → Option (Int32)} (F : Fx p s m args meth c b_La_sigsOf 6 "CoinKeeper$Layout" "sigsOf" (some .int) D cy ad A) (hk_5 : I_La_sigsOf_5 p l e s m args below meth c D cy A ad o v_a_txAt v_a_firstIn v_a_firstOut v_a_inAt v_a_inScript v_a_inEnd v_a_outAt v_a_outScript v_a_outEnd a_raw i_txs i_end i_at i_ins i_outs n_raw g_raw k_5) : I_La_sigsOf_123 p l e s m args below meth c D cy A ad o v_a_txAt v_a_firstIn v_a_firstOut v_a_inAt v_a_inScript v_a_inEnd v_a_outAt v_a_outScript v_a_outEnd a_raw i_txs i_end i_at i_ins i_outs n_raw g_raw (xb_La_sigsOf_123 fu i_txs i_end i_at i_ins i_outs n_raw g_raw k_5) := by
  obtain ⟨hx, hb, hr, hml, hown, hts, hlocks, hK, hA, hSt, hnm, hex⟩ := id F
  intro x2 x3 x4 res hf H locs ls hP hD hS hl
  unfold xb_La_sigsOf_123 at hf
  refine lv_goto (tgt := 5) hx hb d_La_sigsOf_123 (by decide) ?_
  exact hk_5 _ _ _ _ hf _ _ _ hP hD hS (lv_sub hl [0, 1, 2, 3] rfl)
set_option maxHeartbeats 8000000 in
set_option maxRecDepth 100000 in
theorem wb_La_sigsOf_98 {p : Program} {l : Launch} {e : Env} {s : State} {m : MethodId} {args : Array Value} {below : List Frame} {meth : Method} {c : Code} {D : va_G} {cy : Nat → ClassId} {A : Nat → Prop} {ad : Nat → Nat} {o : Nat} {v_a_txAt : Value} {v_a_firstIn : Value} {v_a_firstOut : Value} {v_a_inAt : Value} {v_a_inScript : Value} {v_a_inEnd : Value} {v_a_outAt : Value} {v_a_outScript : Value} {v_a_outEnd : Value} {a_raw : Nat} {i_txs : Int32} {i_end : Int32} {i_at : Int32} {i_ins : Int32} {i_outs : Int32} {n_raw : Nat} {g_raw : Nat → Int32} {fu : Nat} {k_5 : Int32 → Int32 → Int32 → Option (Int32)} (F : Fx p s m args meth c b_La_sigsOf 6 "CoinKeeper$Layout" "sigsOf" (some .int) D cy ad A) (hk_5 : I_La_sigsOf_5 p l e s m args below meth c D cy A ad o v_a_txAt v_a_firstIn v_a_firstOut v_a_inAt v_a_inScript v_a_inEnd v_a_outAt v_a_outScript v_a_outEnd a_raw i_txs i_end i_at i_ins i_outs n_raw g_raw k_5) : I_La_sigsOf_98 p l e s m args below meth c D cy A ad o v_a_txAt v_a_firstIn v_a_firstOut v_a_inAt v_a_inScript v_a_inEnd v_a_outAt v_a_outScript v_a_outEnd a_raw i_txs i_end i_at i_ins i_outs n_raw g_raw (xb_La_sigsOf_98 fu i_txs i_end i_at i_ins i_outs n_raw g_raw k_5) := by
  obtain ⟨hx, hb, hr, hml, hown, hts, hlocks, hK, hA, hSt, hnm, hex⟩ := id F
  intro x2 x3 x4 res hf H locs ls hP hD hS hl
  unfold xb_La_sigsOf_98 at hf
  obtain ⟨v1, ev, hf⟩ := bne hf
  refine lv_iinc (v := v1) (lv' := [(3, .int v1), (0, .ref o), (2, .int x2), (4, .int x4)]) hx hb d_La_sigsOf_98 hl (k := 2) rfl (by rw [ev]; rfl) (by decide) rfl (fun ls hl => ?_)
  clear ev
  refine lv_goto (tgt := 123) hx hb d_La_sigsOf_101 (by decide) ?_
  exact wb_La_sigsOf_123 (fu := fu) F hk_5 _ _ _ _ hf _ _ _ hP hD hS (lv_sub hl [1, 2, 0, 3] rfl)
set_option maxHeartbeats 8000000 in
set_option maxRecDepth 100000 in
theorem wb_La_sigsOf_120 {p : Program} {l : Launch} {e : Env} {s : State} {m : MethodId} {args : Array Value} {below : List Frame} {meth : Method} {c : Code} {D : va_G} {cy : Nat → ClassId} {A : Nat → Prop} {ad : Nat → Nat} {o : Nat} {v_a_txAt : Value} {v_a_firstIn : Value} {v_a_firstOut : Value} {v_a_inAt : Value} {v_a_inScript : Value} {v_a_inEnd : Value} {v_a_outAt : Value} {v_a_outScript : Value} {v_a_outEnd : Value} {a_raw : Nat} {i_txs : Int32} {i_end : Int32} {i_at : Int32} {i_ins : Int32} {i_outs : Int32} {n_raw : Nat} {g_raw : Nat → Int32} {fu : Nat} {k_5 : Int32 → Int32 → Int32 → Option (Int32)} (F : Fx p s m args meth c b_La_sigsOf 6 "CoinKeeper$Layout" "sigsOf" (some .int) D cy ad A) (hk_5 : I_La_sigsOf_5 p l e s m args below meth c D cy A ad o v_a_txAt v_a_firstIn v_a_firstOut v_a_inAt v_a_inScript v_a_inEnd v_a_outAt v_a_outScript v_a_outEnd a_raw i_txs i_end i_at i_ins i_outs n_raw g_raw k_5) : I_La_sigsOf_120 p l e s m args below meth c D cy A ad o v_a_txAt v_a_firstIn v_a_firstOut v_a_inAt v_a_inScript v_a_inEnd v_a_outAt v_a_outScript v_a_outEnd a_raw i_txs i_end i_at i_ins i_outs n_raw g_raw (xb_La_sigsOf_120 fu i_txs i_end i_at i_ins i_outs n_raw g_raw k_5) := by
  obtain ⟨hx, hb, hr, hml, hown, hts, hlocks, hK, hA, hSt, hnm, hex⟩ := id F
  intro x2 x3 x4 res hf H locs ls hP hD hS hl
  unfold xb_La_sigsOf_120 at hf
  obtain ⟨v1, ev, hf⟩ := bne hf
  refine lv_iinc (v := v1) (lv' := [(3, .int v1), (0, .ref o), (2, .int x2), (4, .int x4)]) hx hb d_La_sigsOf_120 hl (k := 2) rfl (by rw [ev]; rfl) (by decide) rfl (fun ls hl => ?_)
  clear ev
  exact wb_La_sigsOf_123 (fu := fu) F hk_5 _ _ _ _ hf _ _ _ hP hD hS (lv_sub hl [1, 2, 0, 3] rfl)
set_option maxHeartbeats 8000000 in
set_option maxRecDepth 100000 in
theorem wb_La_sigsOf_59 {p : Program} {l : Launch} {e : Env} {s : State} {m : MethodId} {args : Array Value} {below : List Frame} {meth : Method} {c : Code} {D : va_G} {cy : Nat → ClassId} {A : Nat → Prop} {ad : Nat → Nat} {o : Nat} {v_a_txAt : Value} {v_a_firstIn : Value} {v_a_firstOut : Value} {v_a_inAt : Value} {v_a_inScript : Value} {v_a_inEnd : Value} {v_a_outAt : Value} {v_a_outScript : Value} {v_a_outEnd : Value} {a_raw : Nat} {i_txs : Int32} {i_end : Int32} {i_at : Int32} {i_ins : Int32} {i_outs : Int32} {n_raw : Nat} {g_raw : Nat → Int32} {fu : Nat} {k_5 : Int32 → Int32 → Int32 → Option (Int32)} (F : Fx p s m args meth c b_La_sigsOf 6 "CoinKeeper$Layout" "sigsOf" (some .int) D cy ad A) (hk_5 : I_La_sigsOf_5 p l e s m args below meth c D cy A ad o v_a_txAt v_a_firstIn v_a_firstOut v_a_inAt v_a_inScript v_a_inEnd v_a_outAt v_a_outScript v_a_outEnd a_raw i_txs i_end i_at i_ins i_outs n_raw g_raw k_5) : I_La_sigsOf_59 p l e s m args below meth c D cy A ad o v_a_txAt v_a_firstIn v_a_firstOut v_a_inAt v_a_inScript v_a_inEnd v_a_outAt v_a_outScript v_a_outEnd a_raw i_txs i_end i_at i_ins i_outs n_raw g_raw (xb_La_sigsOf_59 fu i_txs i_end i_at i_ins i_outs n_raw g_raw k_5) := by
  obtain ⟨hx, hb, hr, hml, hown, hts, hlocks, hK, hA, hSt, hnm, hex⟩ := id F
  intro x2 x3 y0 y1 res hf H locs ls hP hD hS hl
  unfold xb_La_sigsOf_59 at hf
  refine lv_iadd hx hb d_La_sigsOf_59 ?_
  refine lv_topi (fun v1 ev => ?_)
  have hf := bn ev hf
  clear ev
  refine lv_istore (lv' := [(4, .int v1), (0, .ref o), (2, .int x2), (3, .int x3)]) hx hb d_La_sigsOf_60 hl (by decide) rfl (fun ls hl => ?_)
  refine lv_goto (tgt := 123) hx hb d_La_sigsOf_62 (by decide) ?_
  exact wb_La_sigsOf_123 (fu := fu) F hk_5 _ _ _ _ hf _ _ _ hP hD hS (lv_sub hl [1, 2, 3, 0] rfl)
set_option maxHeartbeats 8000000 in
set_option maxRecDepth 100000 in
theorem wb_La_sigsOf_5 {p : Program} {l : Launch} {e : Env} {s : State} {m : MethodId} {args : Array Value} {below : List Frame} {meth : Method} {c : Code} {D : va_G} {cy : Nat → ClassId} {A : Nat → Prop} {ad : Nat → Nat} {o : Nat} {v_a_txAt : Value} {v_a_firstIn : Value} {v_a_firstOut : Value} {v_a_inAt : Value} {v_a_inScript : Value} {v_a_inEnd : Value} {v_a_outAt : Value} {v_a_outScript : Value} {v_a_outEnd : Value} {a_raw : Nat} {i_txs : Int32} {i_end : Int32} {i_at : Int32} {i_ins : Int32} {i_outs : Int32} {n_raw : Nat} {g_raw : Nat → Int32} {fu : Nat} {k_5 : Int32 → Int32 → Int32 → Option (Int32)} (F : Fx p s m args meth c b_La_sigsOf 6 "CoinKeeper$Layout" "sigsOf" (some .int) D cy ad A) (hk_5 : I_La_sigsOf_5 p l e s m args below meth c D cy A ad o v_a_txAt v_a_firstIn v_a_firstOut v_a_inAt v_a_inScript v_a_inEnd v_a_outAt v_a_outScript v_a_outEnd a_raw i_txs i_end i_at i_ins i_outs n_raw g_raw k_5) : I_La_sigsOf_5 p l e s m args below meth c D cy A ad o v_a_txAt v_a_firstIn v_a_firstOut v_a_inAt v_a_inScript v_a_inEnd v_a_outAt v_a_outScript v_a_outEnd a_raw i_txs i_end i_at i_ins i_outs n_raw g_raw (xb_La_sigsOf_5 fu i_txs i_end i_at i_ins i_outs n_raw g_raw k_5) := by
  obtain ⟨hx, hb, hr, hml, hown, hts, hlocks, hK, hA, hSt, hnm, hex⟩ := id F
  intro x2 x3 x4 res hf H locs ls hP hD hS hl
  unfold xb_La_sigsOf_5 at hf
  refine lv_iload hx hb d_La_sigsOf_5 (lv_at hl 3 rfl) ?_
  refine lv_iload_n hx hb d_La_sigsOf_7 rfl (lv_at hl 1 rfl) ?_
  refine lv_icmp_ge (tgt := 126) hx hb d_La_sigsOf_8 (by decide) (fun cx => ?_) (fun cx => ?_)
  · have hf := ifp cx hf
    refine lv_iload_n hx hb d_La_sigsOf_126 rfl (lv_at hl 2 rfl) ?_
    obtain rfl := Option.some.inj hf
    exact q_ri hx hb hr hlocks hK hP hD hS d_La_sigsOf_127
  · have hf := ifn cx hf
    refine lv_aload_n hx hb d_La_sigsOf_11 rfl (lv_at hl 0 rfl) ?_
    refine va_get (D := D) (ci := 4) (v := .ref a_raw) (C := "CoinKeeper$Layout") (T := F_4) (N := 15) hx hb hts i_4 hown hK hP 0 rfl rfl 0 (by decide) (hts _ gw_269) (fun _ h9 => h9) rfl d_La_sigsOf_12 ?_
    refine lv_iload hx hb d_La_sigsOf_15 (lv_at hl 3 rfl) ?_
    obtain ⟨hg, hf⟩ := gdp hf
    refine va_bald hx hb hK hP 1 0 rfl rfl (inb_in hg) d_La_sigsOf_17 ?_
    refine lv_topi (fun v1 ev => ?_)
    have hf := bn ev hf
    clear ev
    refine lv_sipush (v := 255) hx hb d_La_sigsOf_18 (by decide) ?_
    refine lv_iand hx hb d_La_sigsOf_21 ?_
    refine lv_topi (fun v2 ev => ?_)
    have hf := bn ev hf
    clear ev
    refine lv_istore (lv' := [(5, .int v2), (0, .ref o), (2, .int x2), (3, .int x3), (4, .int x4)]) hx hb d_La_sigsOf_22 hl (by decide) rfl (fun ls hl => ?_)
    obtain ⟨v3, ev, hf⟩ := bne hf
    refine lv_iinc (v := v3) (lv' := [(4, .int v3), (5, .int v2), (0, .ref o), (2, .int x2), (3, .int x3)]) hx hb d_La_sigsOf_24 hl (k := 4) rfl (by rw [ev]; rfl) (by decide) rfl (fun ls hl => ?_)
    clear ev
    refine lv_iload hx hb d_La_sigsOf_27 (lv_at hl 1 rfl) ?_
    refine lv_bipush (v := 76) hx hb d_La_sigsOf_29 (by decide) ?_
    refine lv_icmp_ne (tgt := 65) hx hb d_La_sigsOf_31 (by decide) (fun cx => ?_) (fun cx => ?_)
    · have hf := ifn cx hf
      refine lv_iload hx hb d_La_sigsOf_65 (lv_at hl 1 rfl) ?_
      refine lv_bipush (v := 76) hx hb d_La_sigsOf_67 (by decide) ?_
      refine lv_icmp_ge (tgt := 82) hx hb d_La_sigsOf_69 (by decide) (fun cx => ?_) (fun cx => ?_)
      · have hf := ifp cx hf
        refine lv_iload hx hb d_La_sigsOf_82 (lv_at hl 1 rfl) ?_
        refine lv_sipush (v := 172) hx hb d_La_sigsOf_84 (by decide) ?_
        refine lv_icmp_eq (tgt := 98) hx hb d_La_sigsOf_87 (by decide) (fun cx => ?_) (fun cx => ?_)
        · have hf := ifp cx hf
          exact wb_La_sigsOf_98 (fu := fu) F hk_5 _ _ _ _ hf _ _ _ hP hD hS (lv_sub hl [2, 3, 4, 0] rfl)
        · have hf := ifn cx hf
          refine lv_iload hx hb d_La_sigsOf_90 (lv_at hl 1 rfl) ?_
          refine lv_sipush (v := 173) hx hb d_La_sigsOf_92 (by decide) ?_
          refine lv_icmp_ne (tgt := 104) hx hb d_La_sigsOf_95 (by decide) (fun cx => ?_) (fun cx => ?_)
          · have hf := ifn cx hf
            refine lv_iload hx hb d_La_sigsOf_104 (lv_at hl 1 rfl) ?_
            refine lv_sipush (v := 174) hx hb d_La_sigsOf_106 (by decide) ?_
            refine lv_icmp_eq (tgt := 120) hx hb d_La_sigsOf_109 (by decide) (fun cx => ?_) (fun cx => ?_)
            · have hf := ifp cx hf
              exact wb_La_sigsOf_120 (fu := fu) F hk_5 _ _ _ _ hf _ _ _ hP hD hS (lv_sub hl [2, 3, 4, 0] rfl)
            · have hf := ifn cx hf
              refine lv_iload hx hb d_La_sigsOf_112 (lv_at hl 1 rfl) ?_
              refine lv_sipush (v := 175) hx hb d_La_sigsOf_114 (by decide) ?_
              refine lv_icmp_ne (tgt := 123) hx hb d_La_sigsOf_117 (by decide) (fun cx => ?_) (fun cx => ?_)
              · have hf := ifn cx hf
                exact wb_La_sigsOf_123 (fu := fu) F hk_5 _ _ _ _ hf _ _ _ hP hD hS (lv_sub hl [2, 3, 4, 0] rfl)
              · have hf := ifp cx hf
                exact wb_La_sigsOf_120 (fu := fu) F hk_5 _ _ _ _ hf _ _ _ hP hD hS (lv_sub hl [2, 3, 4, 0] rfl)
          · have hf := ifp cx hf
            exact wb_La_sigsOf_98 (fu := fu) F hk_5 _ _ _ _ hf _ _ _ hP hD hS (lv_sub hl [2, 3, 4, 0] rfl)
      · have hf := ifn cx hf
        refine lv_iload hx hb d_La_sigsOf_72 (lv_at hl 0 rfl) ?_
        refine lv_iload hx hb d_La_sigsOf_74 (lv_at hl 1 rfl) ?_
        refine lv_iadd hx hb d_La_sigsOf_76 ?_
        refine lv_topi (fun v4 ev => ?_)
        have hf := bn ev hf
        clear ev
        refine lv_istore (lv' := [(4, .int v4), (5, .int v2), (0, .ref o), (2, .int x2), (3, .int x3)]) hx hb d_La_sigsOf_77 hl (by decide) rfl (fun ls hl => ?_)
        refine lv_goto (tgt := 123) hx hb d_La_sigsOf_79 (by decide) ?_
        exact wb_La_sigsOf_123 (fu := fu) F hk_5 _ _ _ _ hf _ _ _ hP hD hS (lv_sub hl [2, 3, 4, 0] rfl)
    · have hf := ifp cx hf
      refine lv_iload hx hb d_La_sigsOf_34 (lv_at hl 0 rfl) ?_
      refine lv_iload hx hb d_La_sigsOf_36 (lv_at hl 0 rfl) ?_
      refine lv_iload_n hx hb d_La_sigsOf_38 rfl (lv_at hl 3 rfl) ?_
      refine lv_icmp_ge (tgt := 58) hx hb d_La_sigsOf_39 (by decide) (fun cx => ?_) (fun cx => ?_)
      · have hf := ifp cx hf
        refine lv_iconst (v := 1) hx hb d_La_sigsOf_58 (by decide) ?_
        exact wb_La_sigsOf_59 (fu := fu) F hk_5 _ _ _ _ _ hf _ _ _ hP hD hS (lv_sub hl [2, 3, 4] rfl)
      · have hf := ifn cx hf
        refine lv_iconst (v := 1) hx hb d_La_sigsOf_42 (by decide) ?_
        refine lv_aload_n hx hb d_La_sigsOf_43 rfl (lv_at hl 2 rfl) ?_
        refine va_get (D := D) (ci := 4) (v := .ref a_raw) (C := "CoinKeeper$Layout") (T := F_4) (N := 15) hx hb hts i_4 hown hK hP 0 rfl rfl 0 (by decide) (hts _ gw_269) (fun _ h9 => h9) rfl d_La_sigsOf_44 ?_
        refine lv_iload hx hb d_La_sigsOf_47 (lv_at hl 0 rfl) ?_
        obtain ⟨hg, hf⟩ := gdp hf
        refine va_bald hx hb hK hP 1 0 rfl rfl (inb_in hg) d_La_sigsOf_49 ?_
        refine lv_topi (fun v5 ev => ?_)
        have hf := bn ev hf
        clear ev
        refine lv_sipush (v := 255) hx hb d_La_sigsOf_50 (by decide) ?_
        refine lv_iand hx hb d_La_sigsOf_53 ?_
        refine lv_iadd hx hb d_La_sigsOf_54 ?_
        refine lv_goto (tgt := 59) hx hb d_La_sigsOf_55 (by decide) ?_
        exact wb_La_sigsOf_59 (fu := fu) F hk_5 _ _ _ _ _ hf _ _ _ hP hD hS (lv_sub hl [2, 3, 4] rfl)
theorem w_La_sigsOf_5 {p : Program} {l : Launch} {e : Env} {s : State} {m : MethodId} {args : Array Value} {below : List Frame} {meth : Method} {c : Code} {D : va_G} {cy : Nat → ClassId} {A : Nat → Prop} {ad : Nat → Nat} {o : Nat} {v_a_txAt : Value} {v_a_firstIn : Value} {v_a_firstOut : Value} {v_a_inAt : Value} {v_a_inScript : Value} {v_a_inEnd : Value} {v_a_outAt : Value} {v_a_outScript : Value} {v_a_outEnd : Value} {a_raw : Nat} {i_txs : Int32} {i_end : Int32} {i_at : Int32} {i_ins : Int32} {i_outs : Int32} {n_raw : Nat} {g_raw : Nat → Int32} {fu : Nat} (F : Fx p s m args meth c b_La_sigsOf 6 "CoinKeeper$Layout" "sigsOf" (some .int) D cy ad A) : ∀ n : Nat, I_La_sigsOf_5 p l e s m args below meth c D cy A ad o v_a_txAt v_a_firstIn v_a_firstOut v_a_inAt v_a_inScript v_a_inEnd v_a_outAt v_a_outScript v_a_outEnd a_raw i_txs i_end i_at i_ins i_outs n_raw g_raw (x_La_sigsOf_5 fu i_txs i_end i_at i_ins i_outs n_raw g_raw n)
  | 0 => fun _ _ _ _ hf => nomatch (show (none : Option (Int32)) = some _ from hf)
  | n + 1 => wb_La_sigsOf_5 F (w_La_sigsOf_5 F n)
set_option maxHeartbeats 8000000 in
set_option maxRecDepth 100000 in
theorem we_La_sigsOf {p : Program} {l : Launch} {e : Env} {s : State} {m : MethodId} {args : Array Value} {below : List Frame} {meth : Method} {c : Code} {D : va_G} {cy : Nat → ClassId} {A : Nat → Prop} {ad : Nat → Nat} {o : Nat} {v_a_txAt : Value} {v_a_firstIn : Value} {v_a_firstOut : Value} {v_a_inAt : Value} {v_a_inScript : Value} {v_a_inEnd : Value} {v_a_outAt : Value} {v_a_outScript : Value} {v_a_outEnd : Value} {a_raw : Nat} {i_txs : Int32} {i_end : Int32} {i_at : Int32} {i_ins : Int32} {i_outs : Int32} {n_raw : Nat} {g_raw : Nat → Int32} {fu : Nat} (F : Fx p s m args meth c b_La_sigsOf 6 "CoinKeeper$Layout" "sigsOf" (some .int) D cy ad A) : I_La_sigsOf_e p l e s m args below meth c D cy A ad o v_a_txAt v_a_firstIn v_a_firstOut v_a_inAt v_a_inScript v_a_inEnd v_a_outAt v_a_outScript v_a_outEnd a_raw i_txs i_end i_at i_ins i_outs n_raw g_raw (x_La_sigsOf fu i_txs i_end i_at i_ins i_outs n_raw g_raw) := by
  obtain ⟨hx, hb, hr, hml, hown, hts, hlocks, hK, hA, hSt, hnm, hex⟩ := id F
  intro a1 a2 res hf H locs ls hP hD hS hl
  unfold x_La_sigsOf at hf
  refine lv_iconst (v := 0) hx hb d_La_sigsOf_0 (by decide) ?_
  refine lv_istore_n (lv' := [(3, .int (0 : Int32)), (0, .ref o), (1, .int a1), (2, .int a2)]) hx hb d_La_sigsOf_1 rfl hl (by decide) rfl (fun ls hl => ?_)
  refine lv_iload_n hx hb d_La_sigsOf_2 rfl (lv_at hl 2 rfl) ?_
  refine lv_istore (lv' := [(4, .int a1), (3, .int (0 : Int32)), (0, .ref o), (1, .int a1), (2, .int a2)]) hx hb d_La_sigsOf_3 hl (by decide) rfl (fun ls hl => ?_)
  exact w_La_sigsOf_5 F fu _ _ _ _ hf _ _ _ hP hD hS (lv_sub hl [2, 4, 1, 0] rfl)
theorem c_La_sigsOf (l : Launch) (D : va_G) (cy : Nat → ClassId) (ad : Nat → Nat) (fu : Nat) (o : Nat) (v_a_txAt : Value) (v_a_firstIn : Value) (v_a_firstOut : Value) (v_a_inAt : Value) (v_a_inScript : Value) (v_a_inEnd : Value) (v_a_outAt : Value) (v_a_outScript : Value) (v_a_outEnd : Value) (a_raw : Nat) (i_txs : Int32) (i_end : Int32) (i_at : Int32) (i_ins : Int32) (i_outs : Int32) (n_raw : Nat) (g_raw : Nat → Int32) (a1 : Int32) (a2 : Int32) (res : Int32) (hf : x_La_sigsOf fu i_txs i_end i_at i_ins i_outs n_raw g_raw a1 a2 = some res) (sz : Nat) : Met l ({ cls := "CoinKeeper$Layout", name := "sigsOf", desc := "(II)I" } : Jvm.MethodName) (.code ({ cls := "CoinKeeper$Layout", name := "sigsOf", desc := "(II)I" } : Jvm.MethodName) b_La_sigsOf 6 (some .int) :: gw) rm_La_sigsOf (va_Pc [.ref o, .int a1, .int a2] (Pr D cy ad [(o, .inr (4, [.ref a_raw, .int i_txs, v_a_txAt, v_a_firstIn, v_a_firstOut, v_a_inAt, v_a_inScript, v_a_inEnd, v_a_outAt, v_a_outScript, v_a_outEnd, .int i_end, .int i_at, .int i_ins, .int i_outs])), (a_raw, .inl (cy 0, n_raw, .inl g_raw))] sz)) (q_La_sigsOf D cy (va_A [(o, .inr (4, [.ref a_raw, .int i_txs, v_a_txAt, v_a_firstIn, v_a_firstOut, v_a_inAt, v_a_inScript, v_a_inEnd, v_a_outAt, v_a_outScript, v_a_outEnd, .int i_end, .int i_at, .int i_ins, .int i_outs])), (a_raw, .inl (cy 0, n_raw, .inl g_raw))] sz) o v_a_txAt v_a_firstIn v_a_firstOut v_a_inAt v_a_inScript v_a_inEnd v_a_outAt v_a_outScript v_a_outEnd a_raw i_txs i_end i_at i_ins i_outs n_raw g_raw res) 0 0 (va_A [(o, .inr (4, [.ref a_raw, .int i_txs, v_a_txAt, v_a_firstIn, v_a_firstOut, v_a_inAt, v_a_inScript, v_a_inEnd, v_a_outAt, v_a_outScript, v_a_outEnd, .int i_end, .int i_at, .int i_ins, .int i_outs])), (a_raw, .inl (cy 0, n_raw, .inl g_raw))] sz) :=
  q_met (Qc := fun A => q_La_sigsOf D cy A o v_a_txAt v_a_firstIn v_a_firstOut v_a_inAt v_a_inScript v_a_inEnd v_a_outAt v_a_outScript v_a_outEnd a_raw i_txs i_end i_at i_ins i_outs n_raw g_raw res) (by decide) rfl rfl (Nat.le_of_ble_eq_true rfl) (fun p e s m below meth c ls F hP hD hS hl => we_La_sigsOf (fu := fu) F a1 a2 res hf _ _ _ hP hD hS hl) sz
