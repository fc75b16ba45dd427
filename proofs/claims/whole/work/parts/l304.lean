abbrev b_M_count2 : ByteArray := prog_14_method_89_code
theorem d_M_count2_0 : decode b_M_count2 0 = .ok (.aload_n 0, 1) := by decide +kernel
theorem d_M_count2_1 : decode b_M_count2 1 = .ok (.iload_n 1, 1) := by decide +kernel
theorem d_M_count2_2 : decode b_M_count2 2 = .ok (.ifCond .lt 8, 3) := by decide +kernel
theorem d_M_count2_5 : decode b_M_count2 5 = .ok (.iload_n 1, 1) := by decide +kernel
theorem d_M_count2_6 : decode b_M_count2 6 = .ok (.iconst 5, 1) := by decide +kernel
theorem d_M_count2_7 : decode b_M_count2 7 = .ok (.if_icmp .le 7, 3) := by decide +kernel
theorem d_M_count2_10 : decode b_M_count2 10 = .ok (.iconst 1, 1) := by decide +kernel
theorem d_M_count2_11 : decode b_M_count2 11 = .ok (.goto 4, 3) := by decide +kernel
theorem d_M_count2_14 : decode b_M_count2 14 = .ok (.iconst 0, 1) := by decide +kernel
theorem d_M_count2_15 : decode b_M_count2 15 = .ok (.putfield 268, 3) := by decide +kernel
theorem d_M_count2_18 : decode b_M_count2 18 = .ok (.aload_n 0, 1) := by decide +kernel
theorem d_M_count2_19 : decode b_M_count2 19 = .ok (.getfield 268, 3) := by decide +kernel
theorem d_M_count2_22 : decode b_M_count2 22 = .ok (.ifCond .le 5, 3) := by decide +kernel
theorem d_M_count2_25 : decode b_M_count2 25 = .ok (.lconst 0, 1) := by decide +kernel
theorem d_M_count2_26 : decode b_M_count2 26 = .ok (.lreturn, 1) := by decide +kernel
theorem d_M_count2_27 : decode b_M_count2 27 = .ok (.lconst 0, 1) := by decide +kernel
theorem d_M_count2_28 : decode b_M_count2 28 = .ok (.lstore_n 2, 1) := by decide +kernel
theorem d_M_count2_29 : decode b_M_count2 29 = .ok (.iload_n 1, 1) := by decide +kernel
theorem d_M_count2_30 : decode b_M_count2 30 = .ok (.tableswitch 167 0 4 #[34, 42, 76, 76, 130], 34) := by decide +kernel
theorem d_M_count2_64 : decode b_M_count2 64 = .ok (.aload_n 0, 1) := by decide +kernel
theorem d_M_count2_65 : decode b_M_count2 65 = .ok (.getfield 252, 3) := by decide +kernel
theorem d_M_count2_68 : decode b_M_count2 68 = .ok (.iconst 1, 1) := by decide +kernel
theorem d_M_count2_69 : decode b_M_count2 69 = .ok (.isub, 1) := by decide +kernel
theorem d_M_count2_70 : decode b_M_count2 70 = .ok (.i2l, 1) := by decide +kernel
theorem d_M_count2_71 : decode b_M_count2 71 = .ok (.lreturn, 1) := by decide +kernel
theorem d_M_count2_72 : decode b_M_count2 72 = .ok (.iconst 1, 1) := by decide +kernel
theorem d_M_count2_73 : decode b_M_count2 73 = .ok (.istore 4, 2) := by decide +kernel
theorem d_M_count2_75 : decode b_M_count2 75 = .ok (.iload 4, 2) := by decide +kernel
theorem d_M_count2_77 : decode b_M_count2 77 = .ok (.aload_n 0, 1) := by decide +kernel
theorem d_M_count2_78 : decode b_M_count2 78 = .ok (.getfield 252, 3) := by decide +kernel
theorem d_M_count2_81 : decode b_M_count2 81 = .ok (.if_icmp .ge 23, 3) := by decide +kernel
theorem d_M_count2_84 : decode b_M_count2 84 = .ok (.aload_n 0, 1) := by decide +kernel
theorem d_M_count2_85 : decode b_M_count2 85 = .ok (.getfield 45, 3) := by decide +kernel
theorem d_M_count2_88 : decode b_M_count2 88 = .ok (.iload 4, 2) := by decide +kernel
theorem d_M_count2_90 : decode b_M_count2 90 = .ok (.baload, 1) := by decide +kernel
theorem d_M_count2_91 : decode b_M_count2 91 = .ok (.ifCond .eq 7, 3) := by decide +kernel
theorem d_M_count2_94 : decode b_M_count2 94 = .ok (.lload_n 2, 1) := by decide +kernel
theorem d_M_count2_95 : decode b_M_count2 95 = .ok (.lconst 1, 1) := by decide +kernel
theorem d_M_count2_96 : decode b_M_count2 96 = .ok (.ladd, 1) := by decide +kernel
theorem d_M_count2_97 : decode b_M_count2 97 = .ok (.lstore_n 2, 1) := by decide +kernel
theorem d_M_count2_98 : decode b_M_count2 98 = .ok (.iinc 4 1, 3) := by decide +kernel
theorem d_M_count2_101 : decode b_M_count2 101 = .ok (.goto (-26), 3) := by decide +kernel
theorem d_M_count2_104 : decode b_M_count2 104 = .ok (.lload_n 2, 1) := by decide +kernel
theorem d_M_count2_105 : decode b_M_count2 105 = .ok (.lreturn, 1) := by decide +kernel
theorem d_M_count2_106 : decode b_M_count2 106 = .ok (.iconst 0, 1) := by decide +kernel
theorem d_M_count2_107 : decode b_M_count2 107 = .ok (.istore 4, 2) := by decide +kernel
theorem d_M_count2_109 : decode b_M_count2 109 = .ok (.iload 4, 2) := by decide +kernel
theorem d_M_count2_111 : decode b_M_count2 111 = .ok (.aload_n 0, 1) := by decide +kernel
theorem d_M_count2_112 : decode b_M_count2 112 = .ok (.getfield 635, 3) := by decide +kernel
theorem d_M_count2_115 : decode b_M_count2 115 = .ok (.if_icmp .ge 43, 3) := by decide +kernel
theorem d_M_count2_118 : decode b_M_count2 118 = .ok (.aload_n 0, 1) := by decide +kernel
theorem d_M_count2_119 : decode b_M_count2 119 = .ok (.getfield 114, 3) := by decide +kernel
theorem d_M_count2_122 : decode b_M_count2 122 = .ok (.iload 4, 2) := by decide +kernel
theorem d_M_count2_124 : decode b_M_count2 124 = .ok (.baload, 1) := by decide +kernel
theorem d_M_count2_125 : decode b_M_count2 125 = .ok (.ifCond .eq 27, 3) := by decide +kernel
theorem d_M_count2_128 : decode b_M_count2 128 = .ok (.lload_n 2, 1) := by decide +kernel
theorem d_M_count2_129 : decode b_M_count2 129 = .ok (.iload_n 1, 1) := by decide +kernel
theorem d_M_count2_130 : decode b_M_count2 130 = .ok (.iconst 2, 1) := by decide +kernel
theorem d_M_count2_131 : decode b_M_count2 131 = .ok (.if_icmp .ne 7, 3) := by decide +kernel
theorem d_M_count2_134 : decode b_M_count2 134 = .ok (.lconst 1, 1) := by decide +kernel
theorem d_M_count2_135 : decode b_M_count2 135 = .ok (.goto 15, 3) := by decide +kernel
theorem d_M_count2_138 : decode b_M_count2 138 = .ok (.aload_n 0, 1) := by decide +kernel
theorem d_M_count2_139 : decode b_M_count2 139 = .ok (.getfield 88, 3) := by decide +kernel
theorem d_M_count2_142 : decode b_M_count2 142 = .ok (.aload_n 0, 1) := by decide +kernel
theorem d_M_count2_143 : decode b_M_count2 143 = .ok (.getfield 101, 3) := by decide +kernel
theorem d_M_count2_146 : decode b_M_count2 146 = .ok (.iload 4, 2) := by decide +kernel
theorem d_M_count2_148 : decode b_M_count2 148 = .ok (.iaload, 1) := by decide +kernel
theorem d_M_count2_149 : decode b_M_count2 149 = .ok (.laload, 1) := by decide +kernel
theorem d_M_count2_150 : decode b_M_count2 150 = .ok (.ladd, 1) := by decide +kernel
theorem d_M_count2_151 : decode b_M_count2 151 = .ok (.lstore_n 2, 1) := by decide +kernel
theorem d_M_count2_152 : decode b_M_count2 152 = .ok (.iinc 4 1, 3) := by decide +kernel
theorem d_M_count2_155 : decode b_M_count2 155 = .ok (.goto (-46), 3) := by decide +kernel
theorem d_M_count2_158 : decode b_M_count2 158 = .ok (.lload_n 2, 1) := by decide +kernel
theorem d_M_count2_159 : decode b_M_count2 159 = .ok (.lreturn, 1) := by decide +kernel
theorem d_M_count2_160 : decode b_M_count2 160 = .ok (.aload_n 0, 1) := by decide +kernel
theorem d_M_count2_161 : decode b_M_count2 161 = .ok (.getfield 42, 3) := by decide +kernel
theorem d_M_count2_164 : decode b_M_count2 164 = .ok (.bipush 8, 2) := by decide +kernel
theorem d_M_count2_166 : decode b_M_count2 166 = .ok (.aload_n 0, 1) := by decide +kernel
theorem d_M_count2_167 : decode b_M_count2 167 = .ok (.getfield 669, 3) := by decide +kernel
theorem d_M_count2_170 : decode b_M_count2 170 = .ok (.imul, 1) := by decide +kernel
theorem d_M_count2_171 : decode b_M_count2 171 = .ok (.iconst 1, 1) := by decide +kernel
theorem d_M_count2_172 : decode b_M_count2 172 = .ok (.iadd, 1) := by decide +kernel
theorem d_M_count2_173 : decode b_M_count2 173 = .ok (.iaload, 1) := by decide +kernel
theorem d_M_count2_174 : decode b_M_count2 174 = .ok (.i2l, 1) := by decide +kernel
theorem d_M_count2_175 : decode b_M_count2 175 = .ok (.bipush 32, 2) := by decide +kernel
theorem d_M_count2_177 : decode b_M_count2 177 = .ok (.lshl, 1) := by decide +kernel
theorem d_M_count2_178 : decode b_M_count2 178 = .ok (.aload_n 0, 1) := by decide +kernel
theorem d_M_count2_179 : decode b_M_count2 179 = .ok (.getfield 42, 3) := by decide +kernel
theorem d_M_count2_182 : decode b_M_count2 182 = .ok (.bipush 8, 2) := by decide +kernel
theorem d_M_count2_184 : decode b_M_count2 184 = .ok (.aload_n 0, 1) := by decide +kernel
theorem d_M_count2_185 : decode b_M_count2 185 = .ok (.getfield 669, 3) := by decide +kernel
theorem d_M_count2_188 : decode b_M_count2 188 = .ok (.imul, 1) := by decide +kernel
theorem d_M_count2_189 : decode b_M_count2 189 = .ok (.iaload, 1) := by decide +kernel
theorem d_M_count2_190 : decode b_M_count2 190 = .ok (.i2l, 1) := by decide +kernel
theorem d_M_count2_191 : decode b_M_count2 191 = .ok (.ldc2_w 332, 3) := by decide +kernel
theorem d_M_count2_194 : decode b_M_count2 194 = .ok (.land, 1) := by decide +kernel
theorem d_M_count2_195 : decode b_M_count2 195 = .ok (.lor, 1) := by decide +kernel
theorem d_M_count2_196 : decode b_M_count2 196 = .ok (.lreturn, 1) := by decide +kernel
theorem d_M_count2_197 : decode b_M_count2 197 = .ok (.aload_n 0, 1) := by decide +kernel
theorem d_M_count2_198 : decode b_M_count2 198 = .ok (.getfield 656, 3) := by decide +kernel
theorem d_M_count2_201 : decode b_M_count2 201 = .ok (.i2l, 1) := by decide +kernel
theorem d_M_count2_202 : decode b_M_count2 202 = .ok (.lreturn, 1) := by decide +kernel
abbrev rm_M_count2 : Room := { frames := 0, cells := 0, slots := 0, locals := 0 }
abbrev q_M_count2 (D : va_G) (cy : Nat → ClassId) (A : Nat → Prop) (o : Nat) (q : Nat → Nat) (g_work : Nat → Int32) (g_isBad : Nat → Int32) (g_oValue : Nat → Int64) (g_uOutput : Nat → Int32) (g_uIs : Nat → Int32) (res : Int64 × (Nat → Int32)) : Array Value → State → Outcome → State → Prop := va_Ql (fun r' (_ : Unit) => r' = res.1) (fun _ t => Po D cy A [(o, .inr (12, mo q res.2)), ((q 10), .inl (cy 1, 1616, .inl g_work)), ((q 11), .inl (cy 3, 202, .inl g_isBad)), ((q 25), .inl (cy 2, 11600, .inr (.inl g_oValue))), ((q 29), .inl (cy 1, 11600, .inl g_uOutput)), ((q 33), .inl (cy 3, 11600, .inl g_uIs))] t) A
def I_M_count2_98 (p : Program) (l : Launch) (e : Env) (s : State) (m : MethodId) (args : Array Value) (below : List Frame) (meth : Method) (c : Code) (D : va_G) (cy : Nat → ClassId) (A : Nat → Prop) (ad : Nat → Nat) (o : Nat) (q : Nat → Nat) (g_work : Nat → Int32) (g_isBad : Nat → Int32) (g_oValue : Nat → Int64) (g_uOutput : Nat → Int32) (g_uIs : Nat → Int32) (k : Int64 → Int32 → (Nat → Int32) → Option (Int64 × (Nat → Int32))) : Prop :=
  ∀ (x2 : Int64) (x4 : Int32) (u0 : Nat → Int32) (res : Int64 × (Nat → Int32)), k x2 x4 u0 = some res → ∀ (H : Heap) (locs : List Loc) (ls : Array Slot), va_P D classes [(o, .inr (12, mo q u0)), ((q 10), .inl (cy 1, 1616, .inl g_work)), ((q 11), .inl (cy 3, 202, .inl g_isBad)), ((q 25), .inl (cy 2, 11600, .inr (.inl g_oValue))), ((q 29), .inl (cy 1, 11600, .inl g_uOutput)), ((q 33), .inl (cy 3, 11600, .inl g_uIs))] H → va_D A [(o, .inr (12, mo q u0)), ((q 10), .inl (cy 1, 1616, .inl g_work)), ((q 11), .inl (cy 3, 202, .inl g_isBad)), ((q 25), .inl (cy 2, 11600, .inr (.inl g_oValue))), ((q 29), .inl (cy 1, 11600, .inl g_uOutput)), ((q 33), .inl (cy 3, 11600, .inl g_uIs))] → va_S A s.heap H locs → lv_has ls 5 [(0, .ref o), (2, .long x2), (4, .int x4)] → W p l e rm_M_count2 s m args below meth c H locs 0 0 (MQ below (q_M_count2 D cy A o q g_work g_isBad g_oValue g_uOutput g_uIs res) args s 0 0 A) (F0 m 98 ls [])
def I_M_count2_75 (p : Program) (l : Launch) (e : Env) (s : State) (m : MethodId) (args : Array Value) (below : List Frame) (meth : Method) (c : Code) (D : va_G) (cy : Nat → ClassId) (A : Nat → Prop) (ad : Nat → Nat) (o : Nat) (q : Nat → Nat) (g_work : Nat → Int32) (g_isBad : Nat → Int32) (g_oValue : Nat → Int64) (g_uOutput : Nat → Int32) (g_uIs : Nat → Int32) (k : Int64 → Int32 → (Nat → Int32) → Option (Int64 × (Nat → Int32))) : Prop :=
  ∀ (x2 : Int64) (x4 : Int32) (u0 : Nat → Int32) (res : Int64 × (Nat → Int32)), k x2 x4 u0 = some res → ∀ (H : Heap) (locs : List Loc) (ls : Array Slot), va_P D classes [(o, .inr (12, mo q u0)), ((q 10), .inl (cy 1, 1616, .inl g_work)), ((q 11), .inl (cy 3, 202, .inl g_isBad)), ((q 25), .inl (cy 2, 11600, .inr (.inl g_oValue))), ((q 29), .inl (cy 1, 11600, .inl g_uOutput)), ((q 33), .inl (cy 3, 11600, .inl g_uIs))] H → va_D A [(o, .inr (12, mo q u0)), ((q 10), .inl (cy 1, 1616, .inl g_work)), ((q 11), .inl (cy 3, 202, .inl g_isBad)), ((q 25), .inl (cy 2, 11600, .inr (.inl g_oValue))), ((q 29), .inl (cy 1, 11600, .inl g_uOutput)), ((q 33), .inl (cy 3, 11600, .inl g_uIs))] → va_S A s.heap H locs → lv_has ls 5 [(0, .ref o), (2, .long x2), (4, .int x4)] → W p l e rm_M_count2 s m args below meth c H locs 0 0 (MQ below (q_M_count2 D cy A o q g_work g_isBad g_oValue g_uOutput g_uIs res) args s 0 0 A) (F0 m 75 ls [])
def I_M_count2_152 (p : Program) (l : Launch) (e : Env) (s : State) (m : MethodId) (args : Array Value) (below : List Frame) (meth : Method) (c : Code) (D : va_G) (cy : Nat → ClassId) (A : Nat → Prop) (ad : Nat → Nat) (o : Nat) (q : Nat → Nat) (g_work : Nat → Int32) (g_isBad : Nat → Int32) (g_oValue : Nat → Int64) (g_uOutput : Nat → Int32) (g_uIs : Nat → Int32) (k : Int32 → Int64 → Int32 → (Nat → Int32) → Option (Int64 × (Nat → Int32))) : Prop :=
  ∀ (x1 : Int32) (x2 : Int64) (x4 : Int32) (u0 : Nat → Int32) (res : Int64 × (Nat → Int32)), k x1 x2 x4 u0 = some res → ∀ (H : Heap) (locs : List Loc) (ls : Array Slot), va_P D classes [(o, .inr (12, mo q u0)), ((q 10), .inl (cy 1, 1616, .inl g_work)), ((q 11), .inl (cy 3, 202, .inl g_isBad)), ((q 25), .inl (cy 2, 11600, .inr (.inl g_oValue))), ((q 29), .inl (cy 1, 11600, .inl g_uOutput)), ((q 33), .inl (cy 3, 11600, .inl g_uIs))] H → va_D A [(o, .inr (12, mo q u0)), ((q 10), .inl (cy 1, 1616, .inl g_work)), ((q 11), .inl (cy 3, 202, .inl g_isBad)), ((q 25), .inl (cy 2, 11600, .inr (.inl g_oValue))), ((q 29), .inl (cy 1, 11600, .inl g_uOutput)), ((q 33), .inl (cy 3, 11600, .inl g_uIs))] → va_S A s.heap H locs → lv_has ls 5 [(0, .ref o), (1, .int x1), (2, .long x2), (4, .int x4)] → W p l e rm_M_count2 s m args below meth c H locs 0 0 (MQ below (q_M_count2 D cy A o q g_work g_isBad g_oValue g_uOutput g_uIs res) args s 0 0 A) (F0 m 152 ls [])
def I_M_count2_150 (p : Program) (l : Launch) (e : Env) (s : State) (m : MethodId) (args : Array Value) (below : List Frame) (meth : Method) (c : Code) (D : va_G) (cy : Nat → ClassId) (A : Nat → Prop) (ad : Nat → Nat) (o : Nat) (q : Nat → Nat) (g_work : Nat → Int32) (g_isBad : Nat → Int32) (g_oValue : Nat → Int64) (g_uOutput : Nat → Int32) (g_uIs : Nat → Int32) (k : Int32 → Int32 → Int64 → Int64 → (Nat → Int32) → Option (Int64 × (Nat → Int32))) : Prop :=
  ∀ (x1 : Int32) (x4 : Int32) (y0 : Int64) (y1 : Int64) (u0 : Nat → Int32) (res : Int64 × (Nat → Int32)), k x1 x4 y0 y1 u0 = some res → ∀ (H : Heap) (locs : List Loc) (ls : Array Slot), va_P D classes [(o, .inr (12, mo q u0)), ((q 10), .inl (cy 1, 1616, .inl g_work)), ((q 11), .inl (cy 3, 202, .inl g_isBad)), ((q 25), .inl (cy 2, 11600, .inr (.inl g_oValue))), ((q 29), .inl (cy 1, 11600, .inl g_uOutput)), ((q 33), .inl (cy 3, 11600, .inl g_uIs))] H → va_D A [(o, .inr (12, mo q u0)), ((q 10), .inl (cy 1, 1616, .inl g_work)), ((q 11), .inl (cy 3, 202, .inl g_isBad)), ((q 25), .inl (cy 2, 11600, .inr (.inl g_oValue))), ((q 29), .inl (cy 1, 11600, .inl g_uOutput)), ((q 33), .inl (cy 3, 11600, .inl g_uIs))] → va_S A s.heap H locs → lv_has ls 5 [(0, .ref o), (1, .int x1), (4, .int x4)] → W p l e rm_M_count2 s m args below meth c H locs 0 0 (MQ below (q_M_count2 D cy A o q g_work g_isBad g_oValue g_uOutput g_uIs res) args s 0 0 A) (F0 m 150 ls [.long y0, .long y1])
def I_M_count2_109 (p : Program) (l : Launch) (e : Env) (s : State) (m : MethodId) (args : Array Value) (below : List Frame) (meth : Method) (c : Code) (D : va_G) (cy : Nat → ClassId) (A : Nat → Prop) (ad : Nat → Nat) (o : Nat) (q : Nat → Nat) (g_work : Nat → Int32) (g_isBad : Nat → Int32) (g_oValue : Nat → Int64) (g_uOutput : Nat → Int32) (g_uIs : Nat → Int32) (k : Int32 → Int64 → Int32 → (Nat → Int32) → Option (Int64 × (Nat → Int32))) : Prop :=
  ∀ (x1 : Int32) (x2 : Int64) (x4 : Int32) (u0 : Nat → Int32) (res : Int64 × (Nat → Int32)), k x1 x2 x4 u0 = some res → ∀ (H : Heap) (locs : List Loc) (ls : Array Slot), va_P D classes [(o, .inr (12, mo q u0)), ((q 10), .inl (cy 1, 1616, .inl g_work)), ((q 11), .inl (cy 3, 202, .inl g_isBad)), ((q 25), .inl (cy 2, 11600, .inr (.inl g_oValue))), ((q 29), .inl (cy 1, 11600, .inl g_uOutput)), ((q 33), .inl (cy 3, 11600, .inl g_uIs))] H → va_D A [(o, .inr (12, mo q u0)), ((q 10), .inl (cy 1, 1616, .inl g_work)), ((q 11), .inl (cy 3, 202, .inl g_isBad)), ((q 25), .inl (cy 2, 11600, .inr (.inl g_oValue))), ((q 29), .inl (cy 1, 11600, .inl g_uOutput)), ((q 33), .inl (cy 3, 11600, .inl g_uIs))] → va_S A s.heap H locs → lv_has ls 5 [(0, .ref o), (1, .int x1), (2, .long x2), (4, .int x4)] → W p l e rm_M_count2 s m args below meth c H locs 0 0 (MQ below (q_M_count2 D cy A o q g_work g_isBad g_oValue g_uOutput g_uIs res) args s 0 0 A) (F0 m 109 ls [])
def I_M_count2_106 (p : Program) (l : Launch) (e : Env) (s : State) (m : MethodId) (args : Array Value) (below : List Frame) (meth : Method) (c : Code) (D : va_G) (cy : Nat → ClassId) (A : Nat → Prop) (ad : Nat → Nat) (o : Nat) (q : Nat → Nat) (g_work : Nat → Int32) (g_isBad : Nat → Int32) (g_oValue : Nat → Int64) (g_uOutput : Nat → Int32) (g_uIs : Nat → Int32) (k : Int32 → Int64 → (Nat → Int32) → Option (Int64 × (Nat → Int32))) : Prop :=
  ∀ (x1 : Int32) (x2 : Int64) (u0 : Nat → Int32) (res : Int64 × (Nat → Int32)), k x1 x2 u0 = some res → ∀ (H : Heap) (locs : List Loc) (ls : Array Slot), va_P D classes [(o, .inr (12, mo q u0)), ((q 10), .inl (cy 1, 1616, .inl g_work)), ((q 11), .inl (cy 3, 202, .inl g_isBad)), ((q 25), .inl (cy 2, 11600, .inr (.inl g_oValue))), ((q 29), .inl (cy 1, 11600, .inl g_uOutput)), ((q 33), .inl (cy 3, 11600, .inl g_uIs))] H → va_D A [(o, .inr (12, mo q u0)), ((q 10), .inl (cy 1, 1616, .inl g_work)), ((q 11), .inl (cy 3, 202, .inl g_isBad)), ((q 25), .inl (cy 2, 11600, .inr (.inl g_oValue))), ((q 29), .inl (cy 1, 11600, .inl g_uOutput)), ((q 33), .inl (cy 3, 11600, .inl g_uIs))] → va_S A s.heap H locs → lv_has ls 5 [(0, .ref o), (1, .int x1), (2, .long x2)] → W p l e rm_M_count2 s m args below meth c H locs 0 0 (MQ below (q_M_count2 D cy A o q g_work g_isBad g_oValue g_uOutput g_uIs res) args s 0 0 A) (F0 m 106 ls [])
def I_M_count2_15 (p : Program) (l : Launch) (e : Env) (s : State) (m : MethodId) (args : Array Value) (below : List Frame) (meth : Method) (c : Code) (D : va_G) (cy : Nat → ClassId) (A : Nat → Prop) (ad : Nat → Nat) (o : Nat) (q : Nat → Nat) (g_work : Nat → Int32) (g_isBad : Nat → Int32) (g_oValue : Nat → Int64) (g_uOutput : Nat → Int32) (g_uIs : Nat → Int32) (k : Int32 → Int32 → (Nat → Int32) → Option (Int64 × (Nat → Int32))) : Prop :=
  ∀ (x1 : Int32) (y0 : Int32) (u0 : Nat → Int32) (res : Int64 × (Nat → Int32)), k x1 y0 u0 = some res → ∀ (H : Heap) (locs : List Loc) (ls : Array Slot), va_P D classes [(o, .inr (12, mo q u0)), ((q 10), .inl (cy 1, 1616, .inl g_work)), ((q 11), .inl (cy 3, 202, .inl g_isBad)), ((q 25), .inl (cy 2, 11600, .inr (.inl g_oValue))), ((q 29), .inl (cy 1, 11600, .inl g_uOutput)), ((q 33), .inl (cy 3, 11600, .inl g_uIs))] H → va_D A [(o, .inr (12, mo q u0)), ((q 10), .inl (cy 1, 1616, .inl g_work)), ((q 11), .inl (cy 3, 202, .inl g_isBad)), ((q 25), .inl (cy 2, 11600, .inr (.inl g_oValue))), ((q 29), .inl (cy 1, 11600, .inl g_uOutput)), ((q 33), .inl (cy 3, 11600, .inl g_uIs))] → va_S A s.heap H locs → lv_has ls 5 [(0, .ref o), (1, .int x1)] → W p l e rm_M_count2 s m args below meth c H locs 0 0 (MQ below (q_M_count2 D cy A o q g_work g_isBad g_oValue g_uOutput g_uIs res) args s 0 0 A) (F0 m 15 ls [.int y0, .ref o])
def I_M_count2_10 (p : Program) (l : Launch) (e : Env) (s : State) (m : MethodId) (args : Array Value) (below : List Frame) (meth : Method) (c : Code) (D : va_G) (cy : Nat → ClassId) (A : Nat → Prop) (ad : Nat → Nat) (o : Nat) (q : Nat → Nat) (g_work : Nat → Int32) (g_isBad : Nat → Int32) (g_oValue : Nat → Int64) (g_uOutput : Nat → Int32) (g_uIs : Nat → Int32) (k : Int32 → (Nat → Int32) → Option (Int64 × (Nat → Int32))) : Prop :=
  ∀ (x1 : Int32) (u0 : Nat → Int32) (res : Int64 × (Nat → Int32)), k x1 u0 = some res → ∀ (H : Heap) (locs : List Loc) (ls : Array Slot), va_P D classes [(o, .inr (12, mo q u0)), ((q 10), .inl (cy 1, 1616, .inl g_work)), ((q 11), .inl (cy 3, 202, .inl g_isBad)), ((q 25), .inl (cy 2, 11600, .inr (.inl g_oValue))), ((q 29), .inl (cy 1, 11600, .inl g_uOutput)), ((q 33), .inl (cy 3, 11600, .inl g_uIs))] H → va_D A [(o, .inr (12, mo q u0)), ((q 10), .inl (cy 1, 1616, .inl g_work)), ((q 11), .inl (cy 3, 202, .inl g_isBad)), ((q 25), .inl (cy 2, 11600, .inr (.inl g_oValue))), ((q 29), .inl (cy 1, 11600, .inl g_uOutput)), ((q 33), .inl (cy 3, 11600, .inl g_uIs))] → va_S A s.heap H locs → lv_has ls 5 [(0, .ref o), (1, .int x1)] → W p l e rm_M_count2 s m args below meth c H locs 0 0 (MQ below (q_M_count2 D cy A o q g_work g_isBad g_oValue g_uOutput g_uIs res) args s 0 0 A) (F0 m 10 ls [.ref o])
def I_M_count2_e (p : Program) (l : Launch) (e : Env) (s : State) (m : MethodId) (args : Array Value) (below : List Frame) (meth : Method) (c : Code) (D : va_G) (cy : Nat → ClassId) (A : Nat → Prop) (ad : Nat → Nat) (o : Nat) (q : Nat → Nat) (g_work : Nat → Int32) (g_isBad : Nat → Int32) (g_oValue : Nat → Int64) (g_uOutput : Nat → Int32) (g_uIs : Nat → Int32) (k : Int32 → (Nat → Int32) → Option (Int64 × (Nat → Int32))) : Prop :=
  ∀ (a1 : Int32) (u0 : Nat → Int32) (res : Int64 × (Nat → Int32)), k a1 u0 = some res → ∀ (H : Heap) (locs : List Loc) (ls : Array Slot), va_P D classes [(o, .inr (12, mo q u0)), ((q 10), .inl (cy 1, 1616, .inl g_work)), ((q 11), .inl (cy 3, 202, .inl g_isBad)), ((q 25), .inl (cy 2, 11600, .inr (.inl g_oValue))), ((q 29), .inl (cy 1, 11600, .inl g_uOutput)), ((q 33), .inl (cy 3, 11600, .inl g_uIs))] H → va_D A [(o, .inr (12, mo q u0)), ((q 10), .inl (cy 1, 1616, .inl g_work)), ((q 11), .inl (cy 3, 202, .inl g_isBad)), ((q 25), .inl (cy 2, 11600, .inr (.inl g_oValue))), ((q 29), .inl (cy 1, 11600, .inl g_uOutput)), ((q 33), .inl (cy 3, 11600, .inl g_uIs))] → va_S A s.heap H locs → lv_has ls 5 [(0, .ref o), (1, .int a1)] → W p l e rm_M_count2 s m args below meth c H locs 0 0 (MQ below (q_M_count2 D cy A o q g_work g_isBad g_oValue g_uOutput g_uIs res) args s 0 0 A) (F0 m 0 ls [])
set_option maxHeartbeats 8000000 in
set_option maxRecDepth 100000 in
theorem wb_M_count2_98 {p : Program} {l : Launch} {e : Env} {s : State} {m : MethodId} {args : Array Value} {below : List Frame} {meth : Method} {c : Code} {D : va_G} {cy : Nat → ClassId} {A : Nat → Prop} {ad : Nat → Nat} {o : Nat} {q : Nat → Nat} {g_work : Nat → Int32} {g_isBad : Nat → Int32} {g_oValue : Nat → Int64} {g_uOutput : Nat → Int32} {g_uIs : Nat → Int32} {fu : Nat} {k_75 : Int64 → Int32 → (Nat → Int32) → Option (Int64 × (Nat → Int32))} (F : Fx p s m args meth c b_M_count2 5 "CoinKeeperModel" "count" (some .long) D cy ad A) (hk_75 : I_M_count2_75 p l e s m args below meth c D cy A ad o q g_work g_isBad g_oValue g_uOutput g_uIs k_75) : I_M_count2_98 p l e s m args below meth c D cy A ad o q g_work g_isBad g_oValue g_uOutput g_uIs (xb_M_count2_98 fu g_work g_isBad g_oValue g_uOutput g_uIs k_75) := by
  obtain ⟨hx, hb, hr, hml, hown, hts, hlocks, hK, hA, hSt, hnm, hex⟩ := id F
  intro x2 x4 u0 res hf H locs ls hP hD hS hl
  unfold xb_M_count2_98 at hf
  obtain ⟨v1, ev, hf⟩ := bne hf
  refine lv_iinc (v := v1) (lv' := [(4, .int v1), (0, .ref o), (2, .long x2)]) hx hb d_M_count2_98 hl (k := 2) rfl (by rw [ev]; rfl) (by decide) rfl (fun ls hl => ?_)
  clear ev
  refine lv_goto (tgt := 75) hx hb d_M_count2_101 (by decide) ?_
  exact hk_75 _ _ _ _ hf _ _ _ hP hD hS (lv_sub hl [1, 2, 0] rfl)
set_option maxHeartbeats 8000000 in
set_option maxRecDepth 100000 in
theorem wb_M_count2_75 {p : Program} {l : Launch} {e : Env} {s : State} {m : MethodId} {args : Array Value} {below : List Frame} {meth : Method} {c : Code} {D : va_G} {cy : Nat → ClassId} {A : Nat → Prop} {ad : Nat → Nat} {o : Nat} {q : Nat → Nat} {g_work : Nat → Int32} {g_isBad : Nat → Int32} {g_oValue : Nat → Int64} {g_uOutput : Nat → Int32} {g_uIs : Nat → Int32} {fu : Nat} {k_75 : Int64 → Int32 → (Nat → Int32) → Option (Int64 × (Nat → Int32))} (F : Fx p s m args meth c b_M_count2 5 "CoinKeeperModel" "count" (some .long) D cy ad A) (hk_75 : I_M_count2_75 p l e s m args below meth c D cy A ad o q g_work g_isBad g_oValue g_uOutput g_uIs k_75) : I_M_count2_75 p l e s m args below meth c D cy A ad o q g_work g_isBad g_oValue g_uOutput g_uIs (xb_M_count2_75 fu g_work g_isBad g_oValue g_uOutput g_uIs k_75) := by
  obtain ⟨hx, hb, hr, hml, hown, hts, hlocks, hK, hA, hSt, hnm, hex⟩ := id F
  intro x2 x4 u0 res hf H locs ls hP hD hS hl
  unfold xb_M_count2_75 at hf
  refine lv_iload hx hb d_M_count2_75 (lv_at hl 2 rfl) ?_
  refine lv_aload_n hx hb d_M_count2_77 rfl (lv_at hl 0 rfl) ?_
  refine va_get (D := D) (ci := 12) (v := .int (u0 3)) (C := "CoinKeeperModel") (T := F_12) (N := 98) hx hb hts i_12 hown hK hP 0 rfl rfl 15 (by decide) (hts _ gw_1434) (fun _ h9 => h9) rfl d_M_count2_78 ?_
  refine lv_icmp_ge (tgt := 104) hx hb d_M_count2_81 (by decide) (fun cx => ?_) (fun cx => ?_)
  · have hf := ifp cx hf
    refine lv_lload_n hx hb d_M_count2_104 rfl (lv_at hl 1 rfl) ?_
    obtain rfl := Option.some.inj hf
    exact q_rl hx hb hr hlocks hK hP hD hS d_M_count2_105
  · have hf := ifn cx hf
    refine lv_aload_n hx hb d_M_count2_84 rfl (lv_at hl 0 rfl) ?_
    refine va_get (D := D) (ci := 12) (v := .ref (q 11)) (C := "CoinKeeperModel") (T := F_12) (N := 98) hx hb hts i_12 hown hK hP 0 rfl rfl 14 (by decide) (hts _ gw_1433) (fun _ h9 => h9) rfl d_M_count2_85 ?_
    refine lv_iload hx hb d_M_count2_88 (lv_at hl 2 rfl) ?_
    obtain ⟨hg, hf⟩ := gdp hf
    refine va_zald hx hb hK hP 2 3 rfl rfl (inb_in hg) d_M_count2_90 ?_
    refine lv_topi (fun v1 ev => ?_)
    have hf := bn ev hf
    clear ev
    refine lv_if_eq (tgt := 98) hx hb d_M_count2_91 (by decide) (fun cx => ?_) (fun cx => ?_)
    · have hf := ifp cx hf
      exact wb_M_count2_98 (fu := fu) F hk_75 _ _ _ _ hf _ _ _ hP hD hS (lv_sub hl [0, 1, 2] rfl)
    · have hf := ifn cx hf
      refine lv_lload_n hx hb d_M_count2_94 rfl (lv_at hl 1 rfl) ?_
      refine lv_lconst (v := 1) hx hb d_M_count2_95 (by decide) ?_
      refine lv_ladd hx hb d_M_count2_96 ?_
      refine lv_topl (fun v2 ev => ?_)
      have hf := bn ev hf
      clear ev
      refine lv_lstore_n (lv' := [(2, .long v2), (0, .ref o), (4, .int x4)]) hx hb d_M_count2_97 rfl hl (by decide) rfl (fun ls hl => ?_)
      exact wb_M_count2_98 (fu := fu) F hk_75 _ _ _ _ hf _ _ _ hP hD hS (lv_sub hl [1, 0, 2] rfl)
theorem w_M_count2_75 {p : Program} {l : Launch} {e : Env} {s : State} {m : MethodId} {args : Array Value} {below : List Frame} {meth : Method} {c : Code} {D : va_G} {cy : Nat → ClassId} {A : Nat → Prop} {ad : Nat → Nat} {o : Nat} {q : Nat → Nat} {g_work : Nat → Int32} {g_isBad : Nat → Int32} {g_oValue : Nat → Int64} {g_uOutput : Nat → Int32} {g_uIs : Nat → Int32} {fu : Nat} (F : Fx p s m args meth c b_M_count2 5 "CoinKeeperModel" "count" (some .long) D cy ad A) : ∀ n : Nat, I_M_count2_75 p l e s m args below meth c D cy A ad o q g_work g_isBad g_oValue g_uOutput g_uIs (x_M_count2_75 fu g_work g_isBad g_oValue g_uOutput g_uIs n)
  | 0 => fun _ _ _ _ hf => nomatch (show (none : Option (Int64 × (Nat → Int32))) = some _ from hf)
  | n + 1 => wb_M_count2_75 F (w_M_count2_75 F n)
set_option maxHeartbeats 8000000 in
set_option maxRecDepth 100000 in
theorem wb_M_count2_152 {p : Program} {l : Launch} {e : Env} {s : State} {m : MethodId} {args : Array Value} {below : List Frame} {meth : Method} {c : Code} {D : va_G} {cy : Nat → ClassId} {A : Nat → Prop} {ad : Nat → Nat} {o : Nat} {q : Nat → Nat} {g_work : Nat → Int32} {g_isBad : Nat → Int32} {g_oValue : Nat → Int64} {g_uOutput : Nat → Int32} {g_uIs : Nat → Int32} {fu : Nat} {k_109 : Int32 → Int64 → Int32 → (Nat → Int32) → Option (Int64 × (Nat → Int32))} (F : Fx p s m args meth c b_M_count2 5 "CoinKeeperModel" "count" (some .long) D cy ad A) (hk_109 : I_M_count2_109 p l e s m args below meth c D cy A ad o q g_work g_isBad g_oValue g_uOutput g_uIs k_109) : I_M_count2_152 p l e s m args below meth c D cy A ad o q g_work g_isBad g_oValue g_uOutput g_uIs (xb_M_count2_152 fu g_work g_isBad g_oValue g_uOutput g_uIs k_109) := by
  obtain ⟨hx, hb, hr, hml, hown, hts, hlocks, hK, hA, hSt, hnm, hex⟩ := id F
  intro x1 x2 x4 u0 res hf H locs ls hP hD hS hl
  unfold xb_M_count2_152 at hf
  obtain ⟨v1, ev, hf⟩ := bne hf
  refine lv_iinc (v := v1) (lv' := [(4, .int v1), (0, .ref o), (1, .int x1), (2, .long x2)]) hx hb d_M_count2_152 hl (k := 3) rfl (by rw [ev]; rfl) (by decide) rfl (fun ls hl => ?_)
  clear ev
  refine lv_goto (tgt := 109) hx hb d_M_count2_155 (by decide) ?_
  exact hk_109 _ _ _ _ _ hf _ _ _ hP hD hS (lv_sub hl [1, 2, 3, 0] rfl)
set_option maxHeartbeats 8000000 in
set_option maxRecDepth 100000 in
theorem wb_M_count2_150 {p : Program} {l : Launch} {e : Env} {s : State} {m : MethodId} {args : Array Value} {below : List Frame} {meth : Method} {c : Code} {D : va_G} {cy : Nat → ClassId} {A : Nat → Prop} {ad : Nat → Nat} {o : Nat} {q : Nat → Nat} {g_work : Nat → Int32} {g_isBad : Nat → Int32} {g_oValue : Nat → Int64} {g_uOutput : Nat → Int32} {g_uIs : Nat → Int32} {fu : Nat} {k_109 : Int32 → Int64 → Int32 → (Nat → Int32) → Option (Int64 × (Nat → Int32))} (F : Fx p s m args meth c b_M_count2 5 "CoinKeeperModel" "count" (some .long) D cy ad A) (hk_109 : I_M_count2_109 p l e s m args below meth c D cy A ad o q g_work g_isBad g_oValue g_uOutput g_uIs k_109) : I_M_count2_150 p l e s m args below meth c D cy A ad o q g_work g_isBad g_oValue g_uOutput g_uIs (xb_M_count2_150 fu g_work g_isBad g_oValue g_uOutput g_uIs k_109) := by
  obtain ⟨hx, hb, hr, hml, hown, hts, hlocks, hK, hA, hSt, hnm, hex⟩ := id F
  intro x1 x4 y0 y1 u0 res hf H locs ls hP hD hS hl
  unfold xb_M_count2_150 at hf
  refine lv_ladd hx hb d_M_count2_150 ?_
  refine lv_topl (fun v1 ev => ?_)
  have hf := bn ev hf
  clear ev
  refine lv_lstore_n (lv' := [(2, .long v1), (0, .ref o), (1, .int x1), (4, .int x4)]) hx hb d_M_count2_151 rfl hl (by decide) rfl (fun ls hl => ?_)
  exact wb_M_count2_152 (fu := fu) F hk_109 _ _ _ _ _ hf _ _ _ hP hD hS (lv_sub hl [1, 2, 0, 3] rfl)
set_option maxHeartbeats 8000000 in
set_option maxRecDepth 100000 in
theorem wb_M_count2_109 {p : Program} {l : Launch} {e : Env} {s : State} {m : MethodId} {args : Array Value} {below : List Frame} {meth : Method} {c : Code} {D : va_G} {cy : Nat → ClassId} {A : Nat → Prop} {ad : Nat → Nat} {o : Nat} {q : Nat → Nat} {g_work : Nat → Int32} {g_isBad : Nat → Int32} {g_oValue : Nat → Int64} {g_uOutput : Nat → Int32} {g_uIs : Nat → Int32} {fu : Nat} {k_109 : Int32 → Int64 → Int32 → (Nat → Int32) → Option (Int64 × (Nat → Int32))} (F : Fx p s m args meth c b_M_count2 5 "CoinKeeperModel" "count" (some .long) D cy ad A) (hk_109 : I_M_count2_109 p l e s m args below meth c D cy A ad o q g_work g_isBad g_oValue g_uOutput g_uIs k_109) : I_M_count2_109 p l e s m args below meth c D cy A ad o q g_work g_isBad g_oValue g_uOutput g_uIs (xb_M_count2_109 fu g_work g_isBad g_oValue g_uOutput g_uIs k_109) := by
  obtain ⟨hx, hb, hr, hml, hown, hts, hlocks, hK, hA, hSt, hnm, hex⟩ := id F
  intro x1 x2 x4 u0 res hf H locs ls hP hD hS hl
  unfold xb_M_count2_109 at hf
  refine lv_iload hx hb d_M_count2_109 (lv_at hl 3 rfl) ?_
  refine lv_aload_n hx hb d_M_count2_111 rfl (lv_at hl 0 rfl) ?_
  refine va_get (D := D) (ci := 12) (v := .int (u0 19)) (C := "CoinKeeperModel") (T := F_12) (N := 98) hx hb hts i_12 hown hK hP 0 rfl rfl 95 (by decide) (hts _ gw_1514) (fun _ h9 => h9) rfl d_M_count2_112 ?_
  refine lv_icmp_ge (tgt := 158) hx hb d_M_count2_115 (by decide) (fun cx => ?_) (fun cx => ?_)
  · have hf := ifp cx hf
    refine lv_lload_n hx hb d_M_count2_158 rfl (lv_at hl 2 rfl) ?_
    obtain rfl := Option.some.inj hf
    exact q_rl hx hb hr hlocks hK hP hD hS d_M_count2_159
  · have hf := ifn cx hf
    refine lv_aload_n hx hb d_M_count2_118 rfl (lv_at hl 0 rfl) ?_
    refine va_get (D := D) (ci := 12) (v := .ref (q 33)) (C := "CoinKeeperModel") (T := F_12) (N := 98) hx hb hts i_12 hown hK hP 0 rfl rfl 41 (by decide) (hts _ gw_1460) (fun _ h9 => h9) rfl d_M_count2_119 ?_
    refine lv_iload hx hb d_M_count2_122 (lv_at hl 3 rfl) ?_
    obtain ⟨hg, hf⟩ := gdp hf
    refine va_zald hx hb hK hP 5 3 rfl rfl (inb_in hg) d_M_count2_124 ?_
    refine lv_topi (fun v1 ev => ?_)
    have hf := bn ev hf
    clear ev
    refine lv_if_eq (tgt := 152) hx hb d_M_count2_125 (by decide) (fun cx => ?_) (fun cx => ?_)
    · have hf := ifp cx hf
      exact wb_M_count2_152 (fu := fu) F hk_109 _ _ _ _ _ hf _ _ _ hP hD hS (lv_sub hl [0, 1, 2, 3] rfl)
    · have hf := ifn cx hf
      refine lv_lload_n hx hb d_M_count2_128 rfl (lv_at hl 2 rfl) ?_
      refine lv_iload_n hx hb d_M_count2_129 rfl (lv_at hl 1 rfl) ?_
      refine lv_iconst (v := 2) hx hb d_M_count2_130 (by decide) ?_
      refine lv_icmp_ne (tgt := 138) hx hb d_M_count2_131 (by decide) (fun cx => ?_) (fun cx => ?_)
      · have hf := ifn cx hf
        refine lv_aload_n hx hb d_M_count2_138 rfl (lv_at hl 0 rfl) ?_
        refine va_get (D := D) (ci := 12) (v := .ref (q 25)) (C := "CoinKeeperModel") (T := F_12) (N := 98) hx hb hts i_12 hown hK hP 0 rfl rfl 32 (by decide) (hts _ gw_1451) (fun _ h9 => h9) rfl d_M_count2_139 ?_
        refine lv_aload_n hx hb d_M_count2_142 rfl (lv_at hl 0 rfl) ?_
        refine va_get (D := D) (ci := 12) (v := .ref (q 29)) (C := "CoinKeeperModel") (T := F_12) (N := 98) hx hb hts i_12 hown hK hP 0 rfl rfl 37 (by decide) (hts _ gw_1456) (fun _ h9 => h9) rfl d_M_count2_143 ?_
        refine lv_iload hx hb d_M_count2_146 (lv_at hl 3 rfl) ?_
        obtain ⟨hg, hf⟩ := gdp hf
        refine va_iald hx hb hK hP 4 1 rfl rfl (inb_in hg) d_M_count2_148 ?_
        refine lv_topi (fun v2 ev => ?_)
        have hf := bn ev hf
        clear ev
        obtain ⟨hg, hf⟩ := gdp hf
        refine va_lald hx hb hK hP 3 2 rfl rfl (inb_in hg) d_M_count2_149 ?_
        refine lv_topl (fun v3 ev => ?_)
        have hf := bn ev hf
        clear ev
        exact wb_M_count2_150 (fu := fu) F hk_109 _ _ _ _ _ _ hf _ _ _ hP hD hS (lv_sub hl [0, 1, 3] rfl)
      · have hf := ifp cx hf
        refine lv_lconst (v := 1) hx hb d_M_count2_134 (by decide) ?_
        refine lv_goto (tgt := 150) hx hb d_M_count2_135 (by decide) ?_
        exact wb_M_count2_150 (fu := fu) F hk_109 _ _ _ _ _ _ hf _ _ _ hP hD hS (lv_sub hl [0, 1, 3] rfl)
theorem w_M_count2_109 {p : Program} {l : Launch} {e : Env} {s : State} {m : MethodId} {args : Array Value} {below : List Frame} {meth : Method} {c : Code} {D : va_G} {cy : Nat → ClassId} {A : Nat → Prop} {ad : Nat → Nat} {o : Nat} {q : Nat → Nat} {g_work : Nat → Int32} {g_isBad : Nat → Int32} {g_oValue : Nat → Int64} {g_uOutput : Nat → Int32} {g_uIs : Nat → Int32} {fu : Nat} (F : Fx p s m args meth c b_M_count2 5 "CoinKeeperModel" "count" (some .long) D cy ad A) : ∀ n : Nat, I_M_count2_109 p l e s m args below meth c D cy A ad o q g_work g_isBad g_oValue g_uOutput g_uIs (x_M_count2_109 fu g_work g_isBad g_oValue g_uOutput g_uIs n)
  | 0 => fun _ _ _ _ _ hf => nomatch (show (none : Option (Int64 × (Nat → Int32))) = some _ from hf)
  | n + 1 => wb_M_count2_109 F (w_M_count2_109 F n)
set_option maxHeartbeats 8000000 in
set_option maxRecDepth 100000 in
theorem wb_M_count2_106 {p : Program} {l : Launch} {e : Env} {s : State} {m : MethodId} {args : Array Value} {below : List Frame} {meth : Method} {c : Code} {D : va_G} {cy : Nat → ClassId} {A : Nat → Prop} {ad : Nat → Nat} {o : Nat} {q : Nat → Nat} {g_work : Nat → Int32} {g_isBad : Nat → Int32} {g_oValue : Nat → Int64} {g_uOutput : Nat → Int32} {g_uIs : Nat → Int32} {fu : Nat} (F : Fx p s m args meth c b_M_count2 5 "CoinKeeperModel" "count" (some .long) D cy ad A) : I_M_count2_106 p l e s m args below meth c D cy A ad o q g_work g_isBad g_oValue g_uOutput g_uIs (xb_M_count2_106 fu g_work g_isBad g_oValue g_uOutput g_uIs) := by
  obtain ⟨hx, hb, hr, hml, hown, hts, hlocks, hK, hA, hSt, hnm, hex⟩ := id F
  intro x1 x2 u0 res hf H locs ls hP hD hS hl
  unfold xb_M_count2_106 at hf
  refine lv_iconst (v := 0) hx hb d_M_count2_106 (by decide) ?_
  refine lv_istore (lv' := [(4, .int (0 : Int32)), (0, .ref o), (1, .int x1), (2, .long x2)]) hx hb d_M_count2_107 hl (by decide) rfl (fun ls hl => ?_)
  exact w_M_count2_109 F fu _ _ _ _ _ hf _ _ _ hP hD hS (lv_sub hl [1, 2, 3, 0] rfl)
set_option maxHeartbeats 8000000 in
set_option maxRecDepth 100000 in
theorem wb_M_count2_15 {p : Program} {l : Launch} {e : Env} {s : State} {m : MethodId} {args : Array Value} {below : List Frame} {meth : Method} {c : Code} {D : va_G} {cy : Nat → ClassId} {A : Nat → Prop} {ad : Nat → Nat} {o : Nat} {q : Nat → Nat} {g_work : Nat → Int32} {g_isBad : Nat → Int32} {g_oValue : Nat → Int64} {g_uOutput : Nat → Int32} {g_uIs : Nat → Int32} {fu : Nat} (F : Fx p s m args meth c b_M_count2 5 "CoinKeeperModel" "count" (some .long) D cy ad A) : I_M_count2_15 p l e s m args below meth c D cy A ad o q g_work g_isBad g_oValue g_uOutput g_uIs (xb_M_count2_15 fu g_work g_isBad g_oValue g_uOutput g_uIs) := by
  obtain ⟨hx, hb, hr, hml, hown, hts, hlocks, hK, hA, hSt, hnm, hex⟩ := id F
  intro x1 y0 u0 res hf H locs ls hP hD hS hl
  unfold xb_M_count2_15 at hf
  refine va_put (D := D) (ci := 12) (v := .int y0) (ty := .int) (C := "CoinKeeperModel") (T := F_12) (N := 98) hx hb hts i_12 t_12 t_12_ok n_12 hown hK hP hD hS 0 rfl rfl 4 (by decide) (hts _ gw_1423) (fun _ h9 => h9) rfl (by decide +kernel) rfl rfl (Nat.le_of_ble_eq_true rfl) d_M_count2_15 (fun H locs hP hD hS => ?_)
  obtain ⟨z1, ev, hf⟩ := bne hf
  have hP : va_P D classes [(o, .inr (12, mo q z1)), ((q 10), .inl (cy 1, 1616, .inl g_work)), ((q 11), .inl (cy 3, 202, .inl g_isBad)), ((q 25), .inl (cy 2, 11600, .inr (.inl g_oValue))), ((q 29), .inl (cy 1, 11600, .inl g_uOutput)), ((q 33), .inl (cy 3, 11600, .inl g_uIs))] H := by rw [ev]; exact hP
  have hD : va_D A [(o, .inr (12, mo q z1)), ((q 10), .inl (cy 1, 1616, .inl g_work)), ((q 11), .inl (cy 3, 202, .inl g_isBad)), ((q 25), .inl (cy 2, 11600, .inr (.inl g_oValue))), ((q 29), .inl (cy 1, 11600, .inl g_uOutput)), ((q 33), .inl (cy 3, 11600, .inl g_uIs))] := by rw [ev]; exact hD
  clear ev
  refine lv_aload_n hx hb d_M_count2_18 rfl (lv_at hl 0 rfl) ?_
  refine va_get (D := D) (ci := 12) (v := .int (z1 2)) (C := "CoinKeeperModel") (T := F_12) (N := 98) hx hb hts i_12 hown hK hP 0 rfl rfl 4 (by decide) (hts _ gw_1423) (fun _ h9 => h9) rfl d_M_count2_19 ?_
  refine lv_if_le (tgt := 27) hx hb d_M_count2_22 (by decide) (fun cx => ?_) (fun cx => ?_)
  · have hf := ifp cx hf
    refine lv_lconst (v := 0) hx hb d_M_count2_27 (by decide) ?_
    refine lv_lstore_n (lv' := [(2, .long (0 : Int64)), (0, .ref o), (1, .int x1)]) hx hb d_M_count2_28 rfl hl (by decide) rfl (fun ls hl => ?_)
    refine lv_iload_n hx hb d_M_count2_29 rfl (lv_at hl 2 rfl) ?_
    by_cases cx : x1 = 0
    · have hf := ifp cx hf
      refine lv_tableIn (tgt := 64) (off := 34) hx hb d_M_count2_30 (by rw [cx]; decide) (by rw [cx]; decide) (by rw [cx]; decide +kernel) (by decide) ?_
      refine lv_aload_n hx hb d_M_count2_64 rfl (lv_at hl 1 rfl) ?_
      refine va_get (D := D) (ci := 12) (v := .int (z1 3)) (C := "CoinKeeperModel") (T := F_12) (N := 98) hx hb hts i_12 hown hK hP 0 rfl rfl 15 (by decide) (hts _ gw_1434) (fun _ h9 => h9) rfl d_M_count2_65 ?_
      refine lv_iconst (v := 1) hx hb d_M_count2_68 (by decide) ?_
      refine lv_isub hx hb d_M_count2_69 ?_
      refine lv_i2l hx hb d_M_count2_70 rfl ?_
      refine lv_topl (fun v2 ev => ?_)
      have hf := bn ev hf
      clear ev
      obtain rfl := Option.some.inj hf
      exact q_rl hx hb hr hlocks hK hP hD hS d_M_count2_71
    · have hf := ifn cx hf
      have cn_0 := lv_neT (a := 0) cx (by decide)
      clear cx
      by_cases cx : x1 = 1
      · have hf := ifp cx hf
        refine lv_tableIn (tgt := 72) (off := 42) hx hb d_M_count2_30 (by rw [cx]; decide) (by rw [cx]; decide) (by rw [cx]; decide +kernel) (by decide) ?_
        refine lv_iconst (v := 1) hx hb d_M_count2_72 (by decide) ?_
        refine lv_istore (lv' := [(4, .int (1 : Int32)), (2, .long (0 : Int64)), (0, .ref o), (1, .int x1)]) hx hb d_M_count2_73 hl (by decide) rfl (fun ls hl => ?_)
        exact w_M_count2_75 F fu _ _ _ _ hf _ _ _ hP hD hS (lv_sub hl [2, 1, 0] rfl)
      · have hf := ifn cx hf
        have cn_1 := lv_neT (a := 1) cx (by decide)
        clear cx
        by_cases cx : x1 = 2
        · have hf := ifp cx hf
          refine lv_tableIn (tgt := 106) (off := 76) hx hb d_M_count2_30 (by rw [cx]; decide) (by rw [cx]; decide) (by rw [cx]; decide +kernel) (by decide) ?_
          exact wb_M_count2_106 (fu := fu) F _ _ _ _ hf _ _ _ hP hD hS (lv_sub hl [1, 2, 0] rfl)
        · have hf := ifn cx hf
          have cn_2 := lv_neT (a := 2) cx (by decide)
          clear cx
          by_cases cx : x1 = 3
          · have hf := ifp cx hf
            refine lv_tableIn (tgt := 106) (off := 76) hx hb d_M_count2_30 (by rw [cx]; decide) (by rw [cx]; decide) (by rw [cx]; decide +kernel) (by decide) ?_
            exact wb_M_count2_106 (fu := fu) F _ _ _ _ hf _ _ _ hP hD hS (lv_sub hl [1, 2, 0] rfl)
          · have hf := ifn cx hf
            have cn_3 := lv_neT (a := 3) cx (by decide)
            clear cx
            by_cases cx : x1 = 4
            · have hf := ifp cx hf
              refine lv_tableIn (tgt := 160) (off := 130) hx hb d_M_count2_30 (by rw [cx]; decide) (by rw [cx]; decide) (by rw [cx]; decide +kernel) (by decide) ?_
              refine lv_aload_n hx hb d_M_count2_160 rfl (lv_at hl 1 rfl) ?_
              refine va_get (D := D) (ci := 12) (v := .ref (q 10)) (C := "CoinKeeperModel") (T := F_12) (N := 98) hx hb hts i_12 hown hK hP 0 rfl rfl 13 (by decide) (hts _ gw_1432) (fun _ h9 => h9) rfl d_M_count2_161 ?_
              refine lv_bipush (v := 8) hx hb d_M_count2_164 (by decide) ?_
              refine lv_aload_n hx hb d_M_count2_166 rfl (lv_at hl 1 rfl) ?_
              refine va_get (D := D) (ci := 12) (v := .int (z1 4)) (C := "CoinKeeperModel") (T := F_12) (N := 98) hx hb hts i_12 hown hK hP 0 rfl rfl 16 (by decide) (hts _ gw_1435) (fun _ h9 => h9) rfl d_M_count2_167 ?_
              refine lv_imul hx hb d_M_count2_170 ?_
              refine lv_topi (fun v3 ev => ?_)
              have hf := bn ev hf
              clear ev
              refine lv_iconst (v := 1) hx hb d_M_count2_171 (by decide) ?_
              refine lv_iadd hx hb d_M_count2_172 ?_
              refine lv_topi (fun v4 ev => ?_)
              have hf := bn ev hf
              clear ev
              obtain ⟨hg, hf⟩ := gdp hf
              refine va_iald hx hb hK hP 1 1 rfl rfl (inb_in hg) d_M_count2_173 ?_
              refine lv_topi (fun v5 ev => ?_)
              have hf := bn ev hf
              clear ev
              refine lv_i2l hx hb d_M_count2_174 rfl ?_
              refine lv_topl (fun v6 ev => ?_)
              have hf := bn ev hf
              clear ev
              refine lv_bipush (v := 32) hx hb d_M_count2_175 (by decide) ?_
              refine lv_lshl hx hb d_M_count2_177 rfl ?_
              refine lv_topl (fun v7 ev => ?_)
              have hf := bn ev hf
              clear ev
              refine lv_aload_n hx hb d_M_count2_178 rfl (lv_at hl 1 rfl) ?_
              refine va_get (D := D) (ci := 12) (v := .ref (q 10)) (C := "CoinKeeperModel") (T := F_12) (N := 98) hx hb hts i_12 hown hK hP 0 rfl rfl 13 (by decide) (hts _ gw_1432) (fun _ h9 => h9) rfl d_M_count2_179 ?_
              refine lv_bipush (v := 8) hx hb d_M_count2_182 (by decide) ?_
              refine lv_aload_n hx hb d_M_count2_184 rfl (lv_at hl 1 rfl) ?_
              refine va_get (D := D) (ci := 12) (v := .int (z1 4)) (C := "CoinKeeperModel") (T := F_12) (N := 98) hx hb hts i_12 hown hK hP 0 rfl rfl 16 (by decide) (hts _ gw_1435) (fun _ h9 => h9) rfl d_M_count2_185 ?_
              refine lv_imul hx hb d_M_count2_188 ?_
              refine lv_topi (fun v8 ev => ?_)
              have hf := bn ev hf
              clear ev
              obtain ⟨hg, hf⟩ := gdp hf
              refine va_iald hx hb hK hP 1 1 rfl rfl (inb_in hg) d_M_count2_189 ?_
              refine lv_topi (fun v9 ev => ?_)
              have hf := bn ev hf
              clear ev
              refine lv_i2l hx hb d_M_count2_190 rfl ?_
              refine lv_topl (fun v10 ev => ?_)
              have hf := bn ev hf
              clear ev
              refine lv_ldc2 (v := 4294967295) hx hb hown (hts _ gw_1390) d_M_count2_191 ?_
              refine lv_land hx hb d_M_count2_194 ?_
              refine lv_lor hx hb d_M_count2_195 ?_
              refine lv_topl (fun v11 ev => ?_)
              have hf := bn ev hf
              clear ev
              obtain rfl := Option.some.inj hf
              exact q_rl hx hb hr hlocks hK hP hD hS d_M_count2_196
            · have hf := ifn cx hf
              have cn_4 := lv_neT (a := 4) cx (by decide)
              clear cx
              refine lv_tableOut (tgt := 197) hx hb d_M_count2_30 (by omega) (by decide) ?_
              clear cn_0 cn_1 cn_2 cn_3 cn_4
              refine lv_aload_n hx hb d_M_count2_197 rfl (lv_at hl 1 rfl) ?_
              refine va_get (D := D) (ci := 12) (v := .int (z1 0)) (C := "CoinKeeperModel") (T := F_12) (N := 98) hx hb hts i_12 hown hK hP 0 rfl rfl 2 (by decide) (hts _ gw_1421) (fun _ h9 => h9) rfl d_M_count2_198 ?_
              refine lv_i2l hx hb d_M_count2_201 rfl ?_
              refine lv_topl (fun v12 ev => ?_)
              have hf := bn ev hf
              clear ev
              obtain rfl := Option.some.inj hf
              exact q_rl hx hb hr hlocks hK hP hD hS d_M_count2_202
  · have hf := ifn cx hf
    refine lv_lconst (v := 0) hx hb d_M_count2_25 (by decide) ?_
    obtain rfl := Option.some.inj hf
    exact q_rl hx hb hr hlocks hK hP hD hS d_M_count2_26
set_option maxHeartbeats 8000000 in
set_option maxRecDepth 100000 in
theorem wb_M_count2_10 {p : Program} {l : Launch} {e : Env} {s : State} {m : MethodId} {args : Array Value} {below : List Frame} {meth : Method} {c : Code} {D : va_G} {cy : Nat → ClassId} {A : Nat → Prop} {ad : Nat → Nat} {o : Nat} {q : Nat → Nat} {g_work : Nat → Int32} {g_isBad : Nat → Int32} {g_oValue : Nat → Int64} {g_uOutput : Nat → Int32} {g_uIs : Nat → Int32} {fu : Nat} (F : Fx p s m args meth c b_M_count2 5 "CoinKeeperModel" "count" (some .long) D cy ad A) : I_M_count2_10 p l e s m args below meth c D cy A ad o q g_work g_isBad g_oValue g_uOutput g_uIs (xb_M_count2_10 fu g_work g_isBad g_oValue g_uOutput g_uIs) := by
  obtain ⟨hx, hb, hr, hml, hown, hts, hlocks, hK, hA, hSt, hnm, hex⟩ := id F
  intro x1 u0 res hf H locs ls hP hD hS hl
  unfold xb_M_count2_10 at hf
  refine lv_iconst (v := 1) hx hb d_M_count2_10 (by decide) ?_
  refine lv_goto (tgt := 15) hx hb d_M_count2_11 (by decide) ?_
  exact wb_M_count2_15 (fu := fu) F _ _ _ _ hf _ _ _ hP hD hS (lv_sub hl [0, 1] rfl)
set_option maxHeartbeats 8000000 in
set_option maxRecDepth 100000 in
theorem we_M_count2 {p : Program} {l : Launch} {e : Env} {s : State} {m : MethodId} {args : Array Value} {below : List Frame} {meth : Method} {c : Code} {D : va_G} {cy : Nat → ClassId} {A : Nat → Prop} {ad : Nat → Nat} {o : Nat} {q : Nat → Nat} {g_work : Nat → Int32} {g_isBad : Nat → Int32} {g_oValue : Nat → Int64} {g_uOutput : Nat → Int32} {g_uIs : Nat → Int32} {fu : Nat} (F : Fx p s m args meth c b_M_count2 5 "CoinKeeperModel" "count" (some .long) D cy ad A) : I_M_count2_e p l e s m args below meth c D cy A ad o q g_work g_isBad g_oValue g_uOutput g_uIs (x_M_count2 fu g_work g_isBad g_oValue g_uOutput g_uIs) := by
  obtain ⟨hx, hb, hr, hml, hown, hts, hlocks, hK, hA, hSt, hnm, hex⟩ := id F
  intro a1 u0 res hf H locs ls hP hD hS hl
  unfold x_M_count2 at hf
  refine lv_aload_n hx hb d_M_count2_0 rfl (lv_at hl 0 rfl) ?_
  refine lv_iload_n hx hb d_M_count2_1 rfl (lv_at hl 1 rfl) ?_
  refine lv_if_lt (tgt := 10) hx hb d_M_count2_2 (by decide) (fun cx => ?_) (fun cx => ?_)
  · have hf := ifp cx hf
    exact wb_M_count2_10 (fu := fu) F _ _ _ hf _ _ _ hP hD hS (lv_sub hl [0, 1] rfl)
  · have hf := ifn cx hf
    refine lv_iload_n hx hb d_M_count2_5 rfl (lv_at hl 1 rfl) ?_
    refine lv_iconst (v := 5) hx hb d_M_count2_6 (by decide) ?_
    refine lv_icmp_le (tgt := 14) hx hb d_M_count2_7 (by decide) (fun cx => ?_) (fun cx => ?_)
    · have hf := ifp cx hf
      refine lv_iconst (v := 0) hx hb d_M_count2_14 (by decide) ?_
      exact wb_M_count2_15 (fu := fu) F _ _ _ _ hf _ _ _ hP hD hS (lv_sub hl [0, 1] rfl)
    · have hf := ifn cx hf
      exact wb_M_count2_10 (fu := fu) F _ _ _ hf _ _ _ hP hD hS (lv_sub hl [0, 1] rfl)
theorem c_M_count2 (l : Launch) (D : va_G) (cy : Nat → ClassId) (ad : Nat → Nat) (fu : Nat) (o : Nat) (q : Nat → Nat) (g_work : Nat → Int32) (g_isBad : Nat → Int32) (g_oValue : Nat → Int64) (g_uOutput : Nat → Int32) (g_uIs : Nat → Int32) (a1 : Int32) (u0 : Nat → Int32) (res : Int64 × (Nat → Int32)) (hf : x_M_count2 fu g_work g_isBad g_oValue g_uOutput g_uIs a1 u0 = some res) (sz : Nat) : Met l ({ cls := "CoinKeeperModel", name := "count", desc := "(I)J" } : Jvm.MethodName) (.code ({ cls := "CoinKeeperModel", name := "count", desc := "(I)J" } : Jvm.MethodName) b_M_count2 5 (some .long) :: gw) rm_M_count2 (va_Pc [.ref o, .int a1] (Pr D cy ad [(o, .inr (12, mo q u0)), ((q 10), .inl (cy 1, 1616, .inl g_work)), ((q 11), .inl (cy 3, 202, .inl g_isBad)), ((q 25), .inl (cy 2, 11600, .inr (.inl g_oValue))), ((q 29), .inl (cy 1, 11600, .inl g_uOutput)), ((q 33), .inl (cy 3, 11600, .inl g_uIs))] sz)) (q_M_count2 D cy (va_A [(o, .inr (12, mo q u0)), ((q 10), .inl (cy 1, 1616, .inl g_work)), ((q 11), .inl (cy 3, 202, .inl g_isBad)), ((q 25), .inl (cy 2, 11600, .inr (.inl g_oValue))), ((q 29), .inl (cy 1, 11600, .inl g_uOutput)), ((q 33), .inl (cy 3, 11600, .inl g_uIs))] sz) o q g_work g_isBad g_oValue g_uOutput g_uIs res) 0 0 (va_A [(o, .inr (12, mo q u0)), ((q 10), .inl (cy 1, 1616, .inl g_work)), ((q 11), .inl (cy 3, 202, .inl g_isBad)), ((q 25), .inl (cy 2, 11600, .inr (.inl g_oValue))), ((q 29), .inl (cy 1, 11600, .inl g_uOutput)), ((q 33), .inl (cy 3, 11600, .inl g_uIs))] sz) :=
  q_met (Qc := fun A => q_M_count2 D cy A o q g_work g_isBad g_oValue g_uOutput g_uIs res) (by decide) rfl rfl (Nat.le_of_ble_eq_true rfl) (fun p e s m below meth c ls F hP hD hS hl => we_M_count2 (fu := fu) F a1 u0 res hf _ _ _ hP hD hS hl) sz
abbrev b_M_digest : ByteArray := prog_14_method_90_code
theorem d_M_digest_0 : decode b_M_digest 0 = .ok (.aload_n 0, 1) := by decide +kernel
theorem d_M_digest_1 : decode b_M_digest 1 = .ok (.iconst 0, 1) := by decide +kernel
theorem d_M_digest_2 : decode b_M_digest 2 = .ok (.putfield 268, 3) := by decide +kernel
theorem d_M_digest_5 : decode b_M_digest 5 = .ok (.lconst 0, 1) := by decide +kernel
theorem d_M_digest_6 : decode b_M_digest 6 = .ok (.lstore_n 1, 1) := by decide +kernel
theorem d_M_digest_7 : decode b_M_digest 7 = .ok (.iconst 0, 1) := by decide +kernel
theorem d_M_digest_8 : decode b_M_digest 8 = .ok (.istore_n 3, 1) := by decide +kernel
theorem d_M_digest_9 : decode b_M_digest 9 = .ok (.iload_n 3, 1) := by decide +kernel
theorem d_M_digest_10 : decode b_M_digest 10 = .ok (.aload_n 0, 1) := by decide +kernel
theorem d_M_digest_11 : decode b_M_digest 11 = .ok (.getfield 635, 3) := by decide +kernel
theorem d_M_digest_14 : decode b_M_digest 14 = .ok (.if_icmp .ge 90, 3) := by decide +kernel
theorem d_M_digest_17 : decode b_M_digest 17 = .ok (.aload_n 0, 1) := by decide +kernel
theorem d_M_digest_18 : decode b_M_digest 18 = .ok (.getfield 114, 3) := by decide +kernel
theorem d_M_digest_21 : decode b_M_digest 21 = .ok (.iload_n 3, 1) := by decide +kernel
theorem d_M_digest_22 : decode b_M_digest 22 = .ok (.baload, 1) := by decide +kernel
theorem d_M_digest_23 : decode b_M_digest 23 = .ok (.ifCond .ne 6, 3) := by decide +kernel
theorem d_M_digest_26 : decode b_M_digest 26 = .ok (.goto 72, 3) := by decide +kernel
theorem d_M_digest_29 : decode b_M_digest 29 = .ok (.aload_n 0, 1) := by decide +kernel
theorem d_M_digest_30 : decode b_M_digest 30 = .ok (.getfield 101, 3) := by decide +kernel
theorem d_M_digest_33 : decode b_M_digest 33 = .ok (.iload_n 3, 1) := by decide +kernel
theorem d_M_digest_34 : decode b_M_digest 34 = .ok (.iaload, 1) := by decide +kernel
theorem d_M_digest_35 : decode b_M_digest 35 = .ok (.istore 4, 2) := by decide +kernel
theorem d_M_digest_37 : decode b_M_digest 37 = .ok (.aload_n 0, 1) := by decide +kernel
theorem d_M_digest_38 : decode b_M_digest 38 = .ok (.getfield 98, 3) := by decide +kernel
theorem d_M_digest_41 : decode b_M_digest 41 = .ok (.iload 4, 2) := by decide +kernel
theorem d_M_digest_43 : decode b_M_digest 43 = .ok (.iaload, 1) := by decide +kernel
theorem d_M_digest_44 : decode b_M_digest 44 = .ok (.istore 5, 2) := by decide +kernel
theorem d_M_digest_46 : decode b_M_digest 46 = .ok (.ldc2_w 678, 3) := by decide +kernel
theorem d_M_digest_49 : decode b_M_digest 49 = .ok (.ldc2_w 678, 3) := by decide +kernel
theorem d_M_digest_52 : decode b_M_digest 52 = .ok (.aload_n 0, 1) := by decide +kernel
theorem d_M_digest_53 : decode b_M_digest 53 = .ok (.getfield 55, 3) := by decide +kernel
theorem d_M_digest_56 : decode b_M_digest 56 = .ok (.bipush 8, 2) := by decide +kernel
theorem d_M_digest_58 : decode b_M_digest 58 = .ok (.iload 5, 2) := by decide +kernel
theorem d_M_digest_60 : decode b_M_digest 60 = .ok (.imul, 1) := by decide +kernel
theorem d_M_digest_61 : decode b_M_digest 61 = .ok (.iaload, 1) := by decide +kernel
theorem d_M_digest_62 : decode b_M_digest 62 = .ok (.i2l, 1) := by decide +kernel
theorem d_M_digest_63 : decode b_M_digest 63 = .ok (.lmul, 1) := by decide +kernel
theorem d_M_digest_64 : decode b_M_digest 64 = .ok (.iload 4, 2) := by decide +kernel
theorem d_M_digest_66 : decode b_M_digest 66 = .ok (.aload_n 0, 1) := by decide +kernel
theorem d_M_digest_67 : decode b_M_digest 67 = .ok (.getfield 64, 3) := by decide +kernel
theorem d_M_digest_70 : decode b_M_digest 70 = .ok (.iload 5, 2) := by decide +kernel
theorem d_M_digest_72 : decode b_M_digest 72 = .ok (.iaload, 1) := by decide +kernel
theorem d_M_digest_73 : decode b_M_digest 73 = .ok (.isub, 1) := by decide +kernel
theorem d_M_digest_74 : decode b_M_digest 74 = .ok (.i2l, 1) := by decide +kernel
theorem d_M_digest_75 : decode b_M_digest 75 = .ok (.ladd, 1) := by decide +kernel
theorem d_M_digest_76 : decode b_M_digest 76 = .ok (.lmul, 1) := by decide +kernel
theorem d_M_digest_77 : decode b_M_digest 77 = .ok (.aload_n 0, 1) := by decide +kernel
theorem d_M_digest_78 : decode b_M_digest 78 = .ok (.getfield 88, 3) := by decide +kernel
theorem d_M_digest_81 : decode b_M_digest 81 = .ok (.iload 4, 2) := by decide +kernel
theorem d_M_digest_83 : decode b_M_digest 83 = .ok (.laload, 1) := by decide +kernel
theorem d_M_digest_84 : decode b_M_digest 84 = .ok (.ladd, 1) := by decide +kernel
theorem d_M_digest_85 : decode b_M_digest 85 = .ok (.lstore 6, 2) := by decide +kernel
theorem d_M_digest_87 : decode b_M_digest 87 = .ok (.lload_n 1, 1) := by decide +kernel
theorem d_M_digest_88 : decode b_M_digest 88 = .ok (.lload 6, 2) := by decide +kernel
theorem d_M_digest_90 : decode b_M_digest 90 = .ok (.lload 6, 2) := by decide +kernel
theorem d_M_digest_92 : decode b_M_digest 92 = .ok (.lmul, 1) := by decide +kernel
theorem d_M_digest_93 : decode b_M_digest 93 = .ok (.lload 6, 2) := by decide +kernel
theorem d_M_digest_95 : decode b_M_digest 95 = .ok (.ladd, 1) := by decide +kernel
theorem d_M_digest_96 : decode b_M_digest 96 = .ok (.ladd, 1) := by decide +kernel
theorem d_M_digest_97 : decode b_M_digest 97 = .ok (.lstore_n 1, 1) := by decide +kernel
theorem d_M_digest_98 : decode b_M_digest 98 = .ok (.iinc 3 1, 3) := by decide +kernel
theorem d_M_digest_101 : decode b_M_digest 101 = .ok (.goto (-92), 3) := by decide +kernel
theorem d_M_digest_104 : decode b_M_digest 104 = .ok (.lload_n 1, 1) := by decide +kernel
theorem d_M_digest_105 : decode b_M_digest 105 = .ok (.lreturn, 1) := by decide +kernel
abbrev rm_M_digest : Room := { frames := 0, cells := 0, slots := 0, locals := 0 }
abbrev q_M_digest (D : va_G) (cy : Nat → ClassId) (A : Nat → Prop) (o : Nat) (q : Nat → Nat) (g_tId : Nat → Int32) (g_tOut : Nat → Int32) (g_oValue : Nat → Int64) (g_oTx : Nat → Int32) (g_uOutput : Nat → Int32) (g_uIs : Nat → Int32) (res : Int64 × (Nat → Int32)) : Array Value → State → Outcome → State → Prop := va_Ql (fun r' (_ : Unit) => r' = res.1) (fun _ t => Po D cy A [(o, .inr (12, mo q res.2)), ((q 14), .inl (cy 1, 17600, .inl g_tId)), ((q 17), .inl (cy 1, 2200, .inl g_tOut)), ((q 25), .inl (cy 2, 11600, .inr (.inl g_oValue))), ((q 28), .inl (cy 1, 11600, .inl g_oTx)), ((q 29), .inl (cy 1, 11600, .inl g_uOutput)), ((q 33), .inl (cy 3, 11600, .inl g_uIs))] t) A
def I_M_digest_98 (p : Program) (l : Launch) (e : Env) (s : State) (m : MethodId) (args : Array Value) (below : List Frame) (meth : Method) (c : Code) (D : va_G) (cy : Nat → ClassId) (A : Nat → Prop) (ad : Nat → Nat) (o : Nat) (q : Nat → Nat) (g_tId : Nat → Int32) (g_tOut : Nat → Int32) (g_oValue : Nat → Int64) (g_oTx : Nat → Int32) (g_uOutput : Nat → Int32) (g_uIs : Nat → Int32) (k : Int64 → Int32 → (Nat → Int32) → Option (Int64 × (Nat → Int32))) : Prop :=
  ∀ (x1 : Int64) (x3 : Int32) (u0 : Nat → Int32) (res : Int64 × (Nat → Int32)), k x1 x3 u0 = some res → ∀ (H : Heap) (locs : List Loc) (ls : Array Slot), va_P D classes [(o, .inr (12, mo q u0)), ((q 14), .inl (cy 1, 17600, .inl g_tId)), ((q 17), .inl (cy 1, 2200, .inl g_tOut)), ((q 25), .inl (cy 2, 11600, .inr (.inl g_oValue))), ((q 28), .inl (cy 1, 11600, .inl g_oTx)), ((q 29), .inl (cy 1, 11600, .inl g_uOutput)), ((q 33), .inl (cy 3, 11600, .inl g_uIs))] H → va_D A [(o, .inr (12, mo q u0)), ((q 14), .inl (cy 1, 17600, .inl g_tId)), ((q 17), .inl (cy 1, 2200, .inl g_tOut)), ((q 25), .inl (cy 2, 11600, .inr (.inl g_oValue))), ((q 28), .inl (cy 1, 11600, .inl g_oTx)), ((q 29), .inl (cy 1, 11600, .inl g_uOutput)), ((q 33), .inl (cy 3, 11600, .inl g_uIs))] → va_S A s.heap H locs → lv_has ls 8 [(0, .ref o), (1, .long x1), (3, .int x3)] → W p l e rm_M_digest s m args below meth c H locs 0 0 (MQ below (q_M_digest D cy A o q g_tId g_tOut g_oValue g_oTx g_uOutput g_uIs res) args s 0 0 A) (F0 m 98 ls [])
def I_M_digest_9 (p : Program) (l : Launch) (e : Env) (s : State) (m : MethodId) (args : Array Value) (below : List Frame) (meth : Method) (c : Code) (D : va_G) (cy : Nat → ClassId) (A : Nat → Prop) (ad : Nat → Nat) (o : Nat) (q : Nat → Nat) (g_tId : Nat → Int32) (g_tOut : Nat → Int32) (g_oValue : Nat → Int64) (g_oTx : Nat → Int32) (g_uOutput : Nat → Int32) (g_uIs : Nat → Int32) (k : Int64 → Int32 → (Nat → Int32) → Option (Int64 × (Nat → Int32))) : Prop :=
  ∀ (x1 : Int64) (x3 : Int32) (u0 : Nat → Int32) (res : Int64 × (Nat → Int32)), k x1 x3 u0 = some res → ∀ (H : Heap) (locs : List Loc) (ls : Array Slot), va_P D classes [(o, .inr (12, mo q u0)), ((q 14), .inl (cy 1, 17600, .inl g_tId)), ((q 17), .inl (cy 1, 2200, .inl g_tOut)), ((q 25), .inl (cy 2, 11600, .inr (.inl g_oValue))), ((q 28), .inl (cy 1, 11600, .inl g_oTx)), ((q 29), .inl (cy 1, 11600, .inl g_uOutput)), ((q 33), .inl (cy 3, 11600, .inl g_uIs))] H → va_D A [(o, .inr (12, mo q u0)), ((q 14), .inl (cy 1, 17600, .inl g_tId)), ((q 17), .inl (cy 1, 2200, .inl g_tOut)), ((q 25), .inl (cy 2, 11600, .inr (.inl g_oValue))), ((q 28), .inl (cy 1, 11600, .inl g_oTx)), ((q 29), .inl (cy 1, 11600, .inl g_uOutput)), ((q 33), .inl (cy 3, 11600, .inl g_uIs))] → va_S A s.heap H locs → lv_has ls 8 [(0, .ref o), (1, .long x1), (3, .int x3)] → W p l e rm_M_digest s m args below meth c H locs 0 0 (MQ below (q_M_digest D cy A o q g_tId g_tOut g_oValue g_oTx g_uOutput g_uIs res) args s 0 0 A) (F0 m 9 ls [])
def I_M_digest_e (p : Program) (l : Launch) (e : Env) (s : State) (m : MethodId) (args : Array Value) (below : List Frame) (meth : Method) (c : Code) (D : va_G) (cy : Nat → ClassId) (A : Nat → Prop) (ad : Nat → Nat) (o : Nat) (q : Nat → Nat) (g_tId : Nat → Int32) (g_tOut : Nat → Int32) (g_oValue : Nat → Int64) (g_oTx : Nat → Int32) (g_uOutput : Nat → Int32) (g_uIs : Nat → Int32) (k : (Nat → Int32) → Option (Int64 × (Nat → Int32))) : Prop :=
  ∀ (u0 : Nat → Int32) (res : Int64 × (Nat → Int32)), k u0 = some res → ∀ (H : Heap) (locs : List Loc) (ls : Array Slot), va_P D classes [(o, .inr (12, mo q u0)), ((q 14), .inl (cy 1, 17600, .inl g_tId)), ((q 17), .inl (cy 1, 2200, .inl g_tOut)), ((q 25), .inl (cy 2, 11600, .inr (.inl g_oValue))), ((q 28), .inl (cy 1, 11600, .inl g_oTx)), ((q 29), .inl (cy 1, 11600, .inl g_uOutput)), ((q 33), .inl (cy 3, 11600, .inl g_uIs))] H → va_D A [(o, .inr (12, mo q u0)), ((q 14), .inl (cy 1, 17600, .inl g_tId)), ((q 17), .inl (cy 1, 2200, .inl g_tOut)), ((q 25), .inl (cy 2, 11600, .inr (.inl g_oValue))), ((q 28), .inl (cy 1, 11600, .inl g_oTx)), ((q 29), .inl (cy 1, 11600, .inl g_uOutput)), ((q 33), .inl (cy 3, 11600, .inl g_uIs))] → va_S A s.heap H locs → lv_has ls 8 [(0, .ref o)] → W p l e rm_M_digest s m args below meth c H locs 0 0 (MQ below (q_M_digest D cy A o q g_tId g_tOut g_oValue g_oTx g_uOutput g_uIs res) args s 0 0 A) (F0 m 0 ls [])
set_option maxHeartbeats 8000000 in
set_option maxRecDepth 100000 in
theorem wb_M_digest_98 {p : Program} {l : Launch} {e : Env} {s : State} {m : MethodId} {args : Array Value} {below : List Frame} {meth : Method} {c : Code} {D : va_G} {cy : Nat → ClassId} {A : Nat → Prop} {ad : Nat → Nat} {o : Nat} {q : Nat → Nat} {g_tId : Nat → Int32} {g_tOut : Nat → Int32} {g_oValue : Nat → Int64} {g_oTx : Nat → Int32} {g_uOutput : Nat → Int32} {g_uIs : Nat → Int32} {fu : Nat} {k_9 : Int64 → Int32 → (Nat → Int32) → Option (Int64 × (Nat → Int32))} (F : Fx p s m args meth c b_M_digest 8 "CoinKeeperModel" "digest" (some .long) D cy ad A) (hk_9 : I_M_digest_9 p l e s m args below meth c D cy A ad o q g_tId g_tOut g_oValue g_oTx g_uOutput g_uIs k_9) : I_M_digest_98 p l e s m args below meth c D cy A ad o q g_tId g_tOut g_oValue g_oTx g_uOutput g_uIs (xb_M_digest_98 fu g_tId g_tOut g_oValue g_oTx g_uOutput g_uIs k_9) := by
  obtain ⟨hx, hb, hr, hml, hown, hts, hlocks, hK, hA, hSt, hnm, hex⟩ := id F
  intro x1 x3 u0 res hf H locs ls hP hD hS hl
  unfold xb_M_digest_98 at hf
  obtain ⟨v1, ev, hf⟩ := bne hf
  refine lv_iinc (v := v1) (lv' := [(3, .int v1), (0, .ref o), (1, .long x1)]) hx hb d_M_digest_98 hl (k := 2) rfl (by rw [ev]; rfl) (by decide) rfl (fun ls hl => ?_)
  clear ev
  refine lv_goto (tgt := 9) hx hb d_M_digest_101 (by decide) ?_
  exact hk_9 _ _ _ _ hf _ _ _ hP hD hS (lv_sub hl [1, 2, 0] rfl)
set_option maxHeartbeats 8000000 in
set_option maxRecDepth 100000 in
theorem wb_M_digest_9 {p : Program} {l : Launch} {e : Env} {s : State} {m : MethodId} {args : Array Value} {below : List Frame} {meth : Method} {c : Code} {D : va_G} {cy : Nat → ClassId} {A : Nat → Prop} {ad : Nat → Nat} {o : Nat} {q : Nat → Nat} {g_tId : Nat → Int32} {g_tOut : Nat → Int32} {g_oValue : Nat → Int64} {g_oTx : Nat → Int32} {g_uOutput : Nat → Int32} {g_uIs : Nat → Int32} {fu : Nat} {k_9 : Int64 → Int32 → (Nat → Int32) → Option (Int64 × (Nat → Int32))} (F : Fx p s m args meth c b_M_digest 8 "CoinKeeperModel" "digest" (some .long) D cy ad A) (hk_9 : I_M_digest_9 p l e s m args below meth c D cy A ad o q g_tId g_tOut g_oValue g_oTx g_uOutput g_uIs k_9) : I_M_digest_9 p l e s m args below meth c D cy A ad o q g_tId g_tOut g_oValue g_oTx g_uOutput g_uIs (xb_M_digest_9 fu g_tId g_tOut g_oValue g_oTx g_uOutput g_uIs k_9) := by
  obtain ⟨hx, hb, hr, hml, hown, hts, hlocks, hK, hA, hSt, hnm, hex⟩ := id F
  intro x1 x3 u0 res hf H locs ls hP hD hS hl
  unfold xb_M_digest_9 at hf
  refine lv_iload_n hx hb d_M_digest_9 rfl (lv_at hl 2 rfl) ?_
  refine lv_aload_n hx hb d_M_digest_10 rfl (lv_at hl 0 rfl) ?_
  refine va_get (D := D) (ci := 12) (v := .int (u0 19)) (C := "CoinKeeperModel") (T := F_12) (N := 98) hx hb hts i_12 hown hK hP 0 rfl rfl 95 (by decide) (hts _ gw_1514) (fun _ h9 => h9) rfl d_M_digest_11 ?_
  refine lv_icmp_ge (tgt := 104) hx hb d_M_digest_14 (by decide) (fun cx => ?_) (fun cx => ?_)
  · have hf := ifp cx hf
    refine lv_lload_n hx hb d_M_digest_104 rfl (lv_at hl 1 rfl) ?_
    obtain rfl := Option.some.inj hf
    exact q_rl hx hb hr hlocks hK hP hD hS d_M_digest_105
  · have hf := ifn cx hf
    refine lv_aload_n hx hb d_M_digest_17 rfl (lv_at hl 0 rfl) ?_
    refine va_get (D := D) (ci := 12) (v := .ref (q 33)) (C := "CoinKeeperModel") (T := F_12) (N := 98) hx hb hts i_12 hown hK hP 0 rfl rfl 41 (by decide) (hts _ gw_1460) (fun _ h9 => h9) rfl d_M_digest_18 ?_
    refine lv_iload_n hx hb d_M_digest_21 rfl (lv_at hl 2 rfl) ?_
    obtain ⟨hg, hf⟩ := gdp hf
    refine va_zald hx hb hK hP 6 3 rfl rfl (inb_in hg) d_M_digest_22 ?_
    refine lv_topi (fun v1 ev => ?_)
    have hf := bn ev hf
    clear ev
    refine lv_if_ne (tgt := 29) hx hb d_M_digest_23 (by decide) (fun cx => ?_) (fun cx => ?_)
    · have hf := ifn cx hf
      refine lv_aload_n hx hb d_M_digest_29 rfl (lv_at hl 0 rfl) ?_
      refine va_get (D := D) (ci := 12) (v := .ref (q 29)) (C := "CoinKeeperModel") (T := F_12) (N := 98) hx hb hts i_12 hown hK hP 0 rfl rfl 37 (by decide) (hts _ gw_1456) (fun _ h9 => h9) rfl d_M_digest_30 ?_
      refine lv_iload_n hx hb d_M_digest_33 rfl (lv_at hl 2 rfl) ?_
      obtain ⟨hg, hf⟩ := gdp hf
      refine va_iald hx hb hK hP 5 1 rfl rfl (inb_in hg) d_M_digest_34 ?_
      refine lv_topi (fun v2 ev => ?_)
      have hf := bn ev hf
      clear ev
      refine lv_istore (lv' := [(4, .int v2), (0, .ref o), (1, .long x1), (3, .int x3)]) hx hb d_M_digest_35 hl (by decide) rfl (fun ls hl => ?_)
      refine lv_aload_n hx hb d_M_digest_37 rfl (lv_at hl 1 rfl) ?_
      refine va_get (D := D) (ci := 12) (v := .ref (q 28)) (C := "CoinKeeperModel") (T := F_12) (N := 98) hx hb hts i_12 hown hK hP 0 rfl rfl 35 (by decide) (hts _ gw_1454) (fun _ h9 => h9) rfl d_M_digest_38 ?_
      refine lv_iload hx hb d_M_digest_41 (lv_at hl 0 rfl) ?_
      obtain ⟨hg, hf⟩ := gdp hf
      refine va_iald hx hb hK hP 4 1 rfl rfl (inb_in hg) d_M_digest_43 ?_
      refine lv_topi (fun v3 ev => ?_)
      have hf := bn ev hf
      clear ev
      refine lv_istore (lv' := [(5, .int v3), (4, .int v2), (0, .ref o), (1, .long x1), (3, .int x3)]) hx hb d_M_digest_44 hl (by decide) rfl (fun ls hl => ?_)
      refine lv_ldc2 (v := 31) hx hb hown (hts _ gw_2061) d_M_digest_46 ?_
      refine lv_ldc2 (v := 31) hx hb hown (hts _ gw_2061) d_M_digest_49 ?_
      refine lv_aload_n hx hb d_M_digest_52 rfl (lv_at hl 2 rfl) ?_
      refine va_get (D := D) (ci := 12) (v := .ref (q 14)) (C := "CoinKeeperModel") (T := F_12) (N := 98) hx hb hts i_12 hown hK hP 0 rfl rfl 19 (by decide) (hts _ gw_1438) (fun _ h9 => h9) rfl d_M_digest_53 ?_
      refine lv_bipush (v := 8) hx hb d_M_digest_56 (by decide) ?_
      refine lv_iload hx hb d_M_digest_58 (lv_at hl 0 rfl) ?_
      refine lv_imul hx hb d_M_digest_60 ?_
      refine lv_topi (fun v4 ev => ?_)
      have hf := bn ev hf
      clear ev
      obtain ⟨hg, hf⟩ := gdp hf
      refine va_iald hx hb hK hP 1 1 rfl rfl (inb_in hg) d_M_digest_61 ?_
      refine lv_topi (fun v5 ev => ?_)
      have hf := bn ev hf
      clear ev
      refine lv_i2l hx hb d_M_digest_62 rfl ?_
      refine lv_lmul hx hb d_M_digest_63 ?_
      refine lv_topl (fun v6 ev => ?_)
      have hf := bn ev hf
      clear ev
      refine lv_iload hx hb d_M_digest_64 (lv_at hl 1 rfl) ?_
      refine lv_aload_n hx hb d_M_digest_66 rfl (lv_at hl 2 rfl) ?_
      refine va_get (D := D) (ci := 12) (v := .ref (q 17)) (C := "CoinKeeperModel") (T := F_12) (N := 98) hx hb hts i_12 hown hK hP 0 rfl rfl 22 (by decide) (hts _ gw_1441) (fun _ h9 => h9) rfl d_M_digest_67 ?_
      refine lv_iload hx hb d_M_digest_70 (lv_at hl 0 rfl) ?_
      obtain ⟨hg, hf⟩ := gdp hf
      refine va_iald hx hb hK hP 2 1 rfl rfl (inb_in hg) d_M_digest_72 ?_
      refine lv_topi (fun v7 ev => ?_)
      have hf := bn ev hf
      clear ev
      refine lv_isub hx hb d_M_digest_73 ?_
      refine lv_i2l hx hb d_M_digest_74 rfl ?_
      refine lv_ladd hx hb d_M_digest_75 ?_
      refine lv_lmul hx hb d_M_digest_76 ?_
      refine lv_topl (fun v8 ev => ?_)
      have hf := bn ev hf
      clear ev
      refine lv_aload_n hx hb d_M_digest_77 rfl (lv_at hl 2 rfl) ?_
      refine va_get (D := D) (ci := 12) (v := .ref (q 25)) (C := "CoinKeeperModel") (T := F_12) (N := 98) hx hb hts i_12 hown hK hP 0 rfl rfl 32 (by decide) (hts _ gw_1451) (fun _ h9 => h9) rfl d_M_digest_78 ?_
      refine lv_iload hx hb d_M_digest_81 (lv_at hl 1 rfl) ?_
      obtain ⟨hg, hf⟩ := gdp hf
      refine va_lald hx hb hK hP 3 2 rfl rfl (inb_in hg) d_M_digest_83 ?_
      refine lv_topl (fun v9 ev => ?_)
      have hf := bn ev hf
      clear ev
      refine lv_ladd hx hb d_M_digest_84 ?_
      refine lv_topl (fun v10 ev => ?_)
      have hf := bn ev hf
      clear ev
      refine lv_lstore (lv' := [(6, .long v10), (5, .int v3), (4, .int v2), (0, .ref o), (1, .long x1), (3, .int x3)]) hx hb d_M_digest_85 hl (by decide) rfl (fun ls hl => ?_)
      refine lv_lload_n hx hb d_M_digest_87 rfl (lv_at hl 4 rfl) ?_
      refine lv_lload hx hb d_M_digest_88 (lv_at hl 0 rfl) ?_
      refine lv_lload hx hb d_M_digest_90 (lv_at hl 0 rfl) ?_
      refine lv_lmul hx hb d_M_digest_92 ?_
      refine lv_topl (fun v11 ev => ?_)
      have hf := bn ev hf
      clear ev
      refine lv_lload hx hb d_M_digest_93 (lv_at hl 0 rfl) ?_
      refine lv_ladd hx hb d_M_digest_95 ?_
      refine lv_ladd hx hb d_M_digest_96 ?_
      refine lv_topl (fun v12 ev => ?_)
      have hf := bn ev hf
      clear ev
      refine lv_lstore_n (lv' := [(1, .long v12), (6, .long v10), (5, .int v3), (4, .int v2), (0, .ref o), (3, .int x3)]) hx hb d_M_digest_97 rfl hl (by decide) rfl (fun ls hl => ?_)
      exact wb_M_digest_98 (fu := fu) F hk_9 _ _ _ _ hf _ _ _ hP hD hS (lv_sub hl [4, 0, 5] rfl)
    · have hf := ifp cx hf
      refine lv_goto (tgt := 98) hx hb d_M_digest_26 (by decide) ?_
      exact wb_M_digest_98 (fu := fu) F hk_9 _ _ _ _ hf _ _ _ hP hD hS (lv_sub hl [0, 1, 2] rfl)
theorem w_M_digest_9 {p : Program} {l : Launch} {e : Env} {s : State} {m : MethodId} {args : Array Value} {below : List Frame} {meth : Method} {c : Code} {D : va_G} {cy : Nat → ClassId} {A : Nat → Prop} {ad : Nat → Nat} {o : Nat} {q : Nat → Nat} {g_tId : Nat → Int32} {g_tOut : Nat → Int32} {g_oValue : Nat → Int64} {g_oTx : Nat → Int32} {g_uOutput : Nat → Int32} {g_uIs : Nat → Int32} {fu : Nat} (F : Fx p s m args meth c b_M_digest 8 "CoinKeeperModel" "digest" (some .long) D cy ad A) : ∀ n : Nat, I_M_digest_9 p l e s m args below meth c D cy A ad o q g_tId g_tOut g_oValue g_oTx g_uOutput g_uIs (x_M_digest_9 fu g_tId g_tOut g_oValue g_oTx g_uOutput g_uIs n)
  | 0 => fun _ _ _ _ hf => nomatch (show (none : Option (Int64 × (Nat → Int32))) = some _ from hf)
  | n + 1 => wb_M_digest_9 F (w_M_digest_9 F n)
set_option maxHeartbeats 8000000 in
set_option maxRecDepth 100000 in
theorem we_M_digest {p : Program} {l : Launch} {e : Env} {s : State} {m : MethodId} {args : Array Value} {below : List Frame} {meth : Method} {c : Code} {D : va_G} {cy : Nat → ClassId} {A : Nat → Prop} {ad : Nat → Nat} {o : Nat} {q : Nat → Nat} {g_tId : Nat → Int32} {g_tOut : Nat → Int32} {g_oValue : Nat → Int64} {g_oTx : Nat → Int32} {g_uOutput : Nat → Int32} {g_uIs : Nat → Int32} {fu : Nat} (F : Fx p s m args meth c b_M_digest 8 "CoinKeeperModel" "digest" (some .long) D cy ad A) : I_M_digest_e p l e s m args below meth c D cy A ad o q g_tId g_tOut g_oValue g_oTx g_uOutput g_uIs (x_M_digest fu g_tId g_tOut g_oValue g_oTx g_uOutput g_uIs) := by
  obtain ⟨hx, hb, hr, hml, hown, hts, hlocks, hK, hA, hSt, hnm, hex⟩ := id F
  intro u0 res hf H locs ls hP hD hS hl
  unfold x_M_digest at hf
  refine lv_aload_n hx hb d_M_digest_0 rfl (lv_at hl 0 rfl) ?_
  refine lv_iconst (v := 0) hx hb d_M_digest_1 (by decide) ?_
  refine va_put (D := D) (ci := 12) (v := .int (0 : Int32)) (ty := .int) (C := "CoinKeeperModel") (T := F_12) (N := 98) hx hb hts i_12 t_12 t_12_ok n_12 hown hK hP hD hS 0 rfl rfl 4 (by decide) (hts _ gw_1423) (fun _ h9 => h9) rfl (by decide +kernel) rfl rfl (Nat.le_of_ble_eq_true rfl) d_M_digest_2 (fun H locs hP hD hS => ?_)
  obtain ⟨z1, ev, hf⟩ := bne hf
  have hP : va_P D classes [(o, .inr (12, mo q z1)), ((q 14), .inl (cy 1, 17600, .inl g_tId)), ((q 17), .inl (cy 1, 2200, .inl g_tOut)), ((q 25), .inl (cy 2, 11600, .inr (.inl g_oValue))), ((q 28), .inl (cy 1, 11600, .inl g_oTx)), ((q 29), .inl (cy 1, 11600, .inl g_uOutput)), ((q 33), .inl (cy 3, 11600, .inl g_uIs))] H := by rw [ev]; exact hP
  have hD : va_D A [(o, .inr (12, mo q z1)), ((q 14), .inl (cy 1, 17600, .inl g_tId)), ((q 17), .inl (cy 1, 2200, .inl g_tOut)), ((q 25), .inl (cy 2, 11600, .inr (.inl g_oValue))), ((q 28), .inl (cy 1, 11600, .inl g_oTx)), ((q 29), .inl (cy 1, 11600, .inl g_uOutput)), ((q 33), .inl (cy 3, 11600, .inl g_uIs))] := by rw [ev]; exact hD
  clear ev
  refine lv_lconst (v := 0) hx hb d_M_digest_5 (by decide) ?_
  refine lv_lstore_n (lv' := [(1, .long (0 : Int64)), (0, .ref o)]) hx hb d_M_digest_6 rfl hl (by decide) rfl (fun ls hl => ?_)
  refine lv_iconst (v := 0) hx hb d_M_digest_7 (by decide) ?_
  refine lv_istore_n (lv' := [(3, .int (0 : Int32)), (1, .long (0 : Int64)), (0, .ref o)]) hx hb d_M_digest_8 rfl hl (by decide) rfl (fun ls hl => ?_)
  exact w_M_digest_9 F fu _ _ _ _ hf _ _ _ hP hD hS (lv_sub hl [2, 1, 0] rfl)
theorem c_M_digest (l : Launch) (D : va_G) (cy : Nat → ClassId) (ad : Nat → Nat) (fu : Nat) (o : Nat) (q : Nat → Nat) (g_tId : Nat → Int32) (g_tOut : Nat → Int32) (g_oValue : Nat → Int64) (g_oTx : Nat → Int32) (g_uOutput : Nat → Int32) (g_uIs : Nat → Int32) (u0 : Nat → Int32) (res : Int64 × (Nat → Int32)) (hf : x_M_digest fu g_tId g_tOut g_oValue g_oTx g_uOutput g_uIs u0 = some res) (sz : Nat) : Met l ({ cls := "CoinKeeperModel", name := "digest", desc := "()J" } : Jvm.MethodName) (.code ({ cls := "CoinKeeperModel", name := "digest", desc := "()J" } : Jvm.MethodName) b_M_digest 8 (some .long) :: gw) rm_M_digest (va_Pc [.ref o] (Pr D cy ad [(o, .inr (12, mo q u0)), ((q 14), .inl (cy 1, 17600, .inl g_tId)), ((q 17), .inl (cy 1, 2200, .inl g_tOut)), ((q 25), .inl (cy 2, 11600, .inr (.inl g_oValue))), ((q 28), .inl (cy 1, 11600, .inl g_oTx)), ((q 29), .inl (cy 1, 11600, .inl g_uOutput)), ((q 33), .inl (cy 3, 11600, .inl g_uIs))] sz)) (q_M_digest D cy (va_A [(o, .inr (12, mo q u0)), ((q 14), .inl (cy 1, 17600, .inl g_tId)), ((q 17), .inl (cy 1, 2200, .inl g_tOut)), ((q 25), .inl (cy 2, 11600, .inr (.inl g_oValue))), ((q 28), .inl (cy 1, 11600, .inl g_oTx)), ((q 29), .inl (cy 1, 11600, .inl g_uOutput)), ((q 33), .inl (cy 3, 11600, .inl g_uIs))] sz) o q g_tId g_tOut g_oValue g_oTx g_uOutput g_uIs res) 0 0 (va_A [(o, .inr (12, mo q u0)), ((q 14), .inl (cy 1, 17600, .inl g_tId)), ((q 17), .inl (cy 1, 2200, .inl g_tOut)), ((q 25), .inl (cy 2, 11600, .inr (.inl g_oValue))), ((q 28), .inl (cy 1, 11600, .inl g_oTx)), ((q 29), .inl (cy 1, 11600, .inl g_uOutput)), ((q 33), .inl (cy 3, 11600, .inl g_uIs))] sz) :=
  q_met (Qc := fun A => q_M_digest D cy A o q g_tId g_tOut g_oValue g_oTx g_uOutput g_uIs res) (by decide) rfl rfl (Nat.le_of_ble_eq_true rfl) (fun p e s m below meth c ls F hP hD hS hl => we_M_digest (fu := fu) F u0 res hf _ _ _ hP hD hS hl) sz
abbrev b_M_read : ByteArray := prog_14_method_32_code
theorem d_M_read_0 : decode b_M_read 0 = .ok (.iconst 0, 1) := by decide +kernel
theorem d_M_read_1 : decode b_M_read 1 = .ok (.istore 4, 2) := by decide +kernel
theorem d_M_read_3 : decode b_M_read 3 = .ok (.iload 4, 2) := by decide +kernel
theorem d_M_read_5 : decode b_M_read 5 = .ok (.bipush 8, 2) := by decide +kernel
theorem d_M_read_7 : decode b_M_read 7 = .ok (.if_icmp .ge 14, 3) := by decide +kernel
theorem d_M_read_10 : decode b_M_read 10 = .ok (.aload_n 0, 1) := by decide +kernel
theorem d_M_read_11 : decode b_M_read 11 = .ok (.iload 4, 2) := by decide +kernel
theorem d_M_read_13 : decode b_M_read 13 = .ok (.iconst 0, 1) := by decide +kernel
theorem d_M_read_14 : decode b_M_read 14 = .ok (.iastore, 1) := by decide +kernel
theorem d_M_read_15 : decode b_M_read 15 = .ok (.iinc 4 1, 3) := by decide +kernel
theorem d_M_read_18 : decode b_M_read 18 = .ok (.goto (-15), 3) := by decide +kernel
theorem d_M_read_21 : decode b_M_read 21 = .ok (.iconst 0, 1) := by decide +kernel
theorem d_M_read_22 : decode b_M_read 22 = .ok (.istore 4, 2) := by decide +kernel
theorem d_M_read_24 : decode b_M_read 24 = .ok (.iload 4, 2) := by decide +kernel
theorem d_M_read_26 : decode b_M_read 26 = .ok (.iload_n 3, 1) := by decide +kernel
theorem d_M_read_27 : decode b_M_read 27 = .ok (.if_icmp .ge 40, 3) := by decide +kernel
theorem d_M_read_30 : decode b_M_read 30 = .ok (.aload_n 0, 1) := by decide +kernel
theorem d_M_read_31 : decode b_M_read 31 = .ok (.iload 4, 2) := by decide +kernel
theorem d_M_read_33 : decode b_M_read 33 = .ok (.iconst 4, 1) := by decide +kernel
theorem d_M_read_34 : decode b_M_read 34 = .ok (.idiv, 1) := by decide +kernel
theorem d_M_read_35 : decode b_M_read 35 = .ok (.dup2, 1) := by decide +kernel
theorem d_M_read_36 : decode b_M_read 36 = .ok (.iaload, 1) := by decide +kernel
theorem d_M_read_37 : decode b_M_read 37 = .ok (.aload_n 1, 1) := by decide +kernel
theorem d_M_read_38 : decode b_M_read 38 = .ok (.iload_n 2, 1) := by decide +kernel
theorem d_M_read_39 : decode b_M_read 39 = .ok (.iload_n 3, 1) := by decide +kernel
theorem d_M_read_40 : decode b_M_read 40 = .ok (.iadd, 1) := by decide +kernel
theorem d_M_read_41 : decode b_M_read 41 = .ok (.iconst 1, 1) := by decide +kernel
theorem d_M_read_42 : decode b_M_read 42 = .ok (.isub, 1) := by decide +kernel
theorem d_M_read_43 : decode b_M_read 43 = .ok (.iload 4, 2) := by decide +kernel
theorem d_M_read_45 : decode b_M_read 45 = .ok (.isub, 1) := by decide +kernel
theorem d_M_read_46 : decode b_M_read 46 = .ok (.baload, 1) := by decide +kernel
theorem d_M_read_47 : decode b_M_read 47 = .ok (.sipush 255, 3) := by decide +kernel
theorem d_M_read_50 : decode b_M_read 50 = .ok (.iand, 1) := by decide +kernel
theorem d_M_read_51 : decode b_M_read 51 = .ok (.bipush 8, 2) := by decide +kernel
theorem d_M_read_53 : decode b_M_read 53 = .ok (.iload 4, 2) := by decide +kernel
theorem d_M_read_55 : decode b_M_read 55 = .ok (.iconst 4, 1) := by decide +kernel
theorem d_M_read_56 : decode b_M_read 56 = .ok (.irem, 1) := by decide +kernel
theorem d_M_read_57 : decode b_M_read 57 = .ok (.imul, 1) := by decide +kernel
theorem d_M_read_58 : decode b_M_read 58 = .ok (.ishl, 1) := by decide +kernel
theorem d_M_read_59 : decode b_M_read 59 = .ok (.ior, 1) := by decide +kernel
theorem d_M_read_60 : decode b_M_read 60 = .ok (.iastore, 1) := by decide +kernel
theorem d_M_read_61 : decode b_M_read 61 = .ok (.iinc 4 1, 3) := by decide +kernel
theorem d_M_read_64 : decode b_M_read 64 = .ok (.goto (-40), 3) := by decide +kernel
theorem d_M_read_67 : decode b_M_read 67 = .ok (.return_, 1) := by decide +kernel
abbrev rm_M_read : Room := { frames := 0, cells := 0, slots := 0, locals := 0 }
abbrev q_M_read (D : va_G) (cy : Nat → ClassId) (A : Nat → Prop) (b0 : Nat) (b1 : Nat) (n1 : Nat) (h1 : Nat → Int32) (res : (Nat → Int32)) : Array Value → State → Outcome → State → Prop := va_Qv (fun (_ : Unit) => True) (fun _ t => Po D cy A [(b0, .inl (cy 1, 8, .inl res)), (b1, .inl (cy 0, n1, .inl h1))] t) A
def I_M_read_24 (p : Program) (l : Launch) (e : Env) (s : State) (m : MethodId) (args : Array Value) (below : List Frame) (meth : Method) (c : Code) (D : va_G) (cy : Nat → ClassId) (A : Nat → Prop) (ad : Nat → Nat) (b0 : Nat) (b1 : Nat) (n1 : Nat) (h1 : Nat → Int32) (k : Int32 → Int32 → Int32 → (Nat → Int32) → Option ((Nat → Int32))) : Prop :=
  ∀ (x2 : Int32) (x3 : Int32) (x4 : Int32) (u0 : Nat → Int32) (res : (Nat → Int32)), k x2 x3 x4 u0 = some res → ∀ (H : Heap) (locs : List Loc) (ls : Array Slot), va_P D classes [(b0, .inl (cy 1, 8, .inl u0)), (b1, .inl (cy 0, n1, .inl h1))] H → va_D A [(b0, .inl (cy 1, 8, .inl u0)), (b1, .inl (cy 0, n1, .inl h1))] → va_S A s.heap H locs → lv_has ls 5 [(0, .ref b0), (1, .ref b1), (2, .int x2), (3, .int x3), (4, .int x4)] → W p l e rm_M_read s m args below meth c H locs 0 0 (MQ below (q_M_read D cy A b0 b1 n1 h1 res) args s 0 0 A) (F0 m 24 ls [])
def I_M_read_3 (p : Program) (l : Launch) (e : Env) (s : State) (m : MethodId) (args : Array Value) (below : List Frame) (meth : Method) (c : Code) (D : va_G) (cy : Nat → ClassId) (A : Nat → Prop) (ad : Nat → Nat) (b0 : Nat) (b1 : Nat) (n1 : Nat) (h1 : Nat → Int32) (k : Int32 → Int32 → Int32 → (Nat → Int32) → Option ((Nat → Int32))) : Prop :=
  ∀ (x2 : Int32) (x3 : Int32) (x4 : Int32) (u0 : Nat → Int32) (res : (Nat → Int32)), k x2 x3 x4 u0 = some res → ∀ (H : Heap) (locs : List Loc) (ls : Array Slot), va_P D classes [(b0, .inl (cy 1, 8, .inl u0)), (b1, .inl (cy 0, n1, .inl h1))] H → va_D A [(b0, .inl (cy 1, 8, .inl u0)), (b1, .inl (cy 0, n1, .inl h1))] → va_S A s.heap H locs → lv_has ls 5 [(0, .ref b0), (1, .ref b1), (2, .int x2), (3, .int x3), (4, .int x4)] → W p l e rm_M_read s m args below meth c H locs 0 0 (MQ below (q_M_read D cy A b0 b1 n1 h1 res) args s 0 0 A) (F0 m 3 ls [])
def I_M_read_e (p : Program) (l : Launch) (e : Env) (s : State) (m : MethodId) (args : Array Value) (below : List Frame) (meth : Method) (c : Code) (D : va_G) (cy : Nat → ClassId) (A : Nat → Prop) (ad : Nat → Nat) (b0 : Nat) (b1 : Nat) (n1 : Nat) (h1 : Nat → Int32) (k : Int32 → Int32 → (Nat → Int32) → Option ((Nat → Int32))) : Prop :=
  ∀ (a2 : Int32) (a3 : Int32) (u0 : Nat → Int32) (res : (Nat → Int32)), k a2 a3 u0 = some res → ∀ (H : Heap) (locs : List Loc) (ls : Array Slot), va_P D classes [(b0, .inl (cy 1, 8, .inl u0)), (b1, .inl (cy 0, n1, .inl h1))] H → va_D A [(b0, .inl (cy 1, 8, .inl u0)), (b1, .inl (cy 0, n1, .inl h1))] → va_S A s.heap H locs → lv_has ls 5 [(0, .ref b0), (1, .ref b1), (2, .int a2), (3, .int a3)] → W p l e rm_M_read s m args below meth c H locs 0 0 (MQ below (q_M_read D cy A b0 b1 n1 h1 res) args s 0 0 A) (F0 m 0 ls [])
set_option maxHeartbeats 8000000 in
set_option maxRecDepth 100000 in
theorem wb_M_read_24 {p : Program} {l : Launch} {e : Env} {s : State} {m : MethodId} {args : Array Value} {below : List Frame} {meth : Method} {c : Code} {D : va_G} {cy : Nat → ClassId} {A : Nat → Prop} {ad : Nat → Nat} {b0 : Nat} {b1 : Nat} {n1 : Nat} {h1 : Nat → Int32} {fu : Nat} {k_24 : Int32 → Int32 → Int32 → (Nat → Int32) → Option ((Nat → Int32))} (F : Fx p s m args meth c b_M_read 5 "CoinKeeperModel" "read" none D cy ad A) (hk_24 : I_M_read_24 p l e s m args below meth c D cy A ad b0 b1 n1 h1 k_24) : I_M_read_24 p l e s m args below meth c D cy A ad b0 b1 n1 h1 (xb_M_read_24 fu n1 h1 k_24) := by
  obtain ⟨hx, hb, hr, hml, hown, hts, hlocks, hK, hA, hSt, hnm, hex⟩ := id F
  intro x2 x3 x4 u0 res hf H locs ls hP hD hS hl
  unfold xb_M_read_24 at hf
  refine lv_iload hx hb d_M_read_24 (lv_at hl 4 rfl) ?_
  refine lv_iload_n hx hb d_M_read_26 rfl (lv_at hl 3 rfl) ?_
  refine lv_icmp_ge (tgt := 67) hx hb d_M_read_27 (by decide) (fun cx => ?_) (fun cx => ?_)
  · have hf := ifp cx hf
    obtain rfl := Option.some.inj hf
    exact q_rv hx hb hr hlocks hK hP hD hS d_M_read_67
  · have hf := ifn cx hf
    refine lv_aload_n hx hb d_M_read_30 rfl (lv_at hl 0 rfl) ?_
    refine lv_iload hx hb d_M_read_31 (lv_at hl 4 rfl) ?_
    refine lv_iconst (v := 4) hx hb d_M_read_33 (by decide) ?_
    refine lv_idiv hx hb d_M_read_34 (by decide) ?_
    refine lv_topi (fun v1 ev => ?_)
    have hf := bn ev hf
    clear ev
    refine lv_dup2_11 hx hb d_M_read_35 rfl rfl ?_
    obtain ⟨hg, hf⟩ := gdp hf
    refine va_iald hx hb hK hP 0 1 rfl rfl (inb_in hg) d_M_read_36 ?_
    refine lv_topi (fun v2 ev => ?_)
    have hf := bn ev hf
    clear ev
    refine lv_aload_n hx hb d_M_read_37 rfl (lv_at hl 1 rfl) ?_
    refine lv_iload_n hx hb d_M_read_38 rfl (lv_at hl 2 rfl) ?_
    refine lv_iload_n hx hb d_M_read_39 rfl (lv_at hl 3 rfl) ?_
    refine lv_iadd hx hb d_M_read_40 ?_
    refine lv_topi (fun v3 ev => ?_)
    have hf := bn ev hf
    clear ev
    refine lv_iconst (v := 1) hx hb d_M_read_41 (by decide) ?_
    refine lv_isub hx hb d_M_read_42 ?_
    refine lv_topi (fun v4 ev => ?_)
    have hf := bn ev hf
    clear ev
    refine lv_iload hx hb d_M_read_43 (lv_at hl 4 rfl) ?_
    refine lv_isub hx hb d_M_read_45 ?_
    refine lv_topi (fun v5 ev => ?_)
    have hf := bn ev hf
    clear ev
    obtain ⟨hg, hf⟩ := gdp hf
    refine va_bald hx hb hK hP 1 0 rfl rfl (inb_in hg) d_M_read_46 ?_
    refine lv_topi (fun v6 ev => ?_)
    have hf := bn ev hf
    clear ev
    refine lv_sipush (v := 255) hx hb d_M_read_47 (by decide) ?_
    refine lv_iand hx hb d_M_read_50 ?_
    refine lv_topi (fun v7 ev => ?_)
    have hf := bn ev hf
    clear ev
    refine lv_bipush (v := 8) hx hb d_M_read_51 (by decide) ?_
    refine lv_iload hx hb d_M_read_53 (lv_at hl 4 rfl) ?_
    refine lv_iconst (v := 4) hx hb d_M_read_55 (by decide) ?_
    refine lv_irem hx hb d_M_read_56 (by decide) ?_
    refine lv_imul hx hb d_M_read_57 ?_
    refine lv_ishl hx hb d_M_read_58 ?_
    refine lv_ior hx hb d_M_read_59 ?_
    refine lv_topi (fun v8 ev => ?_)
    have hf := bn ev hf
    clear ev
    obtain ⟨hg, hf⟩ := gdp hf
    refine va_iast hx hb hK hP hD hS 0 1 rfl rfl (inb_in hg) d_M_read_60 (fun H locs hP hD hS => ?_)
    obtain ⟨f9, ev, hf⟩ := bne hf
    have hP : va_P D classes [(b0, .inl (cy 1, 8, .inl f9)), (b1, .inl (cy 0, n1, .inl h1))] H := by rw [ev]; exact hP
    have hD : va_D A [(b0, .inl (cy 1, 8, .inl f9)), (b1, .inl (cy 0, n1, .inl h1))] := by rw [ev]; exact hD
    clear ev
    obtain ⟨v10, ev, hf⟩ := bne hf
    refine lv_iinc (v := v10) (lv' := [(4, .int v10), (0, .ref b0), (1, .ref b1), (2, .int x2), (3, .int x3)]) hx hb d_M_read_61 hl (k := 4) rfl (by rw [ev]; rfl) (by decide) rfl (fun ls hl => ?_)
    clear ev
    refine lv_goto (tgt := 24) hx hb d_M_read_64 (by decide) ?_
    exact hk_24 _ _ _ _ _ hf _ _ _ hP hD hS (lv_sub hl [1, 2, 3, 4, 0] rfl)
theorem w_M_read_24 {p : Program} {l : Launch} {e : Env} {s : State} {m : MethodId} {args : Array Value} {below : List Frame} {meth : Method} {c : Code} {D : va_G} {cy : Nat → ClassId} {A : Nat → Prop} {ad : Nat → Nat} {b0 : Nat} {b1 : Nat} {n1 : Nat} {h1 : Nat → Int32} {fu : Nat} (F : Fx p s m args meth c b_M_read 5 "CoinKeeperModel" "read" none D cy ad A) : ∀ n : Nat, I_M_read_24 p l e s m args below meth c D cy A ad b0 b1 n1 h1 (x_M_read_24 fu n1 h1 n)
  | 0 => fun _ _ _ _ _ hf => nomatch (show (none : Option ((Nat → Int32))) = some _ from hf)
  | n + 1 => wb_M_read_24 F (w_M_read_24 F n)
set_option maxHeartbeats 8000000 in
set_option maxRecDepth 100000 in
theorem wb_M_read_3 {p : Program} {l : Launch} {e : Env} {s : State} {m : MethodId} {args : Array Value} {below : List Frame} {meth : Method} {c : Code} {D : va_G} {cy : Nat → ClassId} {A : Nat → Prop} {ad : Nat → Nat} {b0 : Nat} {b1 : Nat} {n1 : Nat} {h1 : Nat → Int32} {fu : Nat} {k_3 : Int32 → Int32 → Int32 → (Nat → Int32) → Option ((Nat → Int32))} (F : Fx p s m args meth c b_M_read 5 "CoinKeeperModel" "read" none D cy ad A) (hk_3 : I_M_read_3 p l e s m args below meth c D cy A ad b0 b1 n1 h1 k_3) : I_M_read_3 p l e s m args below meth c D cy A ad b0 b1 n1 h1 (xb_M_read_3 fu n1 h1 k_3) := by
  obtain ⟨hx, hb, hr, hml, hown, hts, hlocks, hK, hA, hSt, hnm, hex⟩ := id F
  intro x2 x3 x4 u0 res hf H locs ls hP hD hS hl
  unfold xb_M_read_3 at hf
  refine lv_iload hx hb d_M_read_3 (lv_at hl 4 rfl) ?_
  refine lv_bipush (v := 8) hx hb d_M_read_5 (by decide) ?_
  refine lv_icmp_ge (tgt := 21) hx hb d_M_read_7 (by decide) (fun cx => ?_) (fun cx => ?_)
  · have hf := ifp cx hf
    refine lv_iconst (v := 0) hx hb d_M_read_21 (by decide) ?_
    refine lv_istore (lv' := [(4, .int (0 : Int32)), (0, .ref b0), (1, .ref b1), (2, .int x2), (3, .int x3)]) hx hb d_M_read_22 hl (by decide) rfl (fun ls hl => ?_)
    exact w_M_read_24 F fu _ _ _ _ _ hf _ _ _ hP hD hS (lv_sub hl [1, 2, 3, 4, 0] rfl)
  · have hf := ifn cx hf
    refine lv_aload_n hx hb d_M_read_10 rfl (lv_at hl 0 rfl) ?_
    refine lv_iload hx hb d_M_read_11 (lv_at hl 4 rfl) ?_
    refine lv_iconst (v := 0) hx hb d_M_read_13 (by decide) ?_
    obtain ⟨hg, hf⟩ := gdp hf
    refine va_iast hx hb hK hP hD hS 0 1 rfl rfl (inb_in hg) d_M_read_14 (fun H locs hP hD hS => ?_)
    obtain ⟨f1, ev, hf⟩ := bne hf
    have hP : va_P D classes [(b0, .inl (cy 1, 8, .inl f1)), (b1, .inl (cy 0, n1, .inl h1))] H := by rw [ev]; exact hP
    have hD : va_D A [(b0, .inl (cy 1, 8, .inl f1)), (b1, .inl (cy 0, n1, .inl h1))] := by rw [ev]; exact hD
    clear ev
    obtain ⟨v2, ev, hf⟩ := bne hf
    refine lv_iinc (v := v2) (lv' := [(4, .int v2), (0, .ref b0), (1, .ref b1), (2, .int x2), (3, .int x3)]) hx hb d_M_read_15 hl (k := 4) rfl (by rw [ev]; rfl) (by decide) rfl (fun ls hl => ?_)
    clear ev
    refine lv_goto (tgt := 3) hx hb d_M_read_18 (by decide) ?_
    exact hk_3 _ _ _ _ _ hf _ _ _ hP hD hS (lv_sub hl [1, 2, 3, 4, 0] rfl)
theorem w_M_read_3 {p : Program} {l : Launch} {e : Env} {s : State} {m : MethodId} {args : Array Value} {below : List Frame} {meth : Method} {c : Code} {D : va_G} {cy : Nat → ClassId} {A : Nat → Prop} {ad : Nat → Nat} {b0 : Nat} {b1 : Nat} {n1 : Nat} {h1 : Nat → Int32} {fu : Nat} (F : Fx p s m args meth c b_M_read 5 "CoinKeeperModel" "read" none D cy ad A) : ∀ n : Nat, I_M_read_3 p l e s m args below meth c D cy A ad b0 b1 n1 h1 (x_M_read_3 fu n1 h1 n)
  | 0 => fun _ _ _ _ _ hf => nomatch (show (none : Option ((Nat → Int32))) = some _ from hf)
  | n + 1 => wb_M_read_3 F (w_M_read_3 F n)
set_option maxHeartbeats 8000000 in
set_option maxRecDepth 100000 in
theorem we_M_read {p : Program} {l : Launch} {e : Env} {s : State} {m : MethodId} {args : Array Value} {below : List Frame} {meth : Method} {c : Code} {D : va_G} {cy : Nat → ClassId} {A : Nat → Prop} {ad : Nat → Nat} {b0 : Nat} {b1 : Nat} {n1 : Nat} {h1 : Nat → Int32} {fu : Nat} (F : Fx p s m args meth c b_M_read 5 "CoinKeeperModel" "read" none D cy ad A) : I_M_read_e p l e s m args below meth c D cy A ad b0 b1 n1 h1 (x_M_read fu n1 h1) := by
  obtain ⟨hx, hb, hr, hml, hown, hts, hlocks, hK, hA, hSt, hnm, hex⟩ := id F
  intro a2 a3 u0 res hf H locs ls hP hD hS hl
  unfold x_M_read at hf
  refine lv_iconst (v := 0) hx hb d_M_read_0 (by decide) ?_
  refine lv_istore (lv' := [(4, .int (0 : Int32)), (0, .ref b0), (1, .ref b1), (2, .int a2), (3, .int a3)]) hx hb d_M_read_1 hl (by decide) rfl (fun ls hl => ?_)
  exact w_M_read_3 F fu _ _ _ _ _ hf _ _ _ hP hD hS (lv_sub hl [1, 2, 3, 4, 0] rfl)
theorem c_M_read (l : Launch) (D : va_G) (cy : Nat → ClassId) (ad : Nat → Nat) (fu : Nat) (b0 : Nat) (b1 : Nat) (n1 : Nat) (h1 : Nat → Int32) (a2 : Int32) (a3 : Int32) (u0 : Nat → Int32) (res : (Nat → Int32)) (hf : x_M_read fu n1 h1 a2 a3 u0 = some res) (sz : Nat) : Met l ({ cls := "CoinKeeperModel", name := "read", desc := "([I[BII)V" } : Jvm.MethodName) (.code ({ cls := "CoinKeeperModel", name := "read", desc := "([I[BII)V" } : Jvm.MethodName) b_M_read 5 none :: gw) rm_M_read (va_Pc [.ref b0, .ref b1, .int a2, .int a3] (Pr D cy ad [(b0, .inl (cy 1, 8, .inl u0)), (b1, .inl (cy 0, n1, .inl h1))] sz)) (q_M_read D cy (va_A [(b0, .inl (cy 1, 8, .inl u0)), (b1, .inl (cy 0, n1, .inl h1))] sz) b0 b1 n1 h1 res) 0 0 (va_A [(b0, .inl (cy 1, 8, .inl u0)), (b1, .inl (cy 0, n1, .inl h1))] sz) :=
  q_met (Qc := fun A => q_M_read D cy A b0 b1 n1 h1 res) (by decide) rfl rfl (Nat.le_of_ble_eq_true rfl) (fun p e s m below meth c ls F hP hD hS hl => we_M_read (fu := fu) F a2 a3 u0 res hf _ _ _ hP hD hS hl) sz
abbrev b_Ig_compare : ByteArray := prog_20_method_40_code
theorem d_Ig_compare_0 : decode b_Ig_compare 0 = .ok (.iload_n 0, 1) := by decide +kernel
theorem d_Ig_compare_1 : decode b_Ig_compare 1 = .ok (.iload_n 1, 1) := by decide +kernel
theorem d_Ig_compare_2 : decode b_Ig_compare 2 = .ok (.if_icmp .ge 7, 3) := by decide +kernel
theorem d_Ig_compare_5 : decode b_Ig_compare 5 = .ok (.iconst (-1), 1) := by decide +kernel
theorem d_Ig_compare_6 : decode b_Ig_compare 6 = .ok (.goto 13, 3) := by decide +kernel
theorem d_Ig_compare_9 : decode b_Ig_compare 9 = .ok (.iload_n 0, 1) := by decide +kernel
theorem d_Ig_compare_10 : decode b_Ig_compare 10 = .ok (.iload_n 1, 1) := by decide +kernel
theorem d_Ig_compare_11 : decode b_Ig_compare 11 = .ok (.if_icmp .ne 7, 3) := by decide +kernel
theorem d_Ig_compare_14 : decode b_Ig_compare 14 = .ok (.iconst 0, 1) := by decide +kernel
theorem d_Ig_compare_15 : decode b_Ig_compare 15 = .ok (.goto 4, 3) := by decide +kernel
theorem d_Ig_compare_18 : decode b_Ig_compare 18 = .ok (.iconst 1, 1) := by decide +kernel
theorem d_Ig_compare_19 : decode b_Ig_compare 19 = .ok (.ireturn, 1) := by decide +kernel
abbrev rm_Ig_compare : Room := { frames := 0, cells := 0, slots := 0, locals := 0 }
abbrev q_Ig_compare (D : va_G) (cy : Nat → ClassId) (A : Nat → Prop) (res : Int32) : Array Value → State → Outcome → State → Prop := va_Qi (fun r' (_ : Unit) => r' = res) (fun _ t => Po D cy A [] t) A
def I_Ig_compare_e (p : Program) (l : Launch) (e : Env) (s : State) (m : MethodId) (args : Array Value) (below : List Frame) (meth : Method) (c : Code) (D : va_G) (cy : Nat → ClassId) (A : Nat → Prop) (ad : Nat → Nat) (k : Int32 → Int32 → Option (Int32)) : Prop :=
  ∀ (a0 : Int32) (a1 : Int32) (res : Int32), k a0 a1 = some res → ∀ (H : Heap) (locs : List Loc) (ls : Array Slot), va_P D classes [] H → va_D A [] → va_S A s.heap H locs → lv_has ls 2 [(0, .int a0), (1, .int a1)] → W p l e rm_Ig_compare s m args below meth c H locs 0 0 (MQ below (q_Ig_compare D cy A res) args s 0 0 A) (F0 m 0 ls [])
set_option maxHeartbeats 8000000 in
set_option maxRecDepth 100000 in
theorem we_Ig_compare {p : Program} {l : Launch} {e : Env} {s : State} {m : MethodId} {args : Array Value} {below : List Frame} {meth : Method} {c : Code} {D : va_G} {cy : Nat → ClassId} {A : Nat → Prop} {ad : Nat → Nat} {fu : Nat} (F : Fx p s m args meth c b_Ig_compare 2 "java/lang/Integer" "compare" (some .int) D cy ad A) : I_Ig_compare_e p l e s m args below meth c D cy A ad (x_Ig_compare fu) := by
  obtain ⟨hx, hb, hr, hml, hown, hts, hlocks, hK, hA, hSt, hnm, hex⟩ := id F
  intro a0 a1 res hf H locs ls hP hD hS hl
  unfold x_Ig_compare at hf
  refine lv_iload_n hx hb d_Ig_compare_0 rfl (lv_at hl 0 rfl) ?_
  refine lv_iload_n hx hb d_Ig_compare_1 rfl (lv_at hl 1 rfl) ?_
  refine lv_icmp_ge (tgt := 9) hx hb d_Ig_compare_2 (by decide) (fun cx => ?_) (fun cx => ?_)
  · have hf := ifp cx hf
    refine lv_iload_n hx hb d_Ig_compare_9 rfl (lv_at hl 0 rfl) ?_
    refine lv_iload_n hx hb d_Ig_compare_10 rfl (lv_at hl 1 rfl) ?_
    refine lv_icmp_ne (tgt := 18) hx hb d_Ig_compare_11 (by decide) (fun cx => ?_) (fun cx => ?_)
    · have hf := ifn cx hf
      refine lv_iconst (v := 1) hx hb d_Ig_compare_18 (by decide) ?_
      obtain rfl := Option.some.inj hf
      exact q_ri hx hb hr hlocks hK hP hD hS d_Ig_compare_19
    · have hf := ifp cx hf
      refine lv_iconst (v := 0) hx hb d_Ig_compare_14 (by decide) ?_
      refine lv_goto (tgt := 19) hx hb d_Ig_compare_15 (by decide) ?_
      obtain rfl := Option.some.inj hf
      exact q_ri hx hb hr hlocks hK hP hD hS d_Ig_compare_19
  · have hf := ifn cx hf
    refine lv_iconst (v := (-1)) hx hb d_Ig_compare_5 (by decide) ?_
    refine lv_goto (tgt := 19) hx hb d_Ig_compare_6 (by decide) ?_
    obtain rfl := Option.some.inj hf
    exact q_ri hx hb hr hlocks hK hP hD hS d_Ig_compare_19
theorem c_Ig_compare (l : Launch) (D : va_G) (cy : Nat → ClassId) (ad : Nat → Nat) (fu : Nat) (a0 : Int32) (a1 : Int32) (res : Int32) (hf : x_Ig_compare fu a0 a1 = some res) (sz : Nat) : Met l ({ cls := "java/lang/Integer", name := "compare", desc := "(II)I" } : Jvm.MethodName) (.code ({ cls := "java/lang/Integer", name := "compare", desc := "(II)I" } : Jvm.MethodName) b_Ig_compare 2 (some .int) :: gw) rm_Ig_compare (va_Pc [.int a0, .int a1] (Pr D cy ad [] sz)) (q_Ig_compare D cy (va_A [] sz) res) 0 0 (va_A [] sz) :=
  q_met (Qc := fun A => q_Ig_compare D cy A res) (by decide) rfl rfl (Nat.le_of_ble_eq_true rfl) (fun p e s m below meth c ls F hP hD hS hl => we_Ig_compare (fu := fu) F a0 a1 res hf _ _ _ hP hD hS hl) sz
abbrev b_Ig_compareUnsigned : ByteArray := prog_20_method_41_code
theorem d_Ig_compareUnsigned_0 : decode b_Ig_compareUnsigned 0 = .ok (.iload_n 0, 1) := by decide +kernel
theorem d_Ig_compareUnsigned_1 : decode b_Ig_compareUnsigned 1 = .ok (.ldc 127, 2) := by decide +kernel
theorem d_Ig_compareUnsigned_3 : decode b_Ig_compareUnsigned 3 = .ok (.iadd, 1) := by decide +kernel
theorem d_Ig_compareUnsigned_4 : decode b_Ig_compareUnsigned 4 = .ok (.iload_n 1, 1) := by decide +kernel
theorem d_Ig_compareUnsigned_5 : decode b_Ig_compareUnsigned 5 = .ok (.ldc 127, 2) := by decide +kernel
theorem d_Ig_compareUnsigned_7 : decode b_Ig_compareUnsigned 7 = .ok (.iadd, 1) := by decide +kernel
theorem d_Ig_compareUnsigned_8 : decode b_Ig_compareUnsigned 8 = .ok (.invokestatic 259, 3) := by decide +kernel
theorem d_Ig_compareUnsigned_11 : decode b_Ig_compareUnsigned 11 = .ok (.ireturn, 1) := by decide +kernel
abbrev rm_Ig_compareUnsigned : Room := { frames := 1, cells := 0, slots := 0, locals := 21 }
abbrev q_Ig_compareUnsigned (D : va_G) (cy : Nat → ClassId) (A : Nat → Prop) (res : Int32) : Array Value → State → Outcome → State → Prop := va_Qi (fun r' (_ : Unit) => r' = res) (fun _ t => Po D cy A [] t) A
def I_Ig_compareUnsigned_e (p : Program) (l : Launch) (e : Env) (s : State) (m : MethodId) (args : Array Value) (below : List Frame) (meth : Method) (c : Code) (D : va_G) (cy : Nat → ClassId) (A : Nat → Prop) (ad : Nat → Nat) (k : Int32 → Int32 → Option (Int32)) : Prop :=
  ∀ (a0 : Int32) (a1 : Int32) (res : Int32), k a0 a1 = some res → ∀ (H : Heap) (locs : List Loc) (ls : Array Slot), va_P D classes [] H → va_D A [] → va_S A s.heap H locs → lv_has ls 2 [(0, .int a0), (1, .int a1)] → W p l e rm_Ig_compareUnsigned s m args below meth c H locs 0 0 (MQ below (q_Ig_compareUnsigned D cy A res) args s 0 0 A) (F0 m 0 ls [])
theorem hdm_14 : ({ cls := "java/lang/Integer", name := "compare", desc := "(II)I" } : Jvm.MethodName).cls ≠ "java/lang/invoke/MethodHandle" ∧ ({ cls := "java/lang/Integer", name := "compare", desc := "(II)I" } : Jvm.MethodName).cls ≠ "java/lang/invoke/VarHandle" ∧ (parseMethodDescriptor ({ cls := "java/lang/Integer", name := "compare", desc := "(II)I" } : Jvm.MethodName).desc).map (fun d => d.parameters.length) = some 2 := by decide +kernel
set_option maxHeartbeats 8000000 in
set_option maxRecDepth 100000 in
theorem we_Ig_compareUnsigned {p : Program} {l : Launch} {e : Env} {s : State} {m : MethodId} {args : Array Value} {below : List Frame} {meth : Method} {c : Code} {D : va_G} {cy : Nat → ClassId} {A : Nat → Prop} {ad : Nat → Nat} {fu : Nat} (F : Fx p s m args meth c b_Ig_compareUnsigned 2 "java/lang/Integer" "compareUnsigned" (some .int) D cy ad A) : I_Ig_compareUnsigned_e p l e s m args below meth c D cy A ad (x_Ig_compareUnsigned fu) := by
  obtain ⟨hx, hb, hr, hml, hown, hts, hlocks, hK, hA, hSt, hnm, hex⟩ := id F
  intro a0 a1 res hf H locs ls hP hD hS hl
  unfold x_Ig_compareUnsigned at hf
  refine lv_iload_n hx hb d_Ig_compareUnsigned_0 rfl (lv_at hl 0 rfl) ?_
  refine lv_ldc (v := (-2147483648)) hx hb hown (hts _ gw_1408) d_Ig_compareUnsigned_1 ?_
  refine lv_iadd hx hb d_Ig_compareUnsigned_3 ?_
  refine lv_topi (fun v1 ev => ?_)
  have hf := bn ev hf
  clear ev
  refine lv_iload_n hx hb d_Ig_compareUnsigned_4 rfl (lv_at hl 1 rfl) ?_
  refine lv_ldc (v := (-2147483648)) hx hb hown (hts _ gw_1408) d_Ig_compareUnsigned_5 ?_
  refine lv_iadd hx hb d_Ig_compareUnsigned_7 ?_
  refine lv_topi (fun v2 ev => ?_)
  have hf := bn ev hf
  clear ev
  obtain ⟨v3, hc, hf⟩ := bdp1 hf
  refine q_ai (wr := []) (va_runS (As := [.int v1, .int v2]) (rest := []) ⟨hx, hb, hml, hown, hts⟩ (c_Ig_compare l D cy ad fu v1 v2 _ hc H.size) ⟨q_cB hts gw_1411 gw_19 gw_1409 hdm_14 ⟨by decide, by decide⟩, hts _ gw_1410⟩ (q_pre (hP.sub [] rfl) (hD.sub [] (by decide) rfl) hK hSt hS (va_free hD hS hA [] rfl) _) rfl rfl hl.1 rfl (lv_room (Nat.le_of_ble_eq_true rfl)) d_Ig_compareUnsigned_8 ⟨Nat.le_of_ble_eq_true rfl, Nat.le_of_ble_eq_true rfl⟩) hP hD hS hA [] [] rfl rfl (by decide) (by decide) (fun H locs hP hD hS => ?_)
  clear hc
  have hP : va_P D classes [] H := hP
  have hD : va_D A [] := hD
  obtain rfl := Option.some.inj hf
  exact q_ri hx hb hr hlocks hK hP hD hS d_Ig_compareUnsigned_11
theorem c_Ig_compareUnsigned (l : Launch) (D : va_G) (cy : Nat → ClassId) (ad : Nat → Nat) (fu : Nat) (a0 : Int32) (a1 : Int32) (res : Int32) (hf : x_Ig_compareUnsigned fu a0 a1 = some res) (sz : Nat) : Met l ({ cls := "java/lang/Integer", name := "compareUnsigned", desc := "(II)I" } : Jvm.MethodName) (.code ({ cls := "java/lang/Integer", name := "compareUnsigned", desc := "(II)I" } : Jvm.MethodName) b_Ig_compareUnsigned 2 (some .int) :: gw) rm_Ig_compareUnsigned (va_Pc [.int a0, .int a1] (Pr D cy ad [] sz)) (q_Ig_compareUnsigned D cy (va_A [] sz) res) 0 0 (va_A [] sz) :=
  q_met (Qc := fun A => q_Ig_compareUnsigned D cy A res) (by decide) rfl rfl (Nat.le_of_ble_eq_true rfl) (fun p e s m below meth c ls F hP hD hS hl => we_Ig_compareUnsigned (fu := fu) F a0 a1 res hf _ _ _ hP hD hS hl) sz
abbrev b_M_compare : ByteArray := prog_14_method_10_code
theorem d_M_compare_0 : decode b_M_compare 0 = .ok (.bipush 7, 2) := by decide +kernel
theorem d_M_compare_2 : decode b_M_compare 2 = .ok (.istore_n 2, 1) := by decide +kernel
theorem d_M_compare_3 : decode b_M_compare 3 = .ok (.iload_n 2, 1) := by decide +kernel
theorem d_M_compare_4 : decode b_M_compare 4 = .ok (.ifCond .lt 28, 3) := by decide +kernel
theorem d_M_compare_7 : decode b_M_compare 7 = .ok (.aload_n 0, 1) := by decide +kernel
theorem d_M_compare_8 : decode b_M_compare 8 = .ok (.iload_n 2, 1) := by decide +kernel
theorem d_M_compare_9 : decode b_M_compare 9 = .ok (.iaload, 1) := by decide +kernel
theorem d_M_compare_10 : decode b_M_compare 10 = .ok (.aload_n 1, 1) := by decide +kernel
theorem d_M_compare_11 : decode b_M_compare 11 = .ok (.iload_n 2, 1) := by decide +kernel
theorem d_M_compare_12 : decode b_M_compare 12 = .ok (.iaload, 1) := by decide +kernel
theorem d_M_compare_13 : decode b_M_compare 13 = .ok (.if_icmp .eq 13, 3) := by decide +kernel
theorem d_M_compare_16 : decode b_M_compare 16 = .ok (.aload_n 0, 1) := by decide +kernel
theorem d_M_compare_17 : decode b_M_compare 17 = .ok (.iload_n 2, 1) := by decide +kernel
theorem d_M_compare_18 : decode b_M_compare 18 = .ok (.iaload, 1) := by decide +kernel
theorem d_M_compare_19 : decode b_M_compare 19 = .ok (.aload_n 1, 1) := by decide +kernel
theorem d_M_compare_20 : decode b_M_compare 20 = .ok (.iload_n 2, 1) := by decide +kernel
theorem d_M_compare_21 : decode b_M_compare 21 = .ok (.iaload, 1) := by decide +kernel
theorem d_M_compare_22 : decode b_M_compare 22 = .ok (.invokestatic 327, 3) := by decide +kernel
theorem d_M_compare_25 : decode b_M_compare 25 = .ok (.ireturn, 1) := by decide +kernel
theorem d_M_compare_26 : decode b_M_compare 26 = .ok (.iinc 2 (-1), 3) := by decide +kernel
theorem d_M_compare_29 : decode b_M_compare 29 = .ok (.goto (-26), 3) := by decide +kernel
theorem d_M_compare_32 : decode b_M_compare 32 = .ok (.iconst 0, 1) := by decide +kernel
theorem d_M_compare_33 : decode b_M_compare 33 = .ok (.ireturn, 1) := by decide +kernel
abbrev rm_M_compare_s1x22 : Room := { frames := 2, cells := 0, slots := 0, locals := 42 }
abbrev q_M_compare_s1x22 (D : va_G) (cy : Nat → ClassId) (A : Nat → Prop) (b0 : Nat) (h0 : Nat → Int32) (res : Int32) : Array Value → State → Outcome → State → Prop := va_Qi (fun r' (_ : Unit) => r' = res) (fun _ t => Po D cy A [(b0, .inl (cy 1, 8, .inl h0))] t) A
def I_M_compare_s1x22_3 (p : Program) (l : Launch) (e : Env) (s : State) (m : MethodId) (args : Array Value) (below : List Frame) (meth : Method) (c : Code) (D : va_G) (cy : Nat → ClassId) (A : Nat → Prop) (ad : Nat → Nat) (b0 : Nat) (h0 : Nat → Int32) (k : Int32 → Option (Int32)) : Prop :=
  ∀ (x2 : Int32) (res : Int32), k x2 = some res → ∀ (H : Heap) (locs : List Loc) (ls : Array Slot), va_P D classes [(b0, .inl (cy 1, 8, .inl h0))] H → va_D A [(b0, .inl (cy 1, 8, .inl h0))] → va_S A s.heap H locs → lv_has ls 3 [(0, .ref b0), (1, .ref (ad 22)), (2, .int x2)] → W p l e rm_M_compare_s1x22 s m args below meth c H locs 0 0 (MQ below (q_M_compare_s1x22 D cy A b0 h0 res) args s 0 0 A) (F0 m 3 ls [])
def I_M_compare_s1x22_e (p : Program) (l : Launch) (e : Env) (s : State) (m : MethodId) (args : Array Value) (below : List Frame) (meth : Method) (c : Code) (D : va_G) (cy : Nat → ClassId) (A : Nat → Prop) (ad : Nat → Nat) (b0 : Nat) (h0 : Nat → Int32) (k : Option (Int32)) : Prop :=
  ∀ (res : Int32), k  = some res → ∀ (H : Heap) (locs : List Loc) (ls : Array Slot), va_P D classes [(b0, .inl (cy 1, 8, .inl h0))] H → va_D A [(b0, .inl (cy 1, 8, .inl h0))] → va_S A s.heap H locs → lv_has ls 3 [(0, .ref b0), (1, .ref (ad 22))] → W p l e rm_M_compare_s1x22 s m args below meth c H locs 0 0 (MQ below (q_M_compare_s1x22 D cy A b0 h0 res) args s 0 0 A) (F0 m 0 ls [])
theorem hdm_15 : ({ cls := "java/lang/Integer", name := "compareUnsigned", desc := "(II)I" } : Jvm.MethodName).cls ≠ "java/lang/invoke/MethodHandle" ∧ ({ cls := "java/lang/Integer", name := "compareUnsigned", desc := "(II)I" } : Jvm.MethodName).cls ≠ "java/lang/invoke/VarHandle" ∧ (parseMethodDescriptor ({ cls := "java/lang/Integer", name := "compareUnsigned", desc := "(II)I" } : Jvm.MethodName).desc).map (fun d => d.parameters.length) = some 2 := by decide +kernel
set_option maxHeartbeats 8000000 in
set_option maxRecDepth 100000 in
theorem wb_M_compare_s1x22_3 {p : Program} {l : Launch} {e : Env} {s : State} {m : MethodId} {args : Array Value} {below : List Frame} {meth : Method} {c : Code} {D : va_G} {cy : Nat → ClassId} {A : Nat → Prop} {ad : Nat → Nat} {b0 : Nat} {h0 : Nat → Int32} {fu : Nat} {k_3 : Int32 → Option (Int32)} (F : Fx p s m args meth c b_M_compare 3 "CoinKeeperModel" "compare" (some .int) D cy ad A) (hk_3 : I_M_compare_s1x22_3 p l e s m args below meth c D cy A ad b0 h0 k_3) : I_M_compare_s1x22_3 p l e s m args below meth c D cy A ad b0 h0 (xb_M_compare_s1x22_3 fu h0 k_3) := by
  obtain ⟨hx, hb, hr, hml, hown, hts, hlocks, hK, hA, hSt, hnm, hex⟩ := id F
  intro x2 res hf H locs ls hP hD hS hl
  unfold xb_M_compare_s1x22_3 at hf
  refine lv_iload_n hx hb d_M_compare_3 rfl (lv_at hl 2 rfl) ?_
  refine lv_if_lt (tgt := 32) hx hb d_M_compare_4 (by decide) (fun cx => ?_) (fun cx => ?_)
  · have hf := ifp cx hf
    refine lv_iconst (v := 0) hx hb d_M_compare_32 (by decide) ?_
    obtain rfl := Option.some.inj hf
    exact q_ri hx hb hr hlocks hK hP hD hS d_M_compare_33
  · have hf := ifn cx hf
    refine lv_aload_n hx hb d_M_compare_7 rfl (lv_at hl 0 rfl) ?_
    refine lv_iload_n hx hb d_M_compare_8 rfl (lv_at hl 2 rfl) ?_
    obtain ⟨hg, hf⟩ := gdp hf
    refine va_iald hx hb hK hP 0 1 rfl rfl (inb_in hg) d_M_compare_9 ?_
    refine lv_topi (fun v1 ev => ?_)
    have hf := bn ev hf
    clear ev
    refine lv_aload_n hx hb d_M_compare_10 rfl (lv_at hl 1 rfl) ?_
    refine lv_iload_n hx hb d_M_compare_11 rfl (lv_at hl 2 rfl) ?_
    obtain ⟨hg, hf⟩ := gdp hf
    refine va_ti (v := .int (tb_22.getD x2.toNatClampNeg 0)) hx hb (hSt.1 22 _ rfl).2 hS (inb_in hg) rfl d_M_compare_12 ?_
    refine lv_topi (fun v2 ev => ?_)
    have hf := bn ev hf
    clear ev
    refine lv_icmp_eq (tgt := 26) hx hb d_M_compare_13 (by decide) (fun cx => ?_) (fun cx => ?_)
    · have hf := ifp cx hf
      obtain ⟨v3, ev, hf⟩ := bne hf
      refine lv_iinc (v := v3) (lv' := [(2, .int v3), (0, .ref b0), (1, .ref (ad 22))]) hx hb d_M_compare_26 hl (k := 2) rfl (by rw [ev]; rfl) (by decide) rfl (fun ls hl => ?_)
      clear ev
      refine lv_goto (tgt := 3) hx hb d_M_compare_29 (by decide) ?_
      exact hk_3 _ _ hf _ _ _ hP hD hS (lv_sub hl [1, 2, 0] rfl)
    · have hf := ifn cx hf
      refine lv_aload_n hx hb d_M_compare_16 rfl (lv_at hl 0 rfl) ?_
      refine lv_iload_n hx hb d_M_compare_17 rfl (lv_at hl 2 rfl) ?_
      obtain ⟨hg, hf⟩ := gdp hf
      refine va_iald hx hb hK hP 0 1 rfl rfl (inb_in hg) d_M_compare_18 ?_
      refine lv_topi (fun v4 ev => ?_)
      have hf := bn ev hf
      clear ev
      refine lv_aload_n hx hb d_M_compare_19 rfl (lv_at hl 1 rfl) ?_
      refine lv_iload_n hx hb d_M_compare_20 rfl (lv_at hl 2 rfl) ?_
      obtain ⟨hg, hf⟩ := gdp hf
      refine va_ti (v := .int (tb_22.getD x2.toNatClampNeg 0)) hx hb (hSt.1 22 _ rfl).2 hS (inb_in hg) rfl d_M_compare_21 ?_
      refine lv_topi (fun v5 ev => ?_)
      have hf := bn ev hf
      clear ev
      obtain ⟨v6, hc, hf⟩ := bdp1 hf
      refine q_ai (wr := [(b0, .inl (cy 1, 8, .inl h0))]) (va_runS (As := [.int v4, .int v5]) (rest := []) ⟨hx, hb, hml, hown, hts⟩ (c_Ig_compareUnsigned l D cy ad fu v4 v5 _ hc H.size) ⟨q_cB hts gw_1407 gw_19 gw_1405 hdm_15 ⟨by decide, by decide⟩, hts _ gw_1406⟩ (q_pre (hP.sub [] rfl) (hD.sub [] (by decide) rfl) hK hSt hS (va_free hD hS hA [] rfl) _) rfl rfl hl.1 rfl (lv_room (Nat.le_of_ble_eq_true rfl)) d_M_compare_22 ⟨Nat.le_of_ble_eq_true rfl, Nat.le_of_ble_eq_true rfl⟩) hP hD hS hA [] [0] rfl rfl (by decide) (by decide) (fun H locs hP hD hS => ?_)
      clear hc
      have hP : va_P D classes [(b0, .inl (cy 1, 8, .inl h0))] H := hP
      have hD : va_D A [(b0, .inl (cy 1, 8, .inl h0))] := hD
      obtain rfl := Option.some.inj hf
      exact q_ri hx hb hr hlocks hK hP hD hS d_M_compare_25
theorem w_M_compare_s1x22_3 {p : Program} {l : Launch} {e : Env} {s : State} {m : MethodId} {args : Array Value} {below : List Frame} {meth : Method} {c : Code} {D : va_G} {cy : Nat → ClassId} {A : Nat → Prop} {ad : Nat → Nat} {b0 : Nat} {h0 : Nat → Int32} {fu : Nat} (F : Fx p s m args meth c b_M_compare 3 "CoinKeeperModel" "compare" (some .int) D cy ad A) : ∀ n : Nat, I_M_compare_s1x22_3 p l e s m args below meth c D cy A ad b0 h0 (x_M_compare_s1x22_3 fu h0 n)
  | 0 => fun _ _ hf => nomatch (show (none : Option (Int32)) = some _ from hf)
  | n + 1 => wb_M_compare_s1x22_3 F (w_M_compare_s1x22_3 F n)
set_option maxHeartbeats 8000000 in
set_option maxRecDepth 100000 in
theorem we_M_compare_s1x22 {p : Program} {l : Launch} {e : Env} {s : State} {m : MethodId} {args : Array Value} {below : List Frame} {meth : Method} {c : Code} {D : va_G} {cy : Nat → ClassId} {A : Nat → Prop} {ad : Nat → Nat} {b0 : Nat} {h0 : Nat → Int32} {fu : Nat} (F : Fx p s m args meth c b_M_compare 3 "CoinKeeperModel" "compare" (some .int) D cy ad A) : I_M_compare_s1x22_e p l e s m args below meth c D cy A ad b0 h0 (x_M_compare_s1x22 fu h0) := by
  obtain ⟨hx, hb, hr, hml, hown, hts, hlocks, hK, hA, hSt, hnm, hex⟩ := id F
  intro  res hf H locs ls hP hD hS hl
  unfold x_M_compare_s1x22 at hf
  refine lv_bipush (v := 7) hx hb d_M_compare_0 (by decide) ?_
  refine lv_istore_n (lv' := [(2, .int (7 : Int32)), (0, .ref b0), (1, .ref (ad 22))]) hx hb d_M_compare_2 rfl hl (by decide) rfl (fun ls hl => ?_)
  exact w_M_compare_s1x22_3 F fu _ _ hf _ _ _ hP hD hS (lv_sub hl [1, 2, 0] rfl)
theorem c_M_compare_s1x22 (l : Launch) (D : va_G) (cy : Nat → ClassId) (ad : Nat → Nat) (fu : Nat) (b0 : Nat) (h0 : Nat → Int32) (res : Int32) (hf : x_M_compare_s1x22 fu h0 = some res) (sz : Nat) : Met l ({ cls := "CoinKeeperModel", name := "compare", desc := "([I[I)I" } : Jvm.MethodName) (.code ({ cls := "CoinKeeperModel", name := "compare", desc := "([I[I)I" } : Jvm.MethodName) b_M_compare 3 (some .int) :: gw) rm_M_compare_s1x22 (va_Pc [.ref b0, .ref (ad 22)] (Pr D cy ad [(b0, .inl (cy 1, 8, .inl h0))] sz)) (q_M_compare_s1x22 D cy (va_A [(b0, .inl (cy 1, 8, .inl h0))] sz) b0 h0 res) 0 0 (va_A [(b0, .inl (cy 1, 8, .inl h0))] sz) :=
  q_met (Qc := fun A => q_M_compare_s1x22 D cy A b0 h0 res) (by decide) rfl rfl (Nat.le_of_ble_eq_true rfl) (fun p e s m below meth c ls F hP hD hS hl => we_M_compare_s1x22 (fu := fu) F  res hf _ _ _ hP hD hS hl) sz
abbrev b_M_multiply : ByteArray := prog_14_method_23_code
theorem d_M_multiply_0 : decode b_M_multiply 0 = .ok (.iconst 0, 1) := by decide +kernel
theorem d_M_multiply_1 : decode b_M_multiply 1 = .ok (.istore_n 3, 1) := by decide +kernel
theorem d_M_multiply_2 : decode b_M_multiply 2 = .ok (.iload_n 3, 1) := by decide +kernel
theorem d_M_multiply_3 : decode b_M_multiply 3 = .ok (.bipush 16, 2) := by decide +kernel
theorem d_M_multiply_5 : decode b_M_multiply 5 = .ok (.if_icmp .ge 16, 3) := by decide +kernel
theorem d_M_multiply_8 : decode b_M_multiply 8 = .ok (.aload_n 0, 1) := by decide +kernel
theorem d_M_multiply_9 : decode b_M_multiply 9 = .ok (.getfield 166, 3) := by decide +kernel
theorem d_M_multiply_12 : decode b_M_multiply 12 = .ok (.iload_n 3, 1) := by decide +kernel
theorem d_M_multiply_13 : decode b_M_multiply 13 = .ok (.iconst 0, 1) := by decide +kernel
theorem d_M_multiply_14 : decode b_M_multiply 14 = .ok (.iastore, 1) := by decide +kernel
theorem d_M_multiply_15 : decode b_M_multiply 15 = .ok (.iinc 3 1, 3) := by decide +kernel
theorem d_M_multiply_18 : decode b_M_multiply 18 = .ok (.goto (-16), 3) := by decide +kernel
theorem d_M_multiply_21 : decode b_M_multiply 21 = .ok (.iconst 0, 1) := by decide +kernel
theorem d_M_multiply_22 : decode b_M_multiply 22 = .ok (.istore_n 3, 1) := by decide +kernel
theorem d_M_multiply_23 : decode b_M_multiply 23 = .ok (.iload_n 3, 1) := by decide +kernel
theorem d_M_multiply_24 : decode b_M_multiply 24 = .ok (.bipush 8, 2) := by decide +kernel
theorem d_M_multiply_26 : decode b_M_multiply 26 = .ok (.if_icmp .ge 97, 3) := by decide +kernel
theorem d_M_multiply_29 : decode b_M_multiply 29 = .ok (.lconst 0, 1) := by decide +kernel
theorem d_M_multiply_30 : decode b_M_multiply 30 = .ok (.lstore 4, 2) := by decide +kernel
theorem d_M_multiply_32 : decode b_M_multiply 32 = .ok (.iconst 0, 1) := by decide +kernel
theorem d_M_multiply_33 : decode b_M_multiply 33 = .ok (.istore 6, 2) := by decide +kernel
theorem d_M_multiply_35 : decode b_M_multiply 35 = .ok (.iload 6, 2) := by decide +kernel
theorem d_M_multiply_37 : decode b_M_multiply 37 = .ok (.bipush 8, 2) := by decide +kernel
theorem d_M_multiply_39 : decode b_M_multiply 39 = .ok (.if_icmp .ge 66, 3) := by decide +kernel
theorem d_M_multiply_42 : decode b_M_multiply 42 = .ok (.lload 4, 2) := by decide +kernel
theorem d_M_multiply_44 : decode b_M_multiply 44 = .ok (.aload_n 1, 1) := by decide +kernel
theorem d_M_multiply_45 : decode b_M_multiply 45 = .ok (.iload_n 3, 1) := by decide +kernel
theorem d_M_multiply_46 : decode b_M_multiply 46 = .ok (.iaload, 1) := by decide +kernel
theorem d_M_multiply_47 : decode b_M_multiply 47 = .ok (.i2l, 1) := by decide +kernel
theorem d_M_multiply_48 : decode b_M_multiply 48 = .ok (.ldc2_w 332, 3) := by decide +kernel
theorem d_M_multiply_51 : decode b_M_multiply 51 = .ok (.land, 1) := by decide +kernel
theorem d_M_multiply_52 : decode b_M_multiply 52 = .ok (.aload_n 2, 1) := by decide +kernel
theorem d_M_multiply_53 : decode b_M_multiply 53 = .ok (.iload 6, 2) := by decide +kernel
theorem d_M_multiply_55 : decode b_M_multiply 55 = .ok (.iaload, 1) := by decide +kernel
theorem d_M_multiply_56 : decode b_M_multiply 56 = .ok (.i2l, 1) := by decide +kernel
theorem d_M_multiply_57 : decode b_M_multiply 57 = .ok (.ldc2_w 332, 3) := by decide +kernel
theorem d_M_multiply_60 : decode b_M_multiply 60 = .ok (.land, 1) := by decide +kernel
theorem d_M_multiply_61 : decode b_M_multiply 61 = .ok (.lmul, 1) := by decide +kernel
theorem d_M_multiply_62 : decode b_M_multiply 62 = .ok (.aload_n 0, 1) := by decide +kernel
theorem d_M_multiply_63 : decode b_M_multiply 63 = .ok (.getfield 166, 3) := by decide +kernel
theorem d_M_multiply_66 : decode b_M_multiply 66 = .ok (.iload_n 3, 1) := by decide +kernel
theorem d_M_multiply_67 : decode b_M_multiply 67 = .ok (.iload 6, 2) := by decide +kernel
theorem d_M_multiply_69 : decode b_M_multiply 69 = .ok (.iadd, 1) := by decide +kernel
theorem d_M_multiply_70 : decode b_M_multiply 70 = .ok (.iaload, 1) := by decide +kernel
theorem d_M_multiply_71 : decode b_M_multiply 71 = .ok (.i2l, 1) := by decide +kernel
theorem d_M_multiply_72 : decode b_M_multiply 72 = .ok (.ldc2_w 332, 3) := by decide +kernel
theorem d_M_multiply_75 : decode b_M_multiply 75 = .ok (.land, 1) := by decide +kernel
theorem d_M_multiply_76 : decode b_M_multiply 76 = .ok (.ladd, 1) := by decide +kernel
theorem d_M_multiply_77 : decode b_M_multiply 77 = .ok (.ladd, 1) := by decide +kernel
theorem d_M_multiply_78 : decode b_M_multiply 78 = .ok (.lstore 4, 2) := by decide +kernel
theorem d_M_multiply_80 : decode b_M_multiply 80 = .ok (.aload_n 0, 1) := by decide +kernel
theorem d_M_multiply_81 : decode b_M_multiply 81 = .ok (.getfield 166, 3) := by decide +kernel
theorem d_M_multiply_84 : decode b_M_multiply 84 = .ok (.iload_n 3, 1) := by decide +kernel
theorem d_M_multiply_85 : decode b_M_multiply 85 = .ok (.iload 6, 2) := by decide +kernel
theorem d_M_multiply_87 : decode b_M_multiply 87 = .ok (.iadd, 1) := by decide +kernel
theorem d_M_multiply_88 : decode b_M_multiply 88 = .ok (.lload 4, 2) := by decide +kernel
theorem d_M_multiply_90 : decode b_M_multiply 90 = .ok (.l2i, 1) := by decide +kernel
theorem d_M_multiply_91 : decode b_M_multiply 91 = .ok (.iastore, 1) := by decide +kernel
theorem d_M_multiply_92 : decode b_M_multiply 92 = .ok (.lload 4, 2) := by decide +kernel
theorem d_M_multiply_94 : decode b_M_multiply 94 = .ok (.bipush 32, 2) := by decide +kernel
theorem d_M_multiply_96 : decode b_M_multiply 96 = .ok (.lushr, 1) := by decide +kernel
theorem d_M_multiply_97 : decode b_M_multiply 97 = .ok (.lstore 4, 2) := by decide +kernel
theorem d_M_multiply_99 : decode b_M_multiply 99 = .ok (.iinc 6 1, 3) := by decide +kernel
theorem d_M_multiply_102 : decode b_M_multiply 102 = .ok (.goto (-67), 3) := by decide +kernel
theorem d_M_multiply_105 : decode b_M_multiply 105 = .ok (.aload_n 0, 1) := by decide +kernel
theorem d_M_multiply_106 : decode b_M_multiply 106 = .ok (.getfield 166, 3) := by decide +kernel
theorem d_M_multiply_109 : decode b_M_multiply 109 = .ok (.iload_n 3, 1) := by decide +kernel
theorem d_M_multiply_110 : decode b_M_multiply 110 = .ok (.bipush 8, 2) := by decide +kernel
theorem d_M_multiply_112 : decode b_M_multiply 112 = .ok (.iadd, 1) := by decide +kernel
theorem d_M_multiply_113 : decode b_M_multiply 113 = .ok (.lload 4, 2) := by decide +kernel
theorem d_M_multiply_115 : decode b_M_multiply 115 = .ok (.l2i, 1) := by decide +kernel
theorem d_M_multiply_116 : decode b_M_multiply 116 = .ok (.iastore, 1) := by decide +kernel
theorem d_M_multiply_117 : decode b_M_multiply 117 = .ok (.iinc 3 1, 3) := by decide +kernel
theorem d_M_multiply_120 : decode b_M_multiply 120 = .ok (.goto (-97), 3) := by decide +kernel
theorem d_M_multiply_123 : decode b_M_multiply 123 = .ok (.return_, 1) := by decide +kernel
abbrev rm_M_multiply_e21 : Room := { frames := 0, cells := 0, slots := 0, locals := 0 }
abbrev q_M_multiply_e21 (D : va_G) (cy : Nat → ClassId) (A : Nat → Prop) (o : Nat) (q : Nat → Nat) (b1 : Nat) (z : Nat → Int32) (h1 : Nat → Int32) (res : (Nat → Int32)) : Array Value → State → Outcome → State → Prop := va_Qv (fun (_ : Unit) => True) (fun _ t => Po D cy A [(o, .inr (12, mo q z)), ((q 50), .inl (cy 1, 16, .inl res)), (b1, .inl (cy 1, 8, .inl h1))] t) A
def I_M_multiply_e21_35 (p : Program) (l : Launch) (e : Env) (s : State) (m : MethodId) (args : Array Value) (below : List Frame) (meth : Method) (c : Code) (D : va_G) (cy : Nat → ClassId) (A : Nat → Prop) (ad : Nat → Nat) (o : Nat) (q : Nat → Nat) (b1 : Nat) (z : Nat → Int32) (h1 : Nat → Int32) (k : Int32 → Int64 → Int32 → (Nat → Int32) → Option ((Nat → Int32))) : Prop :=
  ∀ (x3 : Int32) (x4 : Int64) (x6 : Int32) (u0 : Nat → Int32) (res : (Nat → Int32)), k x3 x4 x6 u0 = some res → ∀ (H : Heap) (locs : List Loc) (ls : Array Slot), va_P D classes [(o, .inr (12, mo q z)), ((q 50), .inl (cy 1, 16, .inl u0)), (b1, .inl (cy 1, 8, .inl h1))] H → va_D A [(o, .inr (12, mo q z)), ((q 50), .inl (cy 1, 16, .inl u0)), (b1, .inl (cy 1, 8, .inl h1))] → va_S A s.heap H locs → lv_has ls 7 [(0, .ref o), (1, .ref b1), (2, .ref b1), (3, .int x3), (4, .long x4), (6, .int x6)] → W p l e rm_M_multiply_e21 s m args below meth c H locs 0 0 (MQ below (q_M_multiply_e21 D cy A o q b1 z h1 res) args s 0 0 A) (F0 m 35 ls [])
def I_M_multiply_e21_23 (p : Program) (l : Launch) (e : Env) (s : State) (m : MethodId) (args : Array Value) (below : List Frame) (meth : Method) (c : Code) (D : va_G) (cy : Nat → ClassId) (A : Nat → Prop) (ad : Nat → Nat) (o : Nat) (q : Nat → Nat) (b1 : Nat) (z : Nat → Int32) (h1 : Nat → Int32) (k : Int32 → (Nat → Int32) → Option ((Nat → Int32))) : Prop :=
  ∀ (x3 : Int32) (u0 : Nat → Int32) (res : (Nat → Int32)), k x3 u0 = some res → ∀ (H : Heap) (locs : List Loc) (ls : Array Slot), va_P D classes [(o, .inr (12, mo q z)), ((q 50), .inl (cy 1, 16, .inl u0)), (b1, .inl (cy 1, 8, .inl h1))] H → va_D A [(o, .inr (12, mo q z)), ((q 50), .inl (cy 1, 16, .inl u0)), (b1, .inl (cy 1, 8, .inl h1))] → va_S A s.heap H locs → lv_has ls 7 [(0, .ref o), (1, .ref b1), (2, .ref b1), (3, .int x3)] → W p l e rm_M_multiply_e21 s m args below meth c H locs 0 0 (MQ below (q_M_multiply_e21 D cy A o q b1 z h1 res) args s 0 0 A) (F0 m 23 ls [])
def I_M_multiply_e21_2 (p : Program) (l : Launch) (e : Env) (s : State) (m : MethodId) (args : Array Value) (below : List Frame) (meth : Method) (c : Code) (D : va_G) (cy : Nat → ClassId) (A : Nat → Prop) (ad : Nat → Nat) (o : Nat) (q : Nat → Nat) (b1 : Nat) (z : Nat → Int32) (h1 : Nat → Int32) (k : Int32 → (Nat → Int32) → Option ((Nat → Int32))) : Prop :=
  ∀ (x3 : Int32) (u0 : Nat → Int32) (res : (Nat → Int32)), k x3 u0 = some res → ∀ (H : Heap) (locs : List Loc) (ls : Array Slot), va_P D classes [(o, .inr (12, mo q z)), ((q 50), .inl (cy 1, 16, .inl u0)), (b1, .inl (cy 1, 8, .inl h1))] H → va_D A [(o, .inr (12, mo q z)), ((q 50), .inl (cy 1, 16, .inl u0)), (b1, .inl (cy 1, 8, .inl h1))] → va_S A s.heap H locs → lv_has ls 7 [(0, .ref o), (1, .ref b1), (2, .ref b1), (3, .int x3)] → W p l e rm_M_multiply_e21 s m args below meth c H locs 0 0 (MQ below (q_M_multiply_e21 D cy A o q b1 z h1 res) args s 0 0 A) (F0 m 2 ls [])
def I_M_multiply_e21_e (p : Program) (l : Launch) (e : Env) (s : State) (m : MethodId) (args : Array Value) (below : List Frame) (meth : Method) (c : Code) (D : va_G) (cy : Nat → ClassId) (A : Nat → Prop) (ad : Nat → Nat) (o : Nat) (q : Nat → Nat) (b1 : Nat) (z : Nat → Int32) (h1 : Nat → Int32) (k : (Nat → Int32) → Option ((Nat → Int32))) : Prop :=
  ∀ (u0 : Nat → Int32) (res : (Nat → Int32)), k u0 = some res → ∀ (H : Heap) (locs : List Loc) (ls : Array Slot), va_P D classes [(o, .inr (12, mo q z)), ((q 50), .inl (cy 1, 16, .inl u0)), (b1, .inl (cy 1, 8, .inl h1))] H → va_D A [(o, .inr (12, mo q z)), ((q 50), .inl (cy 1, 16, .inl u0)), (b1, .inl (cy 1, 8, .inl h1))] → va_S A s.heap H locs → lv_has ls 7 [(0, .ref o), (1, .ref b1), (2, .ref b1)] → W p l e rm_M_multiply_e21 s m args below meth c H locs 0 0 (MQ below (q_M_multiply_e21 D cy A o q b1 z h1 res) args s 0 0 A) (F0 m 0 ls [])
set_option maxHeartbeats 8000000 in
set_option maxRecDepth 100000 in
theorem wb_M_multiply_e21_35 {p : Program} {l : Launch} {e : Env} {s : State} {m : MethodId} {args : Array Value} {below : List Frame} {meth : Method} {c : Code} {D : va_G} {cy : Nat → ClassId} {A : Nat → Prop} {ad : Nat → Nat} {o : Nat} {q : Nat → Nat} {b1 : Nat} {z : Nat → Int32} {h1 : Nat → Int32} {fu : Nat} {k_23 : Int32 → (Nat → Int32) → Option ((Nat → Int32))} {k_35 : Int32 → Int64 → Int32 → (Nat → Int32) → Option ((Nat → Int32))} (F : Fx p s m args meth c b_M_multiply 7 "CoinKeeperModel" "multiply" none D cy ad A) (hk_23 : I_M_multiply_e21_23 p l e s m args below meth c D cy A ad o q b1 z h1 k_23) (hk_35 : I_M_multiply_e21_35 p l e s m args below meth c D cy A ad o q b1 z h1 k_35) : I_M_multiply_e21_35 p l e s m args below meth c D cy A ad o q b1 z h1 (xb_M_multiply_e21_35 fu z h1 k_23 k_35) := by
  obtain ⟨hx, hb, hr, hml, hown, hts, hlocks, hK, hA, hSt, hnm, hex⟩ := id F
  intro x3 x4 x6 u0 res hf H locs ls hP hD hS hl
  unfold xb_M_multiply_e21_35 at hf
  refine lv_iload hx hb d_M_multiply_35 (lv_at hl 5 rfl) ?_
  refine lv_bipush (v := 8) hx hb d_M_multiply_37 (by decide) ?_
  refine lv_icmp_ge (tgt := 105) hx hb d_M_multiply_39 (by decide) (fun cx => ?_) (fun cx => ?_)
  · have hf := ifp cx hf
    refine lv_aload_n hx hb d_M_multiply_105 rfl (lv_at hl 0 rfl) ?_
    refine va_get (D := D) (ci := 12) (v := .ref (q 50)) (C := "CoinKeeperModel") (T := F_12) (N := 98) hx hb hts i_12 hown hK hP 0 rfl rfl 58 (by decide) (hts _ gw_1477) (fun _ h9 => h9) rfl d_M_multiply_106 ?_
    refine lv_iload_n hx hb d_M_multiply_109 rfl (lv_at hl 3 rfl) ?_
    refine lv_bipush (v := 8) hx hb d_M_multiply_110 (by decide) ?_
    refine lv_iadd hx hb d_M_multiply_112 ?_
    refine lv_topi (fun v1 ev => ?_)
    have hf := bn ev hf
    clear ev
    refine lv_lload hx hb d_M_multiply_113 (lv_at hl 4 rfl) ?_
    refine lv_l2i hx hb d_M_multiply_115 rfl ?_
    refine lv_topi (fun v2 ev => ?_)
    have hf := bn ev hf
    clear ev
    obtain ⟨hg, hf⟩ := gdp hf
    refine va_iast hx hb hK hP hD hS 1 1 rfl rfl (inb_in hg) d_M_multiply_116 (fun H locs hP hD hS => ?_)
    obtain ⟨f3, ev, hf⟩ := bne hf
    have hP : va_P D classes [(o, .inr (12, mo q z)), ((q 50), .inl (cy 1, 16, .inl f3)), (b1, .inl (cy 1, 8, .inl h1))] H := by rw [ev]; exact hP
    have hD : va_D A [(o, .inr (12, mo q z)), ((q 50), .inl (cy 1, 16, .inl f3)), (b1, .inl (cy 1, 8, .inl h1))] := by rw [ev]; exact hD
    clear ev
    obtain ⟨v4, ev, hf⟩ := bne hf
    refine lv_iinc (v := v4) (lv' := [(3, .int v4), (0, .ref o), (1, .ref b1), (2, .ref b1), (4, .long x4), (6, .int x6)]) hx hb d_M_multiply_117 hl (k := 3) rfl (by rw [ev]; rfl) (by decide) rfl (fun ls hl => ?_)
    clear ev
    refine lv_goto (tgt := 23) hx hb d_M_multiply_120 (by decide) ?_
    exact hk_23 _ _ _ hf _ _ _ hP hD hS (lv_sub hl [1, 2, 3, 0] rfl)
  · have hf := ifn cx hf
    refine lv_lload hx hb d_M_multiply_42 (lv_at hl 4 rfl) ?_
    refine lv_aload_n hx hb d_M_multiply_44 rfl (lv_at hl 1 rfl) ?_
    refine lv_iload_n hx hb d_M_multiply_45 rfl (lv_at hl 3 rfl) ?_
    obtain ⟨hg, hf⟩ := gdp hf
    refine va_iald hx hb hK hP 2 1 rfl rfl (inb_in hg) d_M_multiply_46 ?_
    refine lv_topi (fun v5 ev => ?_)
    have hf := bn ev hf
    clear ev
    refine lv_i2l hx hb d_M_multiply_47 rfl ?_
    refine lv_topl (fun v6 ev => ?_)
    have hf := bn ev hf
    clear ev
    refine lv_ldc2 (v := 4294967295) hx hb hown (hts _ gw_1390) d_M_multiply_48 ?_
    refine lv_land hx hb d_M_multiply_51 ?_
    refine lv_topl (fun v7 ev => ?_)
    have hf := bn ev hf
    clear ev
    refine lv_aload_n hx hb d_M_multiply_52 rfl (lv_at hl 2 rfl) ?_
    refine lv_iload hx hb d_M_multiply_53 (lv_at hl 5 rfl) ?_
    obtain ⟨hg, hf⟩ := gdp hf
    refine va_iald hx hb hK hP 2 1 rfl rfl (inb_in hg) d_M_multiply_55 ?_
    refine lv_topi (fun v8 ev => ?_)
    have hf := bn ev hf
    clear ev
    refine lv_i2l hx hb d_M_multiply_56 rfl ?_
    refine lv_topl (fun v9 ev => ?_)
    have hf := bn ev hf
    clear ev
    refine lv_ldc2 (v := 4294967295) hx hb hown (hts _ gw_1390) d_M_multiply_57 ?_
    refine lv_land hx hb d_M_multiply_60 ?_
    refine lv_lmul hx hb d_M_multiply_61 ?_
    refine lv_topl (fun v10 ev => ?_)
    have hf := bn ev hf
    clear ev
    refine lv_aload_n hx hb d_M_multiply_62 rfl (lv_at hl 0 rfl) ?_
    refine va_get (D := D) (ci := 12) (v := .ref (q 50)) (C := "CoinKeeperModel") (T := F_12) (N := 98) hx hb hts i_12 hown hK hP 0 rfl rfl 58 (by decide) (hts _ gw_1477) (fun _ h9 => h9) rfl d_M_multiply_63 ?_
    refine lv_iload_n hx hb d_M_multiply_66 rfl (lv_at hl 3 rfl) ?_
    refine lv_iload hx hb d_M_multiply_67 (lv_at hl 5 rfl) ?_
    refine lv_iadd hx hb d_M_multiply_69 ?_
    refine lv_topi (fun v11 ev => ?_)
    have hf := bn ev hf
    clear ev
    obtain ⟨hg, hf⟩ := gdp hf
    refine va_iald hx hb hK hP 1 1 rfl rfl (inb_in hg) d_M_multiply_70 ?_
    refine lv_topi (fun v12 ev => ?_)
    have hf := bn ev hf
    clear ev
    refine lv_i2l hx hb d_M_multiply_71 rfl ?_
    refine lv_topl (fun v13 ev => ?_)
    have hf := bn ev hf
    clear ev
    refine lv_ldc2 (v := 4294967295) hx hb hown (hts _ gw_1390) d_M_multiply_72 ?_
    refine lv_land hx hb d_M_multiply_75 ?_
    refine lv_ladd hx hb d_M_multiply_76 ?_
    refine lv_ladd hx hb d_M_multiply_77 ?_
    refine lv_topl (fun v14 ev => ?_)
    have hf := bn ev hf
    clear ev
    refine lv_lstore (lv' := [(4, .long v14), (0, .ref o), (1, .ref b1), (2, .ref b1), (3, .int x3), (6, .int x6)]) hx hb d_M_multiply_78 hl (by decide) rfl (fun ls hl => ?_)
    refine lv_aload_n hx hb d_M_multiply_80 rfl (lv_at hl 1 rfl) ?_
    refine va_get (D := D) (ci := 12) (v := .ref (q 50)) (C := "CoinKeeperModel") (T := F_12) (N := 98) hx hb hts i_12 hown hK hP 0 rfl rfl 58 (by decide) (hts _ gw_1477) (fun _ h9 => h9) rfl d_M_multiply_81 ?_
    refine lv_iload_n hx hb d_M_multiply_84 rfl (lv_at hl 4 rfl) ?_
    refine lv_iload hx hb d_M_multiply_85 (lv_at hl 5 rfl) ?_
    refine lv_iadd hx hb d_M_multiply_87 ?_
    refine lv_topi (fun v15 ev => ?_)
    have hf := bn ev hf
    clear ev
    refine lv_lload hx hb d_M_multiply_88 (lv_at hl 0 rfl) ?_
    refine lv_l2i hx hb d_M_multiply_90 rfl ?_
    refine lv_topi (fun v16 ev => ?_)
    have hf := bn ev hf
    clear ev
    obtain ⟨hg, hf⟩ := gdp hf
    refine va_iast hx hb hK hP hD hS 1 1 rfl rfl (inb_in hg) d_M_multiply_91 (fun H locs hP hD hS => ?_)
    obtain ⟨f17, ev, hf⟩ := bne hf
    have hP : va_P D classes [(o, .inr (12, mo q z)), ((q 50), .inl (cy 1, 16, .inl f17)), (b1, .inl (cy 1, 8, .inl h1))] H := by rw [ev]; exact hP
    have hD : va_D A [(o, .inr (12, mo q z)), ((q 50), .inl (cy 1, 16, .inl f17)), (b1, .inl (cy 1, 8, .inl h1))] := by rw [ev]; exact hD
    clear ev
    refine lv_lload hx hb d_M_multiply_92 (lv_at hl 0 rfl) ?_
    refine lv_bipush (v := 32) hx hb d_M_multiply_94 (by decide) ?_
    refine lv_lushr hx hb d_M_multiply_96 rfl ?_
    refine lv_topl (fun v18 ev => ?_)
    have hf := bn ev hf
    clear ev
    refine lv_lstore (lv' := [(4, .long v18), (0, .ref o), (1, .ref b1), (2, .ref b1), (3, .int x3), (6, .int x6)]) hx hb d_M_multiply_97 hl (by decide) rfl (fun ls hl => ?_)
    obtain ⟨v19, ev, hf⟩ := bne hf
    refine lv_iinc (v := v19) (lv' := [(6, .int v19), (4, .long v18), (0, .ref o), (1, .ref b1), (2, .ref b1), (3, .int x3)]) hx hb d_M_multiply_99 hl (k := 5) rfl (by rw [ev]; rfl) (by decide) rfl (fun ls hl => ?_)
    clear ev
    refine lv_goto (tgt := 35) hx hb d_M_multiply_102 (by decide) ?_
    exact hk_35 _ _ _ _ _ hf _ _ _ hP hD hS (lv_sub hl [2, 3, 4, 5, 1, 0] rfl)
theorem w_M_multiply_e21_35 {p : Program} {l : Launch} {e : Env} {s : State} {m : MethodId} {args : Array Value} {below : List Frame} {meth : Method} {c : Code} {D : va_G} {cy : Nat → ClassId} {A : Nat → Prop} {ad : Nat → Nat} {o : Nat} {q : Nat → Nat} {b1 : Nat} {z : Nat → Int32} {h1 : Nat → Int32} {fu : Nat} {k_23 : Int32 → (Nat → Int32) → Option ((Nat → Int32))} (F : Fx p s m args meth c b_M_multiply 7 "CoinKeeperModel" "multiply" none D cy ad A) (hk_23 : I_M_multiply_e21_23 p l e s m args below meth c D cy A ad o q b1 z h1 k_23) : ∀ n : Nat, I_M_multiply_e21_35 p l e s m args below meth c D cy A ad o q b1 z h1 (x_M_multiply_e21_35 fu z h1 k_23 n)
  | 0 => fun _ _ _ _ _ hf => nomatch (show (none : Option ((Nat → Int32))) = some _ from hf)
  | n + 1 => wb_M_multiply_e21_35 F hk_23 (w_M_multiply_e21_35 F hk_23 n)
set_option maxHeartbeats 8000000 in
set_option maxRecDepth 100000 in
theorem wb_M_multiply_e21_23 {p : Program} {l : Launch} {e : Env} {s : State} {m : MethodId} {args : Array Value} {below : List Frame} {meth : Method} {c : Code} {D : va_G} {cy : Nat → ClassId} {A : Nat → Prop} {ad : Nat → Nat} {o : Nat} {q : Nat → Nat} {b1 : Nat} {z : Nat → Int32} {h1 : Nat → Int32} {fu : Nat} {k_23 : Int32 → (Nat → Int32) → Option ((Nat → Int32))} (F : Fx p s m args meth c b_M_multiply 7 "CoinKeeperModel" "multiply" none D cy ad A) (hk_23 : I_M_multiply_e21_23 p l e s m args below meth c D cy A ad o q b1 z h1 k_23) : I_M_multiply_e21_23 p l e s m args below meth c D cy A ad o q b1 z h1 (xb_M_multiply_e21_23 fu z h1 k_23) := by
  obtain ⟨hx, hb, hr, hml, hown, hts, hlocks, hK, hA, hSt, hnm, hex⟩ := id F
  intro x3 u0 res hf H locs ls hP hD hS hl
  unfold xb_M_multiply_e21_23 at hf
  refine lv_iload_n hx hb d_M_multiply_23 rfl (lv_at hl 3 rfl) ?_
  refine lv_bipush (v := 8) hx hb d_M_multiply_24 (by decide) ?_
  refine lv_icmp_ge (tgt := 123) hx hb d_M_multiply_26 (by decide) (fun cx => ?_) (fun cx => ?_)
  · have hf := ifp cx hf
    obtain rfl := Option.some.inj hf
    exact q_rv hx hb hr hlocks hK hP hD hS d_M_multiply_123
  · have hf := ifn cx hf
    refine lv_lconst (v := 0) hx hb d_M_multiply_29 (by decide) ?_
    refine lv_lstore (lv' := [(4, .long (0 : Int64)), (0, .ref o), (1, .ref b1), (2, .ref b1), (3, .int x3)]) hx hb d_M_multiply_30 hl (by decide) rfl (fun ls hl => ?_)
    refine lv_iconst (v := 0) hx hb d_M_multiply_32 (by decide) ?_
    refine lv_istore (lv' := [(6, .int (0 : Int32)), (4, .long (0 : Int64)), (0, .ref o), (1, .ref b1), (2, .ref b1), (3, .int x3)]) hx hb d_M_multiply_33 hl (by decide) rfl (fun ls hl => ?_)
    exact w_M_multiply_e21_35 F hk_23 fu _ _ _ _ _ hf _ _ _ hP hD hS (lv_sub hl [2, 3, 4, 5, 1, 0] rfl)
theorem w_M_multiply_e21_23 {p : Program} {l : Launch} {e : Env} {s : State} {m : MethodId} {args : Array Value} {below : List Frame} {meth : Method} {c : Code} {D : va_G} {cy : Nat → ClassId} {A : Nat → Prop} {ad : Nat → Nat} {o : Nat} {q : Nat → Nat} {b1 : Nat} {z : Nat → Int32} {h1 : Nat → Int32} {fu : Nat} (F : Fx p s m args meth c b_M_multiply 7 "CoinKeeperModel" "multiply" none D cy ad A) : ∀ n : Nat, I_M_multiply_e21_23 p l e s m args below meth c D cy A ad o q b1 z h1 (x_M_multiply_e21_23 fu z h1 n)
  | 0 => fun _ _ _ hf => nomatch (show (none : Option ((Nat → Int32))) = some _ from hf)
  | n + 1 => wb_M_multiply_e21_23 F (w_M_multiply_e21_23 F n)
set_option maxHeartbeats 8000000 in
set_option maxRecDepth 100000 in
theorem wb_M_multiply_e21_2 {p : Program} {l : Launch} {e : Env} {s : State} {m : MethodId} {args : Array Value} {below : List Frame} {meth : Method} {c : Code} {D : va_G} {cy : Nat → ClassId} {A : Nat → Prop} {ad : Nat → Nat} {o : Nat} {q : Nat → Nat} {b1 : Nat} {z : Nat → Int32} {h1 : Nat → Int32} {fu : Nat} {k_2 : Int32 → (Nat → Int32) → Option ((Nat → Int32))} (F : Fx p s m args meth c b_M_multiply 7 "CoinKeeperModel" "multiply" none D cy ad A) (hk_2 : I_M_multiply_e21_2 p l e s m args below meth c D cy A ad o q b1 z h1 k_2) : I_M_multiply_e21_2 p l e s m args below meth c D cy A ad o q b1 z h1 (xb_M_multiply_e21_2 fu z h1 k_2) := by
  obtain ⟨hx, hb, hr, hml, hown, hts, hlocks, hK, hA, hSt, hnm, hex⟩ := id F
  intro x3 u0 res hf H locs ls hP hD hS hl
  unfold xb_M_multiply_e21_2 at hf
  refine lv_iload_n hx hb d_M_multiply_2 rfl (lv_at hl 3 rfl) ?_
  refine lv_bipush (v := 16) hx hb d_M_multiply_3 (by decide) ?_
  refine lv_icmp_ge (tgt := 21) hx hb d_M_multiply_5 (by decide) (fun cx => ?_) (fun cx => ?_)
  · have hf := ifp cx hf
    refine lv_iconst (v := 0) hx hb d_M_multiply_21 (by decide) ?_
    refine lv_istore_n (lv' := [(3, .int (0 : Int32)), (0, .ref o), (1, .ref b1), (2, .ref b1)]) hx hb d_M_multiply_22 rfl hl (by decide) rfl (fun ls hl => ?_)
    exact w_M_multiply_e21_23 F fu _ _ _ hf _ _ _ hP hD hS (lv_sub hl [1, 2, 3, 0] rfl)
  · have hf := ifn cx hf
    refine lv_aload_n hx hb d_M_multiply_8 rfl (lv_at hl 0 rfl) ?_
    refine va_get (D := D) (ci := 12) (v := .ref (q 50)) (C := "CoinKeeperModel") (T := F_12) (N := 98) hx hb hts i_12 hown hK hP 0 rfl rfl 58 (by decide) (hts _ gw_1477) (fun _ h9 => h9) rfl d_M_multiply_9 ?_
    refine lv_iload_n hx hb d_M_multiply_12 rfl (lv_at hl 3 rfl) ?_
    refine lv_iconst (v := 0) hx hb d_M_multiply_13 (by decide) ?_
    obtain ⟨hg, hf⟩ := gdp hf
    refine va_iast hx hb hK hP hD hS 1 1 rfl rfl (inb_in hg) d_M_multiply_14 (fun H locs hP hD hS => ?_)
    obtain ⟨f1, ev, hf⟩ := bne hf
    have hP : va_P D classes [(o, .inr (12, mo q z)), ((q 50), .inl (cy 1, 16, .inl f1)), (b1, .inl (cy 1, 8, .inl h1))] H := by rw [ev]; exact hP
    have hD : va_D A [(o, .inr (12, mo q z)), ((q 50), .inl (cy 1, 16, .inl f1)), (b1, .inl (cy 1, 8, .inl h1))] := by rw [ev]; exact hD
    clear ev
    obtain ⟨v2, ev, hf⟩ := bne hf
    refine lv_iinc (v := v2) (lv' := [(3, .int v2), (0, .ref o), (1, .ref b1), (2, .ref b1)]) hx hb d_M_multiply_15 hl (k := 3) rfl (by rw [ev]; rfl) (by decide) rfl (fun ls hl => ?_)
    clear ev
    refine lv_goto (tgt := 2) hx hb d_M_multiply_18 (by decide) ?_
    exact hk_2 _ _ _ hf _ _ _ hP hD hS (lv_sub hl [1, 2, 3, 0] rfl)
theorem w_M_multiply_e21_2 {p : Program} {l : Launch} {e : Env} {s : State} {m : MethodId} {args : Array Value} {below : List Frame} {meth : Method} {c : Code} {D : va_G} {cy : Nat → ClassId} {A : Nat → Prop} {ad : Nat → Nat} {o : Nat} {q : Nat → Nat} {b1 : Nat} {z : Nat → Int32} {h1 : Nat → Int32} {fu : Nat} (F : Fx p s m args meth c b_M_multiply 7 "CoinKeeperModel" "multiply" none D cy ad A) : ∀ n : Nat, I_M_multiply_e21_2 p l e s m args below meth c D cy A ad o q b1 z h1 (x_M_multiply_e21_2 fu z h1 n)
  | 0 => fun _ _ _ hf => nomatch (show (none : Option ((Nat → Int32))) = some _ from hf)
  | n + 1 => wb_M_multiply_e21_2 F (w_M_multiply_e21_2 F n)
set_option maxHeartbeats 8000000 in
set_option maxRecDepth 100000 in
theorem we_M_multiply_e21 {p : Program} {l : Launch} {e : Env} {s : State} {m : MethodId} {args : Array Value} {below : List Frame} {meth : Method} {c : Code} {D : va_G} {cy : Nat → ClassId} {A : Nat → Prop} {ad : Nat → Nat} {o : Nat} {q : Nat → Nat} {b1 : Nat} {z : Nat → Int32} {h1 : Nat → Int32} {fu : Nat} (F : Fx p s m args meth c b_M_multiply 7 "CoinKeeperModel" "multiply" none D cy ad A) : I_M_multiply_e21_e p l e s m args below meth c D cy A ad o q b1 z h1 (x_M_multiply_e21 fu z h1) := by
  obtain ⟨hx, hb, hr, hml, hown, hts, hlocks, hK, hA, hSt, hnm, hex⟩ := id F
  intro u0 res hf H locs ls hP hD hS hl
  unfold x_M_multiply_e21 at hf
  refine lv_iconst (v := 0) hx hb d_M_multiply_0 (by decide) ?_
  refine lv_istore_n (lv' := [(3, .int (0 : Int32)), (0, .ref o), (1, .ref b1), (2, .ref b1)]) hx hb d_M_multiply_1 rfl hl (by decide) rfl (fun ls hl => ?_)
  exact w_M_multiply_e21_2 F fu _ _ _ hf _ _ _ hP hD hS (lv_sub hl [1, 2, 3, 0] rfl)
theorem c_M_multiply_e21 (l : Launch) (D : va_G) (cy : Nat → ClassId) (ad : Nat → Nat) (fu : Nat) (o : Nat) (q : Nat → Nat) (b1 : Nat) (z : Nat → Int32) (h1 : Nat → Int32) (u0 : Nat → Int32) (res : (Nat → Int32)) (hf : x_M_multiply_e21 fu z h1 u0 = some res) (sz : Nat) : Met l ({ cls := "CoinKeeperModel", name := "multiply", desc := "([I[I)V" } : Jvm.MethodName) (.code ({ cls := "CoinKeeperModel", name := "multiply", desc := "([I[I)V" } : Jvm.MethodName) b_M_multiply 7 none :: gw) rm_M_multiply_e21 (va_Pc [.ref o, .ref b1, .ref b1] (Pr D cy ad [(o, .inr (12, mo q z)), ((q 50), .inl (cy 1, 16, .inl u0)), (b1, .inl (cy 1, 8, .inl h1))] sz)) (q_M_multiply_e21 D cy (va_A [(o, .inr (12, mo q z)), ((q 50), .inl (cy 1, 16, .inl u0)), (b1, .inl (cy 1, 8, .inl h1))] sz) o q b1 z h1 res) 0 0 (va_A [(o, .inr (12, mo q z)), ((q 50), .inl (cy 1, 16, .inl u0)), (b1, .inl (cy 1, 8, .inl h1))] sz) :=
  q_met (Qc := fun A => q_M_multiply_e21 D cy A o q b1 z h1 res) (by decide) rfl rfl (Nat.le_of_ble_eq_true rfl) (fun p e s m below meth c ls F hP hD hS hl => we_M_multiply_e21 (fu := fu) F u0 res hf _ _ _ hP hD hS hl) sz
abbrev b_M_sub : ByteArray := prog_14_method_13_code
theorem d_M_sub_0 : decode b_M_sub 0 = .ok (.lconst 0, 1) := by decide +kernel
theorem d_M_sub_1 : decode b_M_sub 1 = .ok (.lstore_n 3, 1) := by decide +kernel
theorem d_M_sub_2 : decode b_M_sub 2 = .ok (.iconst 0, 1) := by decide +kernel
theorem d_M_sub_3 : decode b_M_sub 3 = .ok (.istore 5, 2) := by decide +kernel
theorem d_M_sub_5 : decode b_M_sub 5 = .ok (.iload 5, 2) := by decide +kernel
theorem d_M_sub_7 : decode b_M_sub 7 = .ok (.bipush 8, 2) := by decide +kernel
theorem d_M_sub_9 : decode b_M_sub 9 = .ok (.if_icmp .ge 42, 3) := by decide +kernel
theorem d_M_sub_12 : decode b_M_sub 12 = .ok (.aload_n 1, 1) := by decide +kernel
theorem d_M_sub_13 : decode b_M_sub 13 = .ok (.iload 5, 2) := by decide +kernel
theorem d_M_sub_15 : decode b_M_sub 15 = .ok (.iaload, 1) := by decide +kernel
theorem d_M_sub_16 : decode b_M_sub 16 = .ok (.i2l, 1) := by decide +kernel
theorem d_M_sub_17 : decode b_M_sub 17 = .ok (.ldc2_w 332, 3) := by decide +kernel
theorem d_M_sub_20 : decode b_M_sub 20 = .ok (.land, 1) := by decide +kernel
theorem d_M_sub_21 : decode b_M_sub 21 = .ok (.aload_n 2, 1) := by decide +kernel
theorem d_M_sub_22 : decode b_M_sub 22 = .ok (.iload 5, 2) := by decide +kernel
theorem d_M_sub_24 : decode b_M_sub 24 = .ok (.iaload, 1) := by decide +kernel
theorem d_M_sub_25 : decode b_M_sub 25 = .ok (.i2l, 1) := by decide +kernel
theorem d_M_sub_26 : decode b_M_sub 26 = .ok (.ldc2_w 332, 3) := by decide +kernel
theorem d_M_sub_29 : decode b_M_sub 29 = .ok (.land, 1) := by decide +kernel
theorem d_M_sub_30 : decode b_M_sub 30 = .ok (.lsub, 1) := by decide +kernel
theorem d_M_sub_31 : decode b_M_sub 31 = .ok (.lload_n 3, 1) := by decide +kernel
theorem d_M_sub_32 : decode b_M_sub 32 = .ok (.ladd, 1) := by decide +kernel
theorem d_M_sub_33 : decode b_M_sub 33 = .ok (.lstore_n 3, 1) := by decide +kernel
theorem d_M_sub_34 : decode b_M_sub 34 = .ok (.aload_n 0, 1) := by decide +kernel
theorem d_M_sub_35 : decode b_M_sub 35 = .ok (.iload 5, 2) := by decide +kernel
theorem d_M_sub_37 : decode b_M_sub 37 = .ok (.lload_n 3, 1) := by decide +kernel
theorem d_M_sub_38 : decode b_M_sub 38 = .ok (.l2i, 1) := by decide +kernel
theorem d_M_sub_39 : decode b_M_sub 39 = .ok (.iastore, 1) := by decide +kernel
theorem d_M_sub_40 : decode b_M_sub 40 = .ok (.lload_n 3, 1) := by decide +kernel
theorem d_M_sub_41 : decode b_M_sub 41 = .ok (.bipush 32, 2) := by decide +kernel
theorem d_M_sub_43 : decode b_M_sub 43 = .ok (.lshr, 1) := by decide +kernel
theorem d_M_sub_44 : decode b_M_sub 44 = .ok (.lstore_n 3, 1) := by decide +kernel
theorem d_M_sub_45 : decode b_M_sub 45 = .ok (.iinc 5 1, 3) := by decide +kernel
theorem d_M_sub_48 : decode b_M_sub 48 = .ok (.goto (-43), 3) := by decide +kernel
theorem d_M_sub_51 : decode b_M_sub 51 = .ok (.lload_n 3, 1) := by decide +kernel
theorem d_M_sub_52 : decode b_M_sub 52 = .ok (.l2i, 1) := by decide +kernel
theorem d_M_sub_53 : decode b_M_sub 53 = .ok (.ireturn, 1) := by decide +kernel
abbrev rm_M_sub_e10s2x22 : Room := { frames := 0, cells := 0, slots := 0, locals := 0 }
abbrev q_M_sub_e10s2x22 (D : va_G) (cy : Nat → ClassId) (A : Nat → Prop) (b0 : Nat) (res : Int32 × (Nat → Int32)) : Array Value → State → Outcome → State → Prop := va_Qi (fun r' (_ : Unit) => r' = res.1) (fun _ t => Po D cy A [(b0, .inl (cy 1, 8, .inl res.2))] t) A
def I_M_sub_e10s2x22_5 (p : Program) (l : Launch) (e : Env) (s : State) (m : MethodId) (args : Array Value) (below : List Frame) (meth : Method) (c : Code) (D : va_G) (cy : Nat → ClassId) (A : Nat → Prop) (ad : Nat → Nat) (b0 : Nat) (k : Int64 → Int32 → (Nat → Int32) → Option (Int32 × (Nat → Int32))) : Prop :=
  ∀ (x3 : Int64) (x5 : Int32) (u0 : Nat → Int32) (res : Int32 × (Nat → Int32)), k x3 x5 u0 = some res → ∀ (H : Heap) (locs : List Loc) (ls : Array Slot), va_P D classes [(b0, .inl (cy 1, 8, .inl u0))] H → va_D A [(b0, .inl (cy 1, 8, .inl u0))] → va_S A s.heap H locs → lv_has ls 6 [(0, .ref b0), (1, .ref b0), (2, .ref (ad 22)), (3, .long x3), (5, .int x5)] → W p l e rm_M_sub_e10s2x22 s m args below meth c H locs 0 0 (MQ below (q_M_sub_e10s2x22 D cy A b0 res) args s 0 0 A) (F0 m 5 ls [])
def I_M_sub_e10s2x22_e (p : Program) (l : Launch) (e : Env) (s : State) (m : MethodId) (args : Array Value) (below : List Frame) (meth : Method) (c : Code) (D : va_G) (cy : Nat → ClassId) (A : Nat → Prop) (ad : Nat → Nat) (b0 : Nat) (k : (Nat → Int32) → Option (Int32 × (Nat → Int32))) : Prop :=
  ∀ (u0 : Nat → Int32) (res : Int32 × (Nat → Int32)), k u0 = some res → ∀ (H : Heap) (locs : List Loc) (ls : Array Slot), va_P D classes [(b0, .inl (cy 1, 8, .inl u0))] H → va_D A [(b0, .inl (cy 1, 8, .inl u0))] → va_S A s.heap H locs → lv_has ls 6 [(0, .ref b0), (1, .ref b0), (2, .ref (ad 22))] → W p l e rm_M_sub_e10s2x22 s m args below meth c H locs 0 0 (MQ below (q_M_sub_e10s2x22 D cy A b0 res) args s 0 0 A) (F0 m 0 ls [])
set_option maxHeartbeats 8000000 in
set_option maxRecDepth 100000 in
theorem wb_M_sub_e10s2x22_5 {p : Program} {l : Launch} {e : Env} {s : State} {m : MethodId} {args : Array Value} {below : List Frame} {meth : Method} {c : Code} {D : va_G} {cy : Nat → ClassId} {A : Nat → Prop} {ad : Nat → Nat} {b0 : Nat} {fu : Nat} {k_5 : Int64 → Int32 → (Nat → Int32) → Option (Int32 × (Nat → Int32))} (F : Fx p s m args meth c b_M_sub 6 "CoinKeeperModel" "sub" (some .int) D cy ad A) (hk_5 : I_M_sub_e10s2x22_5 p l e s m args below meth c D cy A ad b0 k_5) : I_M_sub_e10s2x22_5 p l e s m args below meth c D cy A ad b0 (xb_M_sub_e10s2x22_5 fu k_5) := by
  obtain ⟨hx, hb, hr, hml, hown, hts, hlocks, hK, hA, hSt, hnm, hex⟩ := id F
  intro x3 x5 u0 res hf H locs ls hP hD hS hl
  unfold xb_M_sub_e10s2x22_5 at hf
  refine lv_iload hx hb d_M_sub_5 (lv_at hl 4 rfl) ?_
  refine lv_bipush (v := 8) hx hb d_M_sub_7 (by decide) ?_
  refine lv_icmp_ge (tgt := 51) hx hb d_M_sub_9 (by decide) (fun cx => ?_) (fun cx => ?_)
  · have hf := ifp cx hf
    refine lv_lload_n hx hb d_M_sub_51 rfl (lv_at hl 3 rfl) ?_
    refine lv_l2i hx hb d_M_sub_52 rfl ?_
    refine lv_topi (fun v1 ev => ?_)
    have hf := bn ev hf
    clear ev
    obtain rfl := Option.some.inj hf
    exact q_ri hx hb hr hlocks hK hP hD hS d_M_sub_53
  · have hf := ifn cx hf
    refine lv_aload_n hx hb d_M_sub_12 rfl (lv_at hl 1 rfl) ?_
    refine lv_iload hx hb d_M_sub_13 (lv_at hl 4 rfl) ?_
    obtain ⟨hg, hf⟩ := gdp hf
    refine va_iald hx hb hK hP 0 1 rfl rfl (inb_in hg) d_M_sub_15 ?_
    refine lv_topi (fun v2 ev => ?_)
    have hf := bn ev hf
    clear ev
    refine lv_i2l hx hb d_M_sub_16 rfl ?_
    refine lv_topl (fun v3 ev => ?_)
    have hf := bn ev hf
    clear ev
    refine lv_ldc2 (v := 4294967295) hx hb hown (hts _ gw_1390) d_M_sub_17 ?_
    refine lv_land hx hb d_M_sub_20 ?_
    refine lv_topl (fun v4 ev => ?_)
    have hf := bn ev hf
    clear ev
    refine lv_aload_n hx hb d_M_sub_21 rfl (lv_at hl 2 rfl) ?_
    refine lv_iload hx hb d_M_sub_22 (lv_at hl 4 rfl) ?_
    obtain ⟨hg, hf⟩ := gdp hf
    refine va_ti (v := .int (tb_22.getD x5.toNatClampNeg 0)) hx hb (hSt.1 22 _ rfl).2 hS (inb_in hg) rfl d_M_sub_24 ?_
    refine lv_topi (fun v5 ev => ?_)
    have hf := bn ev hf
    clear ev
    refine lv_i2l hx hb d_M_sub_25 rfl ?_
    refine lv_topl (fun v6 ev => ?_)
    have hf := bn ev hf
    clear ev
    refine lv_ldc2 (v := 4294967295) hx hb hown (hts _ gw_1390) d_M_sub_26 ?_
    refine lv_land hx hb d_M_sub_29 ?_
    refine lv_lsub hx hb d_M_sub_30 ?_
    refine lv_topl (fun v7 ev => ?_)
    have hf := bn ev hf
    clear ev
    refine lv_lload_n hx hb d_M_sub_31 rfl (lv_at hl 3 rfl) ?_
    refine lv_ladd hx hb d_M_sub_32 ?_
    refine lv_topl (fun v8 ev => ?_)
    have hf := bn ev hf
    clear ev
    refine lv_lstore_n (lv' := [(3, .long v8), (0, .ref b0), (1, .ref b0), (2, .ref (ad 22)), (5, .int x5)]) hx hb d_M_sub_33 rfl hl (by decide) rfl (fun ls hl => ?_)
    refine lv_aload_n hx hb d_M_sub_34 rfl (lv_at hl 1 rfl) ?_
    refine lv_iload hx hb d_M_sub_35 (lv_at hl 4 rfl) ?_
    refine lv_lload_n hx hb d_M_sub_37 rfl (lv_at hl 0 rfl) ?_
    refine lv_l2i hx hb d_M_sub_38 rfl ?_
    refine lv_topi (fun v9 ev => ?_)
    have hf := bn ev hf
    clear ev
    obtain ⟨hg, hf⟩ := gdp hf
    refine va_iast hx hb hK hP hD hS 0 1 rfl rfl (inb_in hg) d_M_sub_39 (fun H locs hP hD hS => ?_)
    obtain ⟨f10, ev, hf⟩ := bne hf
    have hP : va_P D classes [(b0, .inl (cy 1, 8, .inl f10))] H := by rw [ev]; exact hP
    have hD : va_D A [(b0, .inl (cy 1, 8, .inl f10))] := by rw [ev]; exact hD
    clear ev
    refine lv_lload_n hx hb d_M_sub_40 rfl (lv_at hl 0 rfl) ?_
    refine lv_bipush (v := 32) hx hb d_M_sub_41 (by decide) ?_
    refine lv_lshr hx hb d_M_sub_43 rfl ?_
    refine lv_topl (fun v11 ev => ?_)
    have hf := bn ev hf
    clear ev
    refine lv_lstore_n (lv' := [(3, .long v11), (0, .ref b0), (1, .ref b0), (2, .ref (ad 22)), (5, .int x5)]) hx hb d_M_sub_44 rfl hl (by decide) rfl (fun ls hl => ?_)
    obtain ⟨v12, ev, hf⟩ := bne hf
    refine lv_iinc (v := v12) (lv' := [(5, .int v12), (3, .long v11), (0, .ref b0), (1, .ref b0), (2, .ref (ad 22))]) hx hb d_M_sub_45 hl (k := 4) rfl (by rw [ev]; rfl) (by decide) rfl (fun ls hl => ?_)
    clear ev
    refine lv_goto (tgt := 5) hx hb d_M_sub_48 (by decide) ?_
    exact hk_5 _ _ _ _ hf _ _ _ hP hD hS (lv_sub hl [2, 3, 4, 1, 0] rfl)
theorem w_M_sub_e10s2x22_5 {p : Program} {l : Launch} {e : Env} {s : State} {m : MethodId} {args : Array Value} {below : List Frame} {meth : Method} {c : Code} {D : va_G} {cy : Nat → ClassId} {A : Nat → Prop} {ad : Nat → Nat} {b0 : Nat} {fu : Nat} (F : Fx p s m args meth c b_M_sub 6 "CoinKeeperModel" "sub" (some .int) D cy ad A) : ∀ n : Nat, I_M_sub_e10s2x22_5 p l e s m args below meth c D cy A ad b0 (x_M_sub_e10s2x22_5 fu n)
  | 0 => fun _ _ _ _ hf => nomatch (show (none : Option (Int32 × (Nat → Int32))) = some _ from hf)
  | n + 1 => wb_M_sub_e10s2x22_5 F (w_M_sub_e10s2x22_5 F n)
set_option maxHeartbeats 8000000 in
set_option maxRecDepth 100000 in
theorem we_M_sub_e10s2x22 {p : Program} {l : Launch} {e : Env} {s : State} {m : MethodId} {args : Array Value} {below : List Frame} {meth : Method} {c : Code} {D : va_G} {cy : Nat → ClassId} {A : Nat → Prop} {ad : Nat → Nat} {b0 : Nat} {fu : Nat} (F : Fx p s m args meth c b_M_sub 6 "CoinKeeperModel" "sub" (some .int) D cy ad A) : I_M_sub_e10s2x22_e p l e s m args below meth c D cy A ad b0 (x_M_sub_e10s2x22 fu) := by
  obtain ⟨hx, hb, hr, hml, hown, hts, hlocks, hK, hA, hSt, hnm, hex⟩ := id F
  intro u0 res hf H locs ls hP hD hS hl
  unfold x_M_sub_e10s2x22 at hf
  refine lv_lconst (v := 0) hx hb d_M_sub_0 (by decide) ?_
  refine lv_lstore_n (lv' := [(3, .long (0 : Int64)), (0, .ref b0), (1, .ref b0), (2, .ref (ad 22))]) hx hb d_M_sub_1 rfl hl (by decide) rfl (fun ls hl => ?_)
  refine lv_iconst (v := 0) hx hb d_M_sub_2 (by decide) ?_
  refine lv_istore (lv' := [(5, .int (0 : Int32)), (3, .long (0 : Int64)), (0, .ref b0), (1, .ref b0), (2, .ref (ad 22))]) hx hb d_M_sub_3 hl (by decide) rfl (fun ls hl => ?_)
  exact w_M_sub_e10s2x22_5 F fu _ _ _ _ hf _ _ _ hP hD hS (lv_sub hl [2, 3, 4, 1, 0] rfl)
theorem c_M_sub_e10s2x22 (l : Launch) (D : va_G) (cy : Nat → ClassId) (ad : Nat → Nat) (fu : Nat) (b0 : Nat) (u0 : Nat → Int32) (res : Int32 × (Nat → Int32)) (hf : x_M_sub_e10s2x22 fu u0 = some res) (sz : Nat) : Met l ({ cls := "CoinKeeperModel", name := "sub", desc := "([I[I[I)I" } : Jvm.MethodName) (.code ({ cls := "CoinKeeperModel", name := "sub", desc := "([I[I[I)I" } : Jvm.MethodName) b_M_sub 6 (some .int) :: gw) rm_M_sub_e10s2x22 (va_Pc [.ref b0, .ref b0, .ref (ad 22)] (Pr D cy ad [(b0, .inl (cy 1, 8, .inl u0))] sz)) (q_M_sub_e10s2x22 D cy (va_A [(b0, .inl (cy 1, 8, .inl u0))] sz) b0 res) 0 0 (va_A [(b0, .inl (cy 1, 8, .inl u0))] sz) :=
  q_met (Qc := fun A => q_M_sub_e10s2x22 D cy A b0 res) (by decide) rfl rfl (Nat.le_of_ble_eq_true rfl) (fun p e s m below meth c ls F hP hD hS hl => we_M_sub_e10s2x22 (fu := fu) F u0 res hf _ _ _ hP hD hS hl) sz
abbrev b_M_times : ByteArray := prog_14_method_24_code
theorem d_M_times_0 : decode b_M_times 0 = .ok (.aload_n 0, 1) := by decide +kernel
theorem d_M_times_1 : decode b_M_times 1 = .ok (.aload_n 2, 1) := by decide +kernel
theorem d_M_times_2 : decode b_M_times 2 = .ok (.aload_n 3, 1) := by decide +kernel
theorem d_M_times_3 : decode b_M_times 3 = .ok (.invokevirtual 370, 3) := by decide +kernel
theorem d_M_times_6 : decode b_M_times 6 = .ok (.lconst 0, 1) := by decide +kernel
theorem d_M_times_7 : decode b_M_times 7 = .ok (.lstore 4, 2) := by decide +kernel
theorem d_M_times_9 : decode b_M_times 9 = .ok (.iconst 0, 1) := by decide +kernel
theorem d_M_times_10 : decode b_M_times 10 = .ok (.istore 6, 2) := by decide +kernel
theorem d_M_times_12 : decode b_M_times 12 = .ok (.iload 6, 2) := by decide +kernel
theorem d_M_times_14 : decode b_M_times 14 = .ok (.bipush 8, 2) := by decide +kernel
theorem d_M_times_16 : decode b_M_times 16 = .ok (.if_icmp .ge 85, 3) := by decide +kernel
theorem d_M_times_19 : decode b_M_times 19 = .ok (.lload 4, 2) := by decide +kernel
theorem d_M_times_21 : decode b_M_times 21 = .ok (.aload_n 0, 1) := by decide +kernel
theorem d_M_times_22 : decode b_M_times 22 = .ok (.getfield 166, 3) := by decide +kernel
theorem d_M_times_25 : decode b_M_times 25 = .ok (.iload 6, 2) := by decide +kernel
theorem d_M_times_27 : decode b_M_times 27 = .ok (.iaload, 1) := by decide +kernel
theorem d_M_times_28 : decode b_M_times 28 = .ok (.i2l, 1) := by decide +kernel
theorem d_M_times_29 : decode b_M_times 29 = .ok (.ldc2_w 332, 3) := by decide +kernel
theorem d_M_times_32 : decode b_M_times 32 = .ok (.land, 1) := by decide +kernel
theorem d_M_times_33 : decode b_M_times 33 = .ok (.aload_n 0, 1) := by decide +kernel
theorem d_M_times_34 : decode b_M_times 34 = .ok (.getfield 166, 3) := by decide +kernel
theorem d_M_times_37 : decode b_M_times 37 = .ok (.bipush 8, 2) := by decide +kernel
theorem d_M_times_39 : decode b_M_times 39 = .ok (.iload 6, 2) := by decide +kernel
theorem d_M_times_41 : decode b_M_times 41 = .ok (.iadd, 1) := by decide +kernel
theorem d_M_times_42 : decode b_M_times 42 = .ok (.iaload, 1) := by decide +kernel
theorem d_M_times_43 : decode b_M_times 43 = .ok (.i2l, 1) := by decide +kernel
theorem d_M_times_44 : decode b_M_times 44 = .ok (.ldc2_w 332, 3) := by decide +kernel
theorem d_M_times_47 : decode b_M_times 47 = .ok (.land, 1) := by decide +kernel
theorem d_M_times_48 : decode b_M_times 48 = .ok (.ldc2_w 373, 3) := by decide +kernel
theorem d_M_times_51 : decode b_M_times 51 = .ok (.lmul, 1) := by decide +kernel
theorem d_M_times_52 : decode b_M_times 52 = .ok (.ladd, 1) := by decide +kernel
theorem d_M_times_53 : decode b_M_times 53 = .ok (.iload 6, 2) := by decide +kernel
theorem d_M_times_55 : decode b_M_times 55 = .ok (.ifCond .le 21, 3) := by decide +kernel
theorem d_M_times_58 : decode b_M_times 58 = .ok (.aload_n 0, 1) := by decide +kernel
theorem d_M_times_59 : decode b_M_times 59 = .ok (.getfield 166, 3) := by decide +kernel
theorem d_M_times_62 : decode b_M_times 62 = .ok (.bipush 7, 2) := by decide +kernel
theorem d_M_times_64 : decode b_M_times 64 = .ok (.iload 6, 2) := by decide +kernel
theorem d_M_times_66 : decode b_M_times 66 = .ok (.iadd, 1) := by decide +kernel
theorem d_M_times_67 : decode b_M_times 67 = .ok (.iaload, 1) := by decide +kernel
theorem d_M_times_68 : decode b_M_times 68 = .ok (.i2l, 1) := by decide +kernel
theorem d_M_times_69 : decode b_M_times 69 = .ok (.ldc2_w 332, 3) := by decide +kernel
theorem d_M_times_72 : decode b_M_times 72 = .ok (.land, 1) := by decide +kernel
theorem d_M_times_73 : decode b_M_times 73 = .ok (.goto 4, 3) := by decide +kernel
theorem d_M_times_76 : decode b_M_times 76 = .ok (.lconst 0, 1) := by decide +kernel
theorem d_M_times_77 : decode b_M_times 77 = .ok (.ladd, 1) := by decide +kernel
theorem d_M_times_78 : decode b_M_times 78 = .ok (.ladd, 1) := by decide +kernel
theorem d_M_times_79 : decode b_M_times 79 = .ok (.lstore 4, 2) := by decide +kernel
theorem d_M_times_81 : decode b_M_times 81 = .ok (.aload_n 1, 1) := by decide +kernel
theorem d_M_times_82 : decode b_M_times 82 = .ok (.iload 6, 2) := by decide +kernel
theorem d_M_times_84 : decode b_M_times 84 = .ok (.lload 4, 2) := by decide +kernel
theorem d_M_times_86 : decode b_M_times 86 = .ok (.l2i, 1) := by decide +kernel
theorem d_M_times_87 : decode b_M_times 87 = .ok (.iastore, 1) := by decide +kernel
theorem d_M_times_88 : decode b_M_times 88 = .ok (.lload 4, 2) := by decide +kernel
theorem d_M_times_90 : decode b_M_times 90 = .ok (.bipush 32, 2) := by decide +kernel
theorem d_M_times_92 : decode b_M_times 92 = .ok (.lushr, 1) := by decide +kernel
theorem d_M_times_93 : decode b_M_times 93 = .ok (.lstore 4, 2) := by decide +kernel
theorem d_M_times_95 : decode b_M_times 95 = .ok (.iinc 6 1, 3) := by decide +kernel
theorem d_M_times_98 : decode b_M_times 98 = .ok (.goto (-86), 3) := by decide +kernel
theorem d_M_times_101 : decode b_M_times 101 = .ok (.lload 4, 2) := by decide +kernel
theorem d_M_times_103 : decode b_M_times 103 = .ok (.aload_n 0, 1) := by decide +kernel
theorem d_M_times_104 : decode b_M_times 104 = .ok (.getfield 166, 3) := by decide +kernel
theorem d_M_times_107 : decode b_M_times 107 = .ok (.bipush 15, 2) := by decide +kernel
theorem d_M_times_109 : decode b_M_times 109 = .ok (.iaload, 1) := by decide +kernel
theorem d_M_times_110 : decode b_M_times 110 = .ok (.i2l, 1) := by decide +kernel
theorem d_M_times_111 : decode b_M_times 111 = .ok (.ldc2_w 332, 3) := by decide +kernel
theorem d_M_times_114 : decode b_M_times 114 = .ok (.land, 1) := by decide +kernel
theorem d_M_times_115 : decode b_M_times 115 = .ok (.ladd, 1) := by decide +kernel
theorem d_M_times_116 : decode b_M_times 116 = .ok (.lstore 6, 2) := by decide +kernel
theorem d_M_times_118 : decode b_M_times 118 = .ok (.lload 6, 2) := by decide +kernel
theorem d_M_times_120 : decode b_M_times 120 = .ok (.lconst 0, 1) := by decide +kernel
theorem d_M_times_121 : decode b_M_times 121 = .ok (.lcmp, 1) := by decide +kernel
theorem d_M_times_122 : decode b_M_times 122 = .ok (.ifCond .le 84, 3) := by decide +kernel
theorem d_M_times_125 : decode b_M_times 125 = .ok (.lconst 0, 1) := by decide +kernel
theorem d_M_times_126 : decode b_M_times 126 = .ok (.lstore 4, 2) := by decide +kernel
theorem d_M_times_128 : decode b_M_times 128 = .ok (.iconst 0, 1) := by decide +kernel
theorem d_M_times_129 : decode b_M_times 129 = .ok (.istore 8, 2) := by decide +kernel
theorem d_M_times_131 : decode b_M_times 131 = .ok (.iload 8, 2) := by decide +kernel
theorem d_M_times_133 : decode b_M_times 133 = .ok (.bipush 8, 2) := by decide +kernel
theorem d_M_times_135 : decode b_M_times 135 = .ok (.if_icmp .ge 64, 3) := by decide +kernel
theorem d_M_times_138 : decode b_M_times 138 = .ok (.lload 4, 2) := by decide +kernel
theorem d_M_times_140 : decode b_M_times 140 = .ok (.aload_n 1, 1) := by decide +kernel
theorem d_M_times_141 : decode b_M_times 141 = .ok (.iload 8, 2) := by decide +kernel
theorem d_M_times_143 : decode b_M_times 143 = .ok (.iaload, 1) := by decide +kernel
theorem d_M_times_144 : decode b_M_times 144 = .ok (.i2l, 1) := by decide +kernel
theorem d_M_times_145 : decode b_M_times 145 = .ok (.ldc2_w 332, 3) := by decide +kernel
theorem d_M_times_148 : decode b_M_times 148 = .ok (.land, 1) := by decide +kernel
theorem d_M_times_149 : decode b_M_times 149 = .ok (.iload 8, 2) := by decide +kernel
theorem d_M_times_151 : decode b_M_times 151 = .ok (.ifCond .ne 12, 3) := by decide +kernel
theorem d_M_times_154 : decode b_M_times 154 = .ok (.lload 6, 2) := by decide +kernel
theorem d_M_times_156 : decode b_M_times 156 = .ok (.ldc2_w 373, 3) := by decide +kernel
theorem d_M_times_159 : decode b_M_times 159 = .ok (.lmul, 1) := by decide +kernel
theorem d_M_times_160 : decode b_M_times 160 = .ok (.goto 15, 3) := by decide +kernel
theorem d_M_times_163 : decode b_M_times 163 = .ok (.iload 8, 2) := by decide +kernel
theorem d_M_times_165 : decode b_M_times 165 = .ok (.iconst 1, 1) := by decide +kernel
theorem d_M_times_166 : decode b_M_times 166 = .ok (.if_icmp .ne 8, 3) := by decide +kernel
theorem d_M_times_169 : decode b_M_times 169 = .ok (.lload 6, 2) := by decide +kernel
theorem d_M_times_171 : decode b_M_times 171 = .ok (.goto 4, 3) := by decide +kernel
theorem d_M_times_174 : decode b_M_times 174 = .ok (.lconst 0, 1) := by decide +kernel
theorem d_M_times_175 : decode b_M_times 175 = .ok (.ladd, 1) := by decide +kernel
theorem d_M_times_176 : decode b_M_times 176 = .ok (.ladd, 1) := by decide +kernel
theorem d_M_times_177 : decode b_M_times 177 = .ok (.lstore 4, 2) := by decide +kernel
theorem d_M_times_179 : decode b_M_times 179 = .ok (.aload_n 1, 1) := by decide +kernel
theorem d_M_times_180 : decode b_M_times 180 = .ok (.iload 8, 2) := by decide +kernel
theorem d_M_times_182 : decode b_M_times 182 = .ok (.lload 4, 2) := by decide +kernel
theorem d_M_times_184 : decode b_M_times 184 = .ok (.l2i, 1) := by decide +kernel
theorem d_M_times_185 : decode b_M_times 185 = .ok (.iastore, 1) := by decide +kernel
theorem d_M_times_186 : decode b_M_times 186 = .ok (.lload 4, 2) := by decide +kernel
theorem d_M_times_188 : decode b_M_times 188 = .ok (.bipush 32, 2) := by decide +kernel
theorem d_M_times_190 : decode b_M_times 190 = .ok (.lushr, 1) := by decide +kernel
theorem d_M_times_191 : decode b_M_times 191 = .ok (.lstore 4, 2) := by decide +kernel
theorem d_M_times_193 : decode b_M_times 193 = .ok (.iinc 8 1, 3) := by decide +kernel
theorem d_M_times_196 : decode b_M_times 196 = .ok (.goto (-65), 3) := by decide +kernel
theorem d_M_times_199 : decode b_M_times 199 = .ok (.lload 4, 2) := by decide +kernel
theorem d_M_times_201 : decode b_M_times 201 = .ok (.lstore 6, 2) := by decide +kernel
theorem d_M_times_203 : decode b_M_times 203 = .ok (.goto (-85), 3) := by decide +kernel
theorem d_M_times_206 : decode b_M_times 206 = .ok (.aload_n 1, 1) := by decide +kernel
theorem d_M_times_207 : decode b_M_times 207 = .ok (.getstatic 375, 3) := by decide +kernel
theorem d_M_times_210 : decode b_M_times 210 = .ok (.invokestatic 346, 3) := by decide +kernel
theorem d_M_times_213 : decode b_M_times 213 = .ok (.ifCond .lt 12, 3) := by decide +kernel
theorem d_M_times_216 : decode b_M_times 216 = .ok (.aload_n 1, 1) := by decide +kernel
theorem d_M_times_217 : decode b_M_times 217 = .ok (.aload_n 1, 1) := by decide +kernel
theorem d_M_times_218 : decode b_M_times 218 = .ok (.getstatic 375, 3) := by decide +kernel
theorem d_M_times_221 : decode b_M_times 221 = .ok (.invokestatic 350, 3) := by decide +kernel
theorem d_M_times_224 : decode b_M_times 224 = .ok (.pop, 1) := by decide +kernel
theorem d_M_times_225 : decode b_M_times 225 = .ok (.return_, 1) := by decide +kernel
abbrev rm_M_times_e32 : Room := { frames := 3, cells := 0, slots := 0, locals := 64 }
abbrev q_M_times_e32 (D : va_G) (cy : Nat → ClassId) (A : Nat → Prop) (o : Nat) (q : Nat → Nat) (b1 : Nat) (b2 : Nat) (z : Nat → Int32) (h2 : Nat → Int32) (res : (Nat → Int32) × (Nat → Int32)) : Array Value → State → Outcome → State → Prop := va_Qv (fun (_ : Unit) => True) (fun _ t => Po D cy A [(o, .inr (12, mo q z)), ((q 50), .inl (cy 1, 16, .inl res.1)), (b1, .inl (cy 1, 8, .inl res.2)), (b2, .inl (cy 1, 8, .inl h2))] t) A
def I_M_times_e32_175 (p : Program) (l : Launch) (e : Env) (s : State) (m : MethodId) (args : Array Value) (below : List Frame) (meth : Method) (c : Code) (D : va_G) (cy : Nat → ClassId) (A : Nat → Prop) (ad : Nat → Nat) (o : Nat) (q : Nat → Nat) (b1 : Nat) (b2 : Nat) (z : Nat → Int32) (h2 : Nat → Int32) (k : Int64 → Int32 → Int64 → Int64 → Int64 → (Nat → Int32) → (Nat → Int32) → Option ((Nat → Int32) × (Nat → Int32))) : Prop :=
  ∀ (x6 : Int64) (x8 : Int32) (y0 : Int64) (y1 : Int64) (y2 : Int64) (u0 : Nat → Int32) (u1 : Nat → Int32) (res : (Nat → Int32) × (Nat → Int32)), k x6 x8 y0 y1 y2 u0 u1 = some res → ∀ (H : Heap) (locs : List Loc) (ls : Array Slot), va_P D classes [(o, .inr (12, mo q z)), ((q 50), .inl (cy 1, 16, .inl u0)), (b1, .inl (cy 1, 8, .inl u1)), (b2, .inl (cy 1, 8, .inl h2))] H → va_D A [(o, .inr (12, mo q z)), ((q 50), .inl (cy 1, 16, .inl u0)), (b1, .inl (cy 1, 8, .inl u1)), (b2, .inl (cy 1, 8, .inl h2))] → va_S A s.heap H locs → lv_has ls 9 [(1, .ref b1), (6, .long x6), (8, .int x8)] → W p l e rm_M_times_e32 s m args below meth c H locs 0 0 (MQ below (q_M_times_e32 D cy A o q b1 b2 z h2 res) args s 0 0 A) (F0 m 175 ls [.long y0, .long y1, .long y2])
def I_M_times_e32_131 (p : Program) (l : Launch) (e : Env) (s : State) (m : MethodId) (args : Array Value) (below : List Frame) (meth : Method) (c : Code) (D : va_G) (cy : Nat → ClassId) (A : Nat → Prop) (ad : Nat → Nat) (o : Nat) (q : Nat → Nat) (b1 : Nat) (b2 : Nat) (z : Nat → Int32) (h2 : Nat → Int32) (k : Int64 → Int64 → Int32 → (Nat → Int32) → (Nat → Int32) → Option ((Nat → Int32) × (Nat → Int32))) : Prop :=
  ∀ (x4 : Int64) (x6 : Int64) (x8 : Int32) (u0 : Nat → Int32) (u1 : Nat → Int32) (res : (Nat → Int32) × (Nat → Int32)), k x4 x6 x8 u0 u1 = some res → ∀ (H : Heap) (locs : List Loc) (ls : Array Slot), va_P D classes [(o, .inr (12, mo q z)), ((q 50), .inl (cy 1, 16, .inl u0)), (b1, .inl (cy 1, 8, .inl u1)), (b2, .inl (cy 1, 8, .inl h2))] H → va_D A [(o, .inr (12, mo q z)), ((q 50), .inl (cy 1, 16, .inl u0)), (b1, .inl (cy 1, 8, .inl u1)), (b2, .inl (cy 1, 8, .inl h2))] → va_S A s.heap H locs → lv_has ls 9 [(1, .ref b1), (4, .long x4), (6, .long x6), (8, .int x8)] → W p l e rm_M_times_e32 s m args below meth c H locs 0 0 (MQ below (q_M_times_e32 D cy A o q b1 b2 z h2 res) args s 0 0 A) (F0 m 131 ls [])
def I_M_times_e32_118 (p : Program) (l : Launch) (e : Env) (s : State) (m : MethodId) (args : Array Value) (below : List Frame) (meth : Method) (c : Code) (D : va_G) (cy : Nat → ClassId) (A : Nat → Prop) (ad : Nat → Nat) (o : Nat) (q : Nat → Nat) (b1 : Nat) (b2 : Nat) (z : Nat → Int32) (h2 : Nat → Int32) (k : Int64 → (Nat → Int32) → (Nat → Int32) → Option ((Nat → Int32) × (Nat → Int32))) : Prop :=
  ∀ (x6 : Int64) (u0 : Nat → Int32) (u1 : Nat → Int32) (res : (Nat → Int32) × (Nat → Int32)), k x6 u0 u1 = some res → ∀ (H : Heap) (locs : List Loc) (ls : Array Slot), va_P D classes [(o, .inr (12, mo q z)), ((q 50), .inl (cy 1, 16, .inl u0)), (b1, .inl (cy 1, 8, .inl u1)), (b2, .inl (cy 1, 8, .inl h2))] H → va_D A [(o, .inr (12, mo q z)), ((q 50), .inl (cy 1, 16, .inl u0)), (b1, .inl (cy 1, 8, .inl u1)), (b2, .inl (cy 1, 8, .inl h2))] → va_S A s.heap H locs → lv_has ls 9 [(1, .ref b1), (6, .long x6)] → W p l e rm_M_times_e32 s m args below meth c H locs 0 0 (MQ below (q_M_times_e32 D cy A o q b1 b2 z h2 res) args s 0 0 A) (F0 m 118 ls [])
def I_M_times_e32_77 (p : Program) (l : Launch) (e : Env) (s : State) (m : MethodId) (args : Array Value) (below : List Frame) (meth : Method) (c : Code) (D : va_G) (cy : Nat → ClassId) (A : Nat → Prop) (ad : Nat → Nat) (o : Nat) (q : Nat → Nat) (b1 : Nat) (b2 : Nat) (z : Nat → Int32) (h2 : Nat → Int32) (k : Int32 → Int64 → Int64 → Int64 → (Nat → Int32) → (Nat → Int32) → Option ((Nat → Int32) × (Nat → Int32))) : Prop :=
  ∀ (x6 : Int32) (y0 : Int64) (y1 : Int64) (y2 : Int64) (u0 : Nat → Int32) (u1 : Nat → Int32) (res : (Nat → Int32) × (Nat → Int32)), k x6 y0 y1 y2 u0 u1 = some res → ∀ (H : Heap) (locs : List Loc) (ls : Array Slot), va_P D classes [(o, .inr (12, mo q z)), ((q 50), .inl (cy 1, 16, .inl u0)), (b1, .inl (cy 1, 8, .inl u1)), (b2, .inl (cy 1, 8, .inl h2))] H → va_D A [(o, .inr (12, mo q z)), ((q 50), .inl (cy 1, 16, .inl u0)), (b1, .inl (cy 1, 8, .inl u1)), (b2, .inl (cy 1, 8, .inl h2))] → va_S A s.heap H locs → lv_has ls 9 [(0, .ref o), (1, .ref b1), (6, .int x6)] → W p l e rm_M_times_e32 s m args below meth c H locs 0 0 (MQ below (q_M_times_e32 D cy A o q b1 b2 z h2 res) args s 0 0 A) (F0 m 77 ls [.long y0, .long y1, .long y2])
def I_M_times_e32_12 (p : Program) (l : Launch) (e : Env) (s : State) (m : MethodId) (args : Array Value) (below : List Frame) (meth : Method) (c : Code) (D : va_G) (cy : Nat → ClassId) (A : Nat → Prop) (ad : Nat → Nat) (o : Nat) (q : Nat → Nat) (b1 : Nat) (b2 : Nat) (z : Nat → Int32) (h2 : Nat → Int32) (k : Int64 → Int32 → (Nat → Int32) → (Nat → Int32) → Option ((Nat → Int32) × (Nat → Int32))) : Prop :=
  ∀ (x4 : Int64) (x6 : Int32) (u0 : Nat → Int32) (u1 : Nat → Int32) (res : (Nat → Int32) × (Nat → Int32)), k x4 x6 u0 u1 = some res → ∀ (H : Heap) (locs : List Loc) (ls : Array Slot), va_P D classes [(o, .inr (12, mo q z)), ((q 50), .inl (cy 1, 16, .inl u0)), (b1, .inl (cy 1, 8, .inl u1)), (b2, .inl (cy 1, 8, .inl h2))] H → va_D A [(o, .inr (12, mo q z)), ((q 50), .inl (cy 1, 16, .inl u0)), (b1, .inl (cy 1, 8, .inl u1)), (b2, .inl (cy 1, 8, .inl h2))] → va_S A s.heap H locs → lv_has ls 9 [(0, .ref o), (1, .ref b1), (4, .long x4), (6, .int x6)] → W p l e rm_M_times_e32 s m args below meth c H locs 0 0 (MQ below (q_M_times_e32 D cy A o q b1 b2 z h2 res) args s 0 0 A) (F0 m 12 ls [])
def I_M_times_e32_e (p : Program) (l : Launch) (e : Env) (s : State) (m : MethodId) (args : Array Value) (below : List Frame) (meth : Method) (c : Code) (D : va_G) (cy : Nat → ClassId) (A : Nat → Prop) (ad : Nat → Nat) (o : Nat) (q : Nat → Nat) (b1 : Nat) (b2 : Nat) (z : Nat → Int32) (h2 : Nat → Int32) (k : (Nat → Int32) → (Nat → Int32) → Option ((Nat → Int32) × (Nat → Int32))) : Prop :=
  ∀ (u0 : Nat → Int32) (u1 : Nat → Int32) (res : (Nat → Int32) × (Nat → Int32)), k u0 u1 = some res → ∀ (H : Heap) (locs : List Loc) (ls : Array Slot), va_P D classes [(o, .inr (12, mo q z)), ((q 50), .inl (cy 1, 16, .inl u0)), (b1, .inl (cy 1, 8, .inl u1)), (b2, .inl (cy 1, 8, .inl h2))] H → va_D A [(o, .inr (12, mo q z)), ((q 50), .inl (cy 1, 16, .inl u0)), (b1, .inl (cy 1, 8, .inl u1)), (b2, .inl (cy 1, 8, .inl h2))] → va_S A s.heap H locs → lv_has ls 9 [(0, .ref o), (1, .ref b1), (2, .ref b2), (3, .ref b2)] → W p l e rm_M_times_e32 s m args below meth c H locs 0 0 (MQ below (q_M_times_e32 D cy A o q b1 b2 z h2 res) args s 0 0 A) (F0 m 0 ls [])
set_option maxHeartbeats 8000000 in
set_option maxRecDepth 100000 in
theorem wb_M_times_e32_175 {p : Program} {l : Launch} {e : Env} {s : State} {m : MethodId} {args : Array Value} {below : List Frame} {meth : Method} {c : Code} {D : va_G} {cy : Nat → ClassId} {A : Nat → Prop} {ad : Nat → Nat} {o : Nat} {q : Nat → Nat} {b1 : Nat} {b2 : Nat} {z : Nat → Int32} {h2 : Nat → Int32} {fu : Nat} {k_118 : Int64 → (Nat → Int32) → (Nat → Int32) → Option ((Nat → Int32) × (Nat → Int32))} {k_131 : Int64 → Int64 → Int32 → (Nat → Int32) → (Nat → Int32) → Option ((Nat → Int32) × (Nat → Int32))} (F : Fx p s m args meth c b_M_times 9 "CoinKeeperModel" "times" none D cy ad A) (hk_118 : I_M_times_e32_118 p l e s m args below meth c D cy A ad o q b1 b2 z h2 k_118) (hk_131 : I_M_times_e32_131 p l e s m args below meth c D cy A ad o q b1 b2 z h2 k_131) : I_M_times_e32_175 p l e s m args below meth c D cy A ad o q b1 b2 z h2 (xb_M_times_e32_175 fu z h2 k_118 k_131) := by
  obtain ⟨hx, hb, hr, hml, hown, hts, hlocks, hK, hA, hSt, hnm, hex⟩ := id F
  intro x6 x8 y0 y1 y2 u0 u1 res hf H locs ls hP hD hS hl
  unfold xb_M_times_e32_175 at hf
  refine lv_ladd hx hb d_M_times_175 ?_
  refine lv_ladd hx hb d_M_times_176 ?_
  refine lv_topl (fun v1 ev => ?_)
  have hf := bn ev hf
  clear ev
  refine lv_lstore (lv' := [(4, .long v1), (1, .ref b1), (6, .long x6), (8, .int x8)]) hx hb d_M_times_177 hl (by decide) rfl (fun ls hl => ?_)
  refine lv_aload_n hx hb d_M_times_179 rfl (lv_at hl 1 rfl) ?_
  refine lv_iload hx hb d_M_times_180 (lv_at hl 3 rfl) ?_
  refine lv_lload hx hb d_M_times_182 (lv_at hl 0 rfl) ?_
  refine lv_l2i hx hb d_M_times_184 rfl ?_
  refine lv_topi (fun v2 ev => ?_)
  have hf := bn ev hf
  clear ev
  obtain ⟨hg, hf⟩ := gdp hf
  refine va_iast hx hb hK hP hD hS 2 1 rfl rfl (inb_in hg) d_M_times_185 (fun H locs hP hD hS => ?_)
  obtain ⟨f3, ev, hf⟩ := bne hf
  have hP : va_P D classes [(o, .inr (12, mo q z)), ((q 50), .inl (cy 1, 16, .inl u0)), (b1, .inl (cy 1, 8, .inl f3)), (b2, .inl (cy 1, 8, .inl h2))] H := by rw [ev]; exact hP
  have hD : va_D A [(o, .inr (12, mo q z)), ((q 50), .inl (cy 1, 16, .inl u0)), (b1, .inl (cy 1, 8, .inl f3)), (b2, .inl (cy 1, 8, .inl h2))] := by rw [ev]; exact hD
  clear ev
  refine lv_lload hx hb d_M_times_186 (lv_at hl 0 rfl) ?_
  refine lv_bipush (v := 32) hx hb d_M_times_188 (by decide) ?_
  refine lv_lushr hx hb d_M_times_190 rfl ?_
  refine lv_topl (fun v4 ev => ?_)
  have hf := bn ev hf
  clear ev
  refine lv_lstore (lv' := [(4, .long v4), (1, .ref b1), (6, .long x6), (8, .int x8)]) hx hb d_M_times_191 hl (by decide) rfl (fun ls hl => ?_)
  obtain ⟨v5, ev, hf⟩ := bne hf
  refine lv_iinc (v := v5) (lv' := [(8, .int v5), (4, .long v4), (1, .ref b1), (6, .long x6)]) hx hb d_M_times_193 hl (k := 3) rfl (by rw [ev]; rfl) (by decide) rfl (fun ls hl => ?_)
  clear ev
  refine lv_goto (tgt := 131) hx hb d_M_times_196 (by decide) ?_
  exact hk_131 _ _ _ _ _ _ hf _ _ _ hP hD hS (lv_sub hl [2, 1, 3, 0] rfl)
set_option maxHeartbeats 8000000 in
set_option maxRecDepth 100000 in
theorem wb_M_times_e32_131 {p : Program} {l : Launch} {e : Env} {s : State} {m : MethodId} {args : Array Value} {below : List Frame} {meth : Method} {c : Code} {D : va_G} {cy : Nat → ClassId} {A : Nat → Prop} {ad : Nat → Nat} {o : Nat} {q : Nat → Nat} {b1 : Nat} {b2 : Nat} {z : Nat → Int32} {h2 : Nat → Int32} {fu : Nat} {k_118 : Int64 → (Nat → Int32) → (Nat → Int32) → Option ((Nat → Int32) × (Nat → Int32))} {k_131 : Int64 → Int64 → Int32 → (Nat → Int32) → (Nat → Int32) → Option ((Nat → Int32) × (Nat → Int32))} (F : Fx p s m args meth c b_M_times 9 "CoinKeeperModel" "times" none D cy ad A) (hk_118 : I_M_times_e32_118 p l e s m args below meth c D cy A ad o q b1 b2 z h2 k_118) (hk_131 : I_M_times_e32_131 p l e s m args below meth c D cy A ad o q b1 b2 z h2 k_131) : I_M_times_e32_131 p l e s m args below meth c D cy A ad o q b1 b2 z h2 (xb_M_times_e32_131 fu z h2 k_118 k_131) := by
  obtain ⟨hx, hb, hr, hml, hown, hts, hlocks, hK, hA, hSt, hnm, hex⟩ := id F
  intro x4 x6 x8 u0 u1 res hf H locs ls hP hD hS hl
  unfold xb_M_times_e32_131 at hf
  refine lv_iload hx hb d_M_times_131 (lv_at hl 3 rfl) ?_
  refine lv_bipush (v := 8) hx hb d_M_times_133 (by decide) ?_
  refine lv_icmp_ge (tgt := 199) hx hb d_M_times_135 (by decide) (fun cx => ?_) (fun cx => ?_)
  · have hf := ifp cx hf
    refine lv_lload hx hb d_M_times_199 (lv_at hl 1 rfl) ?_
    refine lv_lstore (lv' := [(6, .long x4), (1, .ref b1), (4, .long x4), (8, .int x8)]) hx hb d_M_times_201 hl (by decide) rfl (fun ls hl => ?_)
    refine lv_goto (tgt := 118) hx hb d_M_times_203 (by decide) ?_
    exact hk_118 _ _ _ _ hf _ _ _ hP hD hS (lv_sub hl [1, 0] rfl)
  · have hf := ifn cx hf
    refine lv_lload hx hb d_M_times_138 (lv_at hl 1 rfl) ?_
    refine lv_aload_n hx hb d_M_times_140 rfl (lv_at hl 0 rfl) ?_
    refine lv_iload hx hb d_M_times_141 (lv_at hl 3 rfl) ?_
    obtain ⟨hg, hf⟩ := gdp hf
    refine va_iald hx hb hK hP 2 1 rfl rfl (inb_in hg) d_M_times_143 ?_
    refine lv_topi (fun v1 ev => ?_)
    have hf := bn ev hf
    clear ev
    refine lv_i2l hx hb d_M_times_144 rfl ?_
    refine lv_topl (fun v2 ev => ?_)
    have hf := bn ev hf
    clear ev
    refine lv_ldc2 (v := 4294967295) hx hb hown (hts _ gw_1390) d_M_times_145 ?_
    refine lv_land hx hb d_M_times_148 ?_
    refine lv_topl (fun v3 ev => ?_)
    have hf := bn ev hf
    clear ev
    refine lv_iload hx hb d_M_times_149 (lv_at hl 3 rfl) ?_
    refine lv_if_ne (tgt := 163) hx hb d_M_times_151 (by decide) (fun cx => ?_) (fun cx => ?_)
    · have hf := ifn cx hf
      refine lv_iload hx hb d_M_times_163 (lv_at hl 3 rfl) ?_
      refine lv_iconst (v := 1) hx hb d_M_times_165 (by decide) ?_
      refine lv_icmp_ne (tgt := 174) hx hb d_M_times_166 (by decide) (fun cx => ?_) (fun cx => ?_)
      · have hf := ifn cx hf
        refine lv_lconst (v := 0) hx hb d_M_times_174 (by decide) ?_
        exact wb_M_times_e32_175 (fu := fu) F hk_118 hk_131 _ _ _ _ _ _ _ _ hf _ _ _ hP hD hS (lv_sub hl [0, 2, 3] rfl)
      · have hf := ifp cx hf
        refine lv_lload hx hb d_M_times_169 (lv_at hl 2 rfl) ?_
        refine lv_goto (tgt := 175) hx hb d_M_times_171 (by decide) ?_
        exact wb_M_times_e32_175 (fu := fu) F hk_118 hk_131 _ _ _ _ _ _ _ _ hf _ _ _ hP hD hS (lv_sub hl [0, 2, 3] rfl)
    · have hf := ifp cx hf
      refine lv_lload hx hb d_M_times_154 (lv_at hl 2 rfl) ?_
      refine lv_ldc2 (v := 977) hx hb hown (hts _ gw_1984) d_M_times_156 ?_
      refine lv_lmul hx hb d_M_times_159 ?_
      refine lv_goto (tgt := 175) hx hb d_M_times_160 (by decide) ?_
      exact wb_M_times_e32_175 (fu := fu) F hk_118 hk_131 _ _ _ _ _ _ _ _ hf _ _ _ hP hD hS (lv_sub hl [0, 2, 3] rfl)
theorem w_M_times_e32_131 {p : Program} {l : Launch} {e : Env} {s : State} {m : MethodId} {args : Array Value} {below : List Frame} {meth : Method} {c : Code} {D : va_G} {cy : Nat → ClassId} {A : Nat → Prop} {ad : Nat → Nat} {o : Nat} {q : Nat → Nat} {b1 : Nat} {b2 : Nat} {z : Nat → Int32} {h2 : Nat → Int32} {fu : Nat} {k_118 : Int64 → (Nat → Int32) → (Nat → Int32) → Option ((Nat → Int32) × (Nat → Int32))} (F : Fx p s m args meth c b_M_times 9 "CoinKeeperModel" "times" none D cy ad A) (hk_118 : I_M_times_e32_118 p l e s m args below meth c D cy A ad o q b1 b2 z h2 k_118) : ∀ n : Nat, I_M_times_e32_131 p l e s m args below meth c D cy A ad o q b1 b2 z h2 (x_M_times_e32_131 fu z h2 k_118 n)
  | 0 => fun _ _ _ _ _ _ hf => nomatch (show (none : Option ((Nat → Int32) × (Nat → Int32))) = some _ from hf)
  | n + 1 => wb_M_times_e32_131 F hk_118 (w_M_times_e32_131 F hk_118 n)
theorem hdm_16 : ({ cls := "CoinKeeperModel", name := "compare", desc := "([I[I)I" } : Jvm.MethodName).cls ≠ "java/lang/invoke/MethodHandle" ∧ ({ cls := "CoinKeeperModel", name := "compare", desc := "([I[I)I" } : Jvm.MethodName).cls ≠ "java/lang/invoke/VarHandle" ∧ (parseMethodDescriptor ({ cls := "CoinKeeperModel", name := "compare", desc := "([I[I)I" } : Jvm.MethodName).desc).map (fun d => d.parameters.length) = some 2 := by decide +kernel
theorem hdm_17 : ({ cls := "CoinKeeperModel", name := "sub", desc := "([I[I[I)I" } : Jvm.MethodName).cls ≠ "java/lang/invoke/MethodHandle" ∧ ({ cls := "CoinKeeperModel", name := "sub", desc := "([I[I[I)I" } : Jvm.MethodName).cls ≠ "java/lang/invoke/VarHandle" ∧ (parseMethodDescriptor ({ cls := "CoinKeeperModel", name := "sub", desc := "([I[I[I)I" } : Jvm.MethodName).desc).map (fun d => d.parameters.length) = some 3 := by decide +kernel
set_option maxHeartbeats 8000000 in
set_option maxRecDepth 100000 in
theorem wb_M_times_e32_118 {p : Program} {l : Launch} {e : Env} {s : State} {m : MethodId} {args : Array Value} {below : List Frame} {meth : Method} {c : Code} {D : va_G} {cy : Nat → ClassId} {A : Nat → Prop} {ad : Nat → Nat} {o : Nat} {q : Nat → Nat} {b1 : Nat} {b2 : Nat} {z : Nat → Int32} {h2 : Nat → Int32} {fu : Nat} {k_118 : Int64 → (Nat → Int32) → (Nat → Int32) → Option ((Nat → Int32) × (Nat → Int32))} (F : Fx p s m args meth c b_M_times 9 "CoinKeeperModel" "times" none D cy ad A) (hk_118 : I_M_times_e32_118 p l e s m args below meth c D cy A ad o q b1 b2 z h2 k_118) : I_M_times_e32_118 p l e s m args below meth c D cy A ad o q b1 b2 z h2 (xb_M_times_e32_118 fu z h2 k_118) := by
  obtain ⟨hx, hb, hr, hml, hown, hts, hlocks, hK, hA, hSt, hnm, hex⟩ := id F
  intro x6 u0 u1 res hf H locs ls hP hD hS hl
  unfold xb_M_times_e32_118 at hf
  refine lv_lload hx hb d_M_times_118 (lv_at hl 1 rfl) ?_
  refine lv_lconst (v := 0) hx hb d_M_times_120 (by decide) ?_
  refine W.lcmp hx hb d_M_times_121 ?_
  refine lv_if_le (tgt := 206) hx hb d_M_times_122 (by decide) (fun cx => ?_) (fun cx => ?_)
  · have hf := ifp cx hf
    refine lv_aload_n hx hb d_M_times_206 rfl (lv_at hl 0 rfl) ?_
    refine va_gets hx hb (hSt.1 22 _ rfl).1 hS hown (hts _ gw_1974) (fun _ h9 => h9) d_M_times_207 ?_
    obtain ⟨v1, hc, hf⟩ := bdp1 hf
    refine q_ai (wr := [(o, .inr (12, mo q z)), ((q 50), .inl (cy 1, 16, .inl u0)), (b2, .inl (cy 1, 8, .inl h2))]) (va_runS (As := [.ref b1, .ref (ad 22)]) (rest := []) ⟨hx, hb, hml, hown, hts⟩ (c_M_compare_s1x22 l D cy ad fu b1 u1 _ hc H.size) ⟨q_cB hts gw_1404 gw_18 gw_1402 hdm_16 ⟨by decide, by decide⟩, hts _ gw_1403⟩ (q_pre (hP.sub [2] rfl) (hD.sub [2] (by decide) rfl) hK hSt hS (va_free hD hS hA [2] rfl) _) rfl rfl hl.1 rfl (lv_room (Nat.le_of_ble_eq_true rfl)) d_M_times_210 ⟨Nat.le_of_ble_eq_true rfl, Nat.le_of_ble_eq_true rfl⟩) hP hD hS hA [2] [0, 1, 3] rfl rfl (by decide) (by decide) (fun H locs hP hD hS => ?_)
    clear hc
    have hP : va_P D classes [(o, .inr (12, mo q z)), ((q 50), .inl (cy 1, 16, .inl u0)), (b2, .inl (cy 1, 8, .inl h2)), (b1, .inl (cy 1, 8, .inl u1))] H := hP
    have hD : va_D A [(o, .inr (12, mo q z)), ((q 50), .inl (cy 1, 16, .inl u0)), (b2, .inl (cy 1, 8, .inl h2)), (b1, .inl (cy 1, 8, .inl u1))] := hD
    refine lv_if_lt (tgt := 225) hx hb d_M_times_213 (by decide) (fun cx => ?_) (fun cx => ?_)
    · have hf := ifp cx hf
      obtain rfl := Option.some.inj hf
      exact q_rv hx hb hr hlocks hK (hP.sub [0, 1, 3, 2] rfl) (hD.sub [0, 1, 3, 2] (by decide) rfl) hS d_M_times_225
    · have hf := ifn cx hf
      refine lv_aload_n hx hb d_M_times_216 rfl (lv_at hl 0 rfl) ?_
      refine lv_aload_n hx hb d_M_times_217 rfl (lv_at hl 0 rfl) ?_
      refine va_gets hx hb (hSt.1 22 _ rfl).1 hS hown (hts _ gw_1974) (fun _ h9 => h9) d_M_times_218 ?_
      obtain ⟨v2, f3, hc, hf⟩ := bdp2 hf
      refine q_ai (wr := [(o, .inr (12, mo q z)), ((q 50), .inl (cy 1, 16, .inl u0)), (b2, .inl (cy 1, 8, .inl h2))]) (va_runS (As := [.ref b1, .ref b1, .ref (ad 22)]) (rest := []) ⟨hx, hb, hml, hown, hts⟩ (c_M_sub_e10s2x22 l D cy ad fu b1 u1 _ hc H.size) ⟨q_cB hts gw_1414 gw_18 gw_1412 hdm_17 ⟨by decide, by decide⟩, hts _ gw_1413⟩ (q_pre (hP.sub [3] rfl) (hD.sub [3] (by decide) rfl) hK hSt hS (va_free hD hS hA [3] rfl) _) rfl rfl hl.1 rfl (lv_room (Nat.le_of_ble_eq_true rfl)) d_M_times_221 ⟨Nat.le_of_ble_eq_true rfl, Nat.le_of_ble_eq_true rfl⟩) hP hD hS hA [3] [0, 1, 2] rfl rfl (by decide) (by decide) (fun H locs hP hD hS => ?_)
      clear hc
      have hP : va_P D classes [(o, .inr (12, mo q z)), ((q 50), .inl (cy 1, 16, .inl u0)), (b2, .inl (cy 1, 8, .inl h2)), (b1, .inl (cy 1, 8, .inl f3))] H := hP
      have hD : va_D A [(o, .inr (12, mo q z)), ((q 50), .inl (cy 1, 16, .inl u0)), (b2, .inl (cy 1, 8, .inl h2)), (b1, .inl (cy 1, 8, .inl f3))] := hD
      refine lv_pop hx hb d_M_times_224 rfl ?_
      obtain rfl := Option.some.inj hf
      exact q_rv hx hb hr hlocks hK (hP.sub [0, 1, 3, 2] rfl) (hD.sub [0, 1, 3, 2] (by decide) rfl) hS d_M_times_225
  · have hf := ifn cx hf
    refine lv_lconst (v := 0) hx hb d_M_times_125 (by decide) ?_
    refine lv_lstore (lv' := [(4, .long (0 : Int64)), (1, .ref b1), (6, .long x6)]) hx hb d_M_times_126 hl (by decide) rfl (fun ls hl => ?_)
    refine lv_iconst (v := 0) hx hb d_M_times_128 (by decide) ?_
    refine lv_istore (lv' := [(8, .int (0 : Int32)), (4, .long (0 : Int64)), (1, .ref b1), (6, .long x6)]) hx hb d_M_times_129 hl (by decide) rfl (fun ls hl => ?_)
    exact w_M_times_e32_131 F hk_118 fu _ _ _ _ _ _ hf _ _ _ hP hD hS (lv_sub hl [2, 1, 3, 0] rfl)
theorem w_M_times_e32_118 {p : Program} {l : Launch} {e : Env} {s : State} {m : MethodId} {args : Array Value} {below : List Frame} {meth : Method} {c : Code} {D : va_G} {cy : Nat → ClassId} {A : Nat → Prop} {ad : Nat → Nat} {o : Nat} {q : Nat → Nat} {b1 : Nat} {b2 : Nat} {z : Nat → Int32} {h2 : Nat → Int32} {fu : Nat} (F : Fx p s m args meth c b_M_times 9 "CoinKeeperModel" "times" none D cy ad A) : ∀ n : Nat, I_M_times_e32_118 p l e s m args below meth c D cy A ad o q b1 b2 z h2 (x_M_times_e32_118 fu z h2 n)
  | 0 => fun _ _ _ _ hf => nomatch (show (none : Option ((Nat → Int32) × (Nat → Int32))) = some _ from hf)
  | n + 1 => wb_M_times_e32_118 F (w_M_times_e32_118 F n)
set_option maxHeartbeats 8000000 in
set_option maxRecDepth 100000 in
theorem wb_M_times_e32_77 {p : Program} {l : Launch} {e : Env} {s : State} {m : MethodId} {args : Array Value} {below : List Frame} {meth : Method} {c : Code} {D : va_G} {cy : Nat → ClassId} {A : Nat → Prop} {ad : Nat → Nat} {o : Nat} {q : Nat → Nat} {b1 : Nat} {b2 : Nat} {z : Nat → Int32} {h2 : Nat → Int32} {fu : Nat} {k_12 : Int64 → Int32 → (Nat → Int32) → (Nat → Int32) → Option ((Nat → Int32) × (Nat → Int32))} (F : Fx p s m args meth c b_M_times 9 "CoinKeeperModel" "times" none D cy ad A) (hk_12 : I_M_times_e32_12 p l e s m args below meth c D cy A ad o q b1 b2 z h2 k_12) : I_M_times_e32_77 p l e s m args below meth c D cy A ad o q b1 b2 z h2 (xb_M_times_e32_77 fu z h2 k_12) := by
  obtain ⟨hx, hb, hr, hml, hown, hts, hlocks, hK, hA, hSt, hnm, hex⟩ := id F
  intro x6 y0 y1 y2 u0 u1 res hf H locs ls hP hD hS hl
  unfold xb_M_times_e32_77 at hf
  refine lv_ladd hx hb d_M_times_77 ?_
  refine lv_ladd hx hb d_M_times_78 ?_
  refine lv_topl (fun v1 ev => ?_)
  have hf := bn ev hf
  clear ev
  refine lv_lstore (lv' := [(4, .long v1), (0, .ref o), (1, .ref b1), (6, .int x6)]) hx hb d_M_times_79 hl (by decide) rfl (fun ls hl => ?_)
  refine lv_aload_n hx hb d_M_times_81 rfl (lv_at hl 2 rfl) ?_
  refine lv_iload hx hb d_M_times_82 (lv_at hl 3 rfl) ?_
  refine lv_lload hx hb d_M_times_84 (lv_at hl 0 rfl) ?_
  refine lv_l2i hx hb d_M_times_86 rfl ?_
  refine lv_topi (fun v2 ev => ?_)
  have hf := bn ev hf
  clear ev
  obtain ⟨hg, hf⟩ := gdp hf
  refine va_iast hx hb hK hP hD hS 2 1 rfl rfl (inb_in hg) d_M_times_87 (fun H locs hP hD hS => ?_)
  obtain ⟨f3, ev, hf⟩ := bne hf
  have hP : va_P D classes [(o, .inr (12, mo q z)), ((q 50), .inl (cy 1, 16, .inl u0)), (b1, .inl (cy 1, 8, .inl f3)), (b2, .inl (cy 1, 8, .inl h2))] H := by rw [ev]; exact hP
  have hD : va_D A [(o, .inr (12, mo q z)), ((q 50), .inl (cy 1, 16, .inl u0)), (b1, .inl (cy 1, 8, .inl f3)), (b2, .inl (cy 1, 8, .inl h2))] := by rw [ev]; exact hD
  clear ev
  refine lv_lload hx hb d_M_times_88 (lv_at hl 0 rfl) ?_
  refine lv_bipush (v := 32) hx hb d_M_times_90 (by decide) ?_
  refine lv_lushr hx hb d_M_times_92 rfl ?_
  refine lv_topl (fun v4 ev => ?_)
  have hf := bn ev hf
  clear ev
  refine lv_lstore (lv' := [(4, .long v4), (0, .ref o), (1, .ref b1), (6, .int x6)]) hx hb d_M_times_93 hl (by decide) rfl (fun ls hl => ?_)
  obtain ⟨v5, ev, hf⟩ := bne hf
  refine lv_iinc (v := v5) (lv' := [(6, .int v5), (4, .long v4), (0, .ref o), (1, .ref b1)]) hx hb d_M_times_95 hl (k := 3) rfl (by rw [ev]; rfl) (by decide) rfl (fun ls hl => ?_)
  clear ev
  refine lv_goto (tgt := 12) hx hb d_M_times_98 (by decide) ?_
  exact hk_12 _ _ _ _ _ hf _ _ _ hP hD hS (lv_sub hl [2, 3, 1, 0] rfl)
set_option maxHeartbeats 8000000 in
set_option maxRecDepth 100000 in
theorem wb_M_times_e32_12 {p : Program} {l : Launch} {e : Env} {s : State} {m : MethodId} {args : Array Value} {below : List Frame} {meth : Method} {c : Code} {D : va_G} {cy : Nat → ClassId} {A : Nat → Prop} {ad : Nat → Nat} {o : Nat} {q : Nat → Nat} {b1 : Nat} {b2 : Nat} {z : Nat → Int32} {h2 : Nat → Int32} {fu : Nat} {k_12 : Int64 → Int32 → (Nat → Int32) → (Nat → Int32) → Option ((Nat → Int32) × (Nat → Int32))} (F : Fx p s m args meth c b_M_times 9 "CoinKeeperModel" "times" none D cy ad A) (hk_12 : I_M_times_e32_12 p l e s m args below meth c D cy A ad o q b1 b2 z h2 k_12) : I_M_times_e32_12 p l e s m args below meth c D cy A ad o q b1 b2 z h2 (xb_M_times_e32_12 fu z h2 k_12) := by
  obtain ⟨hx, hb, hr, hml, hown, hts, hlocks, hK, hA, hSt, hnm, hex⟩ := id F
  intro x4 x6 u0 u1 res hf H locs ls hP hD hS hl
  unfold xb_M_times_e32_12 at hf
  refine lv_iload hx hb d_M_times_12 (lv_at hl 3 rfl) ?_
  refine lv_bipush (v := 8) hx hb d_M_times_14 (by decide) ?_
  refine lv_icmp_ge (tgt := 101) hx hb d_M_times_16 (by decide) (fun cx => ?_) (fun cx => ?_)
  · have hf := ifp cx hf
    refine lv_lload hx hb d_M_times_101 (lv_at hl 2 rfl) ?_
    refine lv_aload_n hx hb d_M_times_103 rfl (lv_at hl 0 rfl) ?_
    refine va_get (D := D) (ci := 12) (v := .ref (q 50)) (C := "CoinKeeperModel") (T := F_12) (N := 98) hx hb hts i_12 hown hK hP 0 rfl rfl 58 (by decide) (hts _ gw_1477) (fun _ h9 => h9) rfl d_M_times_104 ?_
    refine lv_bipush (v := 15) hx hb d_M_times_107 (by decide) ?_
    refine va_iald hx hb hK hP 1 1 rfl rfl (inb_in (by decide)) d_M_times_109 ?_
    refine lv_topi (fun v1 ev => ?_)
    have hf := bn ev hf
    clear ev
    refine lv_i2l hx hb d_M_times_110 rfl ?_
    refine lv_topl (fun v2 ev => ?_)
    have hf := bn ev hf
    clear ev
    refine lv_ldc2 (v := 4294967295) hx hb hown (hts _ gw_1390) d_M_times_111 ?_
    refine lv_land hx hb d_M_times_114 ?_
    refine lv_ladd hx hb d_M_times_115 ?_
    refine lv_topl (fun v3 ev => ?_)
    have hf := bn ev hf
    clear ev
    refine lv_lstore (lv' := [(6, .long v3), (0, .ref o), (1, .ref b1), (4, .long x4)]) hx hb d_M_times_116 hl (by decide) rfl (fun ls hl => ?_)
    exact w_M_times_e32_118 F fu _ _ _ _ hf _ _ _ hP hD hS (lv_sub hl [2, 0] rfl)
  · have hf := ifn cx hf
    refine lv_lload hx hb d_M_times_19 (lv_at hl 2 rfl) ?_
    refine lv_aload_n hx hb d_M_times_21 rfl (lv_at hl 0 rfl) ?_
    refine va_get (D := D) (ci := 12) (v := .ref (q 50)) (C := "CoinKeeperModel") (T := F_12) (N := 98) hx hb hts i_12 hown hK hP 0 rfl rfl 58 (by decide) (hts _ gw_1477) (fun _ h9 => h9) rfl d_M_times_22 ?_
    refine lv_iload hx hb d_M_times_25 (lv_at hl 3 rfl) ?_
    obtain ⟨hg, hf⟩ := gdp hf
    refine va_iald hx hb hK hP 1 1 rfl rfl (inb_in hg) d_M_times_27 ?_
    refine lv_topi (fun v4 ev => ?_)
    have hf := bn ev hf
    clear ev
    refine lv_i2l hx hb d_M_times_28 rfl ?_
    refine lv_topl (fun v5 ev => ?_)
    have hf := bn ev hf
    clear ev
    refine lv_ldc2 (v := 4294967295) hx hb hown (hts _ gw_1390) d_M_times_29 ?_
    refine lv_land hx hb d_M_times_32 ?_
    refine lv_topl (fun v6 ev => ?_)
    have hf := bn ev hf
    clear ev
    refine lv_aload_n hx hb d_M_times_33 rfl (lv_at hl 0 rfl) ?_
    refine va_get (D := D) (ci := 12) (v := .ref (q 50)) (C := "CoinKeeperModel") (T := F_12) (N := 98) hx hb hts i_12 hown hK hP 0 rfl rfl 58 (by decide) (hts _ gw_1477) (fun _ h9 => h9) rfl d_M_times_34 ?_
    refine lv_bipush (v := 8) hx hb d_M_times_37 (by decide) ?_
    refine lv_iload hx hb d_M_times_39 (lv_at hl 3 rfl) ?_
    refine lv_iadd hx hb d_M_times_41 ?_
    refine lv_topi (fun v7 ev => ?_)
    have hf := bn ev hf
    clear ev
    obtain ⟨hg, hf⟩ := gdp hf
    refine va_iald hx hb hK hP 1 1 rfl rfl (inb_in hg) d_M_times_42 ?_
    refine lv_topi (fun v8 ev => ?_)
    have hf := bn ev hf
    clear ev
    refine lv_i2l hx hb d_M_times_43 rfl ?_
    refine lv_topl (fun v9 ev => ?_)
    have hf := bn ev hf
    clear ev
    refine lv_ldc2 (v := 4294967295) hx hb hown (hts _ gw_1390) d_M_times_44 ?_
    refine lv_land hx hb d_M_times_47 ?_
    refine lv_topl (fun v10 ev => ?_)
    have hf := bn ev hf
    clear ev
    refine lv_ldc2 (v := 977) hx hb hown (hts _ gw_1984) d_M_times_48 ?_
    refine lv_lmul hx hb d_M_times_51 ?_
    refine lv_ladd hx hb d_M_times_52 ?_
    refine lv_topl (fun v11 ev => ?_)
    have hf := bn ev hf
    clear ev
    refine lv_iload hx hb d_M_times_53 (lv_at hl 3 rfl) ?_
    refine lv_if_le (tgt := 76) hx hb d_M_times_55 (by decide) (fun cx => ?_) (fun cx => ?_)
    · have hf := ifp cx hf
      refine lv_lconst (v := 0) hx hb d_M_times_76 (by decide) ?_
      exact wb_M_times_e32_77 (fu := fu) F hk_12 _ _ _ _ _ _ _ hf _ _ _ hP hD hS (lv_sub hl [0, 1, 3] rfl)
    · have hf := ifn cx hf
      refine lv_aload_n hx hb d_M_times_58 rfl (lv_at hl 0 rfl) ?_
      refine va_get (D := D) (ci := 12) (v := .ref (q 50)) (C := "CoinKeeperModel") (T := F_12) (N := 98) hx hb hts i_12 hown hK hP 0 rfl rfl 58 (by decide) (hts _ gw_1477) (fun _ h9 => h9) rfl d_M_times_59 ?_
      refine lv_bipush (v := 7) hx hb d_M_times_62 (by decide) ?_
      refine lv_iload hx hb d_M_times_64 (lv_at hl 3 rfl) ?_
      refine lv_iadd hx hb d_M_times_66 ?_
      refine lv_topi (fun v12 ev => ?_)
      have hf := bn ev hf
      clear ev
      obtain ⟨hg, hf⟩ := gdp hf
      refine va_iald hx hb hK hP 1 1 rfl rfl (inb_in hg) d_M_times_67 ?_
      refine lv_topi (fun v13 ev => ?_)
      have hf := bn ev hf
      clear ev
      refine lv_i2l hx hb d_M_times_68 rfl ?_
      refine lv_topl (fun v14 ev => ?_)
      have hf := bn ev hf
      clear ev
      refine lv_ldc2 (v := 4294967295) hx hb hown (hts _ gw_1390) d_M_times_69 ?_
      refine lv_land hx hb d_M_times_72 ?_
      refine lv_goto (tgt := 77) hx hb d_M_times_73 (by decide) ?_
      exact wb_M_times_e32_77 (fu := fu) F hk_12 _ _ _ _ _ _ _ hf _ _ _ hP hD hS (lv_sub hl [0, 1, 3] rfl)
theorem w_M_times_e32_12 {p : Program} {l : Launch} {e : Env} {s : State} {m : MethodId} {args : Array Value} {below : List Frame} {meth : Method} {c : Code} {D : va_G} {cy : Nat → ClassId} {A : Nat → Prop} {ad : Nat → Nat} {o : Nat} {q : Nat → Nat} {b1 : Nat} {b2 : Nat} {z : Nat → Int32} {h2 : Nat → Int32} {fu : Nat} (F : Fx p s m args meth c b_M_times 9 "CoinKeeperModel" "times" none D cy ad A) : ∀ n : Nat, I_M_times_e32_12 p l e s m args below meth c D cy A ad o q b1 b2 z h2 (x_M_times_e32_12 fu z h2 n)
  | 0 => fun _ _ _ _ _ hf => nomatch (show (none : Option ((Nat → Int32) × (Nat → Int32))) = some _ from hf)
  | n + 1 => wb_M_times_e32_12 F (w_M_times_e32_12 F n)
theorem hdm_18 : ({ cls := "CoinKeeperModel", name := "multiply", desc := "([I[I)V" } : Jvm.MethodName).cls ≠ "java/lang/invoke/MethodHandle" ∧ ({ cls := "CoinKeeperModel", name := "multiply", desc := "([I[I)V" } : Jvm.MethodName).cls ≠ "java/lang/invoke/VarHandle" ∧ (parseMethodDescriptor ({ cls := "CoinKeeperModel", name := "multiply", desc := "([I[I)V" } : Jvm.MethodName).desc).map (fun d => d.parameters.length) = some 2 := by decide +kernel
set_option maxHeartbeats 8000000 in
set_option maxRecDepth 100000 in
theorem we_M_times_e32 {p : Program} {l : Launch} {e : Env} {s : State} {m : MethodId} {args : Array Value} {below : List Frame} {meth : Method} {c : Code} {D : va_G} {cy : Nat → ClassId} {A : Nat → Prop} {ad : Nat → Nat} {o : Nat} {q : Nat → Nat} {b1 : Nat} {b2 : Nat} {z : Nat → Int32} {h2 : Nat → Int32} {fu : Nat} (F : Fx p s m args meth c b_M_times 9 "CoinKeeperModel" "times" none D cy ad A) : I_M_times_e32_e p l e s m args below meth c D cy A ad o q b1 b2 z h2 (x_M_times_e32 fu z h2) := by
  obtain ⟨hx, hb, hr, hml, hown, hts, hlocks, hK, hA, hSt, hnm, hex⟩ := id F
  intro u0 u1 res hf H locs ls hP hD hS hl
  unfold x_M_times_e32 at hf
  refine lv_aload_n hx hb d_M_times_0 rfl (lv_at hl 0 rfl) ?_
  refine lv_aload_n hx hb d_M_times_1 rfl (lv_at hl 2 rfl) ?_
  refine lv_aload_n hx hb d_M_times_2 rfl (lv_at hl 3 rfl) ?_
  obtain ⟨f1, hc, hf⟩ := bdp1 hf
  refine q_av (wr := [(b1, .inl (cy 1, 8, .inl u1))]) (va_runV (C := "CoinKeeperModel") (As := [.ref b2, .ref b2]) (rest := []) ⟨hx, hb, hml, hown, hts⟩ (c_M_multiply_e21 l D cy ad fu o q b2 z h2 u0 _ hc H.size) ⟨q_cB hts gw_1983 gw_18 gw_1980 hdm_18 ⟨by decide, by decide⟩, hts _ gw_1982, hts _ gs_113⟩ (q_preV (q_pre (hP.sub [0, 1, 3] rfl) (hD.sub [0, 1, 3] (by decide) rfl) hK hSt hS (va_free hD hS hA [0, 1, 3] rfl) _) (va_recv hK (hP.sub [0, 1, 3] rfl) (ci := 12) (q0 := 0) rfl rfl)) rfl rfl hl.1 rfl (lv_room (Nat.le_of_ble_eq_true rfl)) d_M_times_3 ⟨Nat.le_of_ble_eq_true rfl, Nat.le_of_ble_eq_true rfl⟩) hP hD hS hA [0, 1, 3] [2] rfl rfl (by decide) (by decide) (fun H locs hP hD hS => ?_)
  clear hc
  have hP : va_P D classes [(b1, .inl (cy 1, 8, .inl u1)), (o, .inr (12, mo q z)), ((q 50), .inl (cy 1, 16, .inl f1)), (b2, .inl (cy 1, 8, .inl h2))] H := hP
  have hD : va_D A [(b1, .inl (cy 1, 8, .inl u1)), (o, .inr (12, mo q z)), ((q 50), .inl (cy 1, 16, .inl f1)), (b2, .inl (cy 1, 8, .inl h2))] := hD
  refine lv_lconst (v := 0) hx hb d_M_times_6 (by decide) ?_
  refine lv_lstore (lv' := [(4, .long (0 : Int64)), (0, .ref o), (1, .ref b1), (2, .ref b2), (3, .ref b2)]) hx hb d_M_times_7 hl (by decide) rfl (fun ls hl => ?_)
  refine lv_iconst (v := 0) hx hb d_M_times_9 (by decide) ?_
  refine lv_istore (lv' := [(6, .int (0 : Int32)), (4, .long (0 : Int64)), (0, .ref o), (1, .ref b1), (2, .ref b2), (3, .ref b2)]) hx hb d_M_times_10 hl (by decide) rfl (fun ls hl => ?_)
  exact w_M_times_e32_12 F fu _ _ _ _ _ hf _ _ _ (hP.sub (ws' := [(o, .inr (12, mo q z)), ((q 50), .inl (cy 1, 16, .inl f1)), (b1, .inl (cy 1, 8, .inl u1)), (b2, .inl (cy 1, 8, .inl h2))]) [1, 2, 0, 3] rfl) (hD.sub (ws' := [(o, .inr (12, mo q z)), ((q 50), .inl (cy 1, 16, .inl f1)), (b1, .inl (cy 1, 8, .inl u1)), (b2, .inl (cy 1, 8, .inl h2))]) [1, 2, 0, 3] (by decide) rfl) hS (lv_sub hl [2, 3, 1, 0] rfl)
theorem c_M_times_e32 (l : Launch) (D : va_G) (cy : Nat → ClassId) (ad : Nat → Nat) (fu : Nat) (o : Nat) (q : Nat → Nat) (b1 : Nat) (b2 : Nat) (z : Nat → Int32) (h2 : Nat → Int32) (u0 : Nat → Int32) (u1 : Nat → Int32) (res : (Nat → Int32) × (Nat → Int32)) (hf : x_M_times_e32 fu z h2 u0 u1 = some res) (sz : Nat) : Met l ({ cls := "CoinKeeperModel", name := "times", desc := "([I[I[I)V" } : Jvm.MethodName) (.code ({ cls := "CoinKeeperModel", name := "times", desc := "([I[I[I)V" } : Jvm.MethodName) b_M_times 9 none :: gw) rm_M_times_e32 (va_Pc [.ref o, .ref b1, .ref b2, .ref b2] (Pr D cy ad [(o, .inr (12, mo q z)), ((q 50), .inl (cy 1, 16, .inl u0)), (b1, .inl (cy 1, 8, .inl u1)), (b2, .inl (cy 1, 8, .inl h2))] sz)) (q_M_times_e32 D cy (va_A [(o, .inr (12, mo q z)), ((q 50), .inl (cy 1, 16, .inl u0)), (b1, .inl (cy 1, 8, .inl u1)), (b2, .inl (cy 1, 8, .inl h2))] sz) o q b1 b2 z h2 res) 0 0 (va_A [(o, .inr (12, mo q z)), ((q 50), .inl (cy 1, 16, .inl u0)), (b1, .inl (cy 1, 8, .inl u1)), (b2, .inl (cy 1, 8, .inl h2))] sz) :=
  q_met (Qc := fun A => q_M_times_e32 D cy A o q b1 b2 z h2 res) (by decide) rfl rfl (Nat.le_of_ble_eq_true rfl) (fun p e s m below meth c ls F hP hD hS hl => we_M_times_e32 (fu := fu) F u0 u1 res hf _ _ _ hP hD hS hl) sz
abbrev rm_M_multiply : Room := { frames := 0, cells := 0, slots := 0, locals := 0 }
abbrev q_M_multiply (D : va_G) (cy : Nat → ClassId) (A : Nat → Prop) (o : Nat) (q : Nat → Nat) (b1 : Nat) (b2 : Nat) (z : Nat → Int32) (h1 : Nat → Int32) (h2 : Nat → Int32) (res : (Nat → Int32)) : Array Value → State → Outcome → State → Prop := va_Qv (fun (_ : Unit) => True) (fun _ t => Po D cy A [(o, .inr (12, mo q z)), ((q 50), .inl (cy 1, 16, .inl res)), (b1, .inl (cy 1, 8, .inl h1)), (b2, .inl (cy 1, 8, .inl h2))] t) A
def I_M_multiply_35 (p : Program) (l : Launch) (e : Env) (s : State) (m : MethodId) (args : Array Value) (below : List Frame) (meth : Method) (c : Code) (D : va_G) (cy : Nat → ClassId) (A : Nat → Prop) (ad : Nat → Nat) (o : Nat) (q : Nat → Nat) (b1 : Nat) (b2 : Nat) (z : Nat → Int32) (h1 : Nat → Int32) (h2 : Nat → Int32) (k : Int32 → Int64 → Int32 → (Nat → Int32) → Option ((Nat → Int32))) : Prop :=
  ∀ (x3 : Int32) (x4 : Int64) (x6 : Int32) (u0 : Nat → Int32) (res : (Nat → Int32)), k x3 x4 x6 u0 = some res → ∀ (H : Heap) (locs : List Loc) (ls : Array Slot), va_P D classes [(o, .inr (12, mo q z)), ((q 50), .inl (cy 1, 16, .inl u0)), (b1, .inl (cy 1, 8, .inl h1)), (b2, .inl (cy 1, 8, .inl h2))] H → va_D A [(o, .inr (12, mo q z)), ((q 50), .inl (cy 1, 16, .inl u0)), (b1, .inl (cy 1, 8, .inl h1)), (b2, .inl (cy 1, 8, .inl h2))] → va_S A s.heap H locs → lv_has ls 7 [(0, .ref o), (1, .ref b1), (2, .ref b2), (3, .int x3), (4, .long x4), (6, .int x6)] → W p l e rm_M_multiply s m args below meth c H locs 0 0 (MQ below (q_M_multiply D cy A o q b1 b2 z h1 h2 res) args s 0 0 A) (F0 m 35 ls [])
def I_M_multiply_23 (p : Program) (l : Launch) (e : Env) (s : State) (m : MethodId) (args : Array Value) (below : List Frame) (meth : Method) (c : Code) (D : va_G) (cy : Nat → ClassId) (A : Nat → Prop) (ad : Nat → Nat) (o : Nat) (q : Nat → Nat) (b1 : Nat) (b2 : Nat) (z : Nat → Int32) (h1 : Nat → Int32) (h2 : Nat → Int32) (k : Int32 → (Nat → Int32) → Option ((Nat → Int32))) : Prop :=
  ∀ (x3 : Int32) (u0 : Nat → Int32) (res : (Nat → Int32)), k x3 u0 = some res → ∀ (H : Heap) (locs : List Loc) (ls : Array Slot), va_P D classes [(o, .inr (12, mo q z)), ((q 50), .inl (cy 1, 16, .inl u0)), (b1, .inl (cy 1, 8, .inl h1)), (b2, .inl (cy 1, 8, .inl h2))] H → va_D A [(o, .inr (12, mo q z)), ((q 50), .inl (cy 1, 16, .inl u0)), (b1, .inl (cy 1, 8, .inl h1)), (b2, .inl (cy 1, 8, .inl h2))] → va_S A s.heap H locs → lv_has ls 7 [(0, .ref o), (1, .ref b1), (2, .ref b2), (3, .int x3)] → W p l e rm_M_multiply s m args below meth c H locs 0 0 (MQ below (q_M_multiply D cy A o q b1 b2 z h1 h2 res) args s 0 0 A) (F0 m 23 ls [])
def I_M_multiply_2 (p : Program) (l : Launch) (e : Env) (s : State) (m : MethodId) (args : Array Value) (below : List Frame) (meth : Method) (c : Code) (D : va_G) (cy : Nat → ClassId) (A : Nat → Prop) (ad : Nat → Nat) (o : Nat) (q : Nat → Nat) (b1 : Nat) (b2 : Nat) (z : Nat → Int32) (h1 : Nat → Int32) (h2 : Nat → Int32) (k : Int32 → (Nat → Int32) → Option ((Nat → Int32))) : Prop :=
  ∀ (x3 : Int32) (u0 : Nat → Int32) (res : (Nat → Int32)), k x3 u0 = some res → ∀ (H : Heap) (locs : List Loc) (ls : Array Slot), va_P D classes [(o, .inr (12, mo q z)), ((q 50), .inl (cy 1, 16, .inl u0)), (b1, .inl (cy 1, 8, .inl h1)), (b2, .inl (cy 1, 8, .inl h2))] H → va_D A [(o, .inr (12, mo q z)), ((q 50), .inl (cy 1, 16, .inl u0)), (b1, .inl (cy 1, 8, .inl h1)), (b2, .inl (cy 1, 8, .inl h2))] → va_S A s.heap H locs → lv_has ls 7 [(0, .ref o), (1, .ref b1), (2, .ref b2), (3, .int x3)] → W p l e rm_M_multiply s m args below meth c H locs 0 0 (MQ below (q_M_multiply D cy A o q b1 b2 z h1 h2 res) args s 0 0 A) (F0 m 2 ls [])
def I_M_multiply_e (p : Program) (l : Launch) (e : Env) (s : State) (m : MethodId) (args : Array Value) (below : List Frame) (meth : Method) (c : Code) (D : va_G) (cy : Nat → ClassId) (A : Nat → Prop) (ad : Nat → Nat) (o : Nat) (q : Nat → Nat) (b1 : Nat) (b2 : Nat) (z : Nat → Int32) (h1 : Nat → Int32) (h2 : Nat → Int32) (k : (Nat → Int32) → Option ((Nat → Int32))) : Prop :=
  ∀ (u0 : Nat → Int32) (res : (Nat → Int32)), k u0 = some res → ∀ (H : Heap) (locs : List Loc) (ls : Array Slot), va_P D classes [(o, .inr (12, mo q z)), ((q 50), .inl (cy 1, 16, .inl u0)), (b1, .inl (cy 1, 8, .inl h1)), (b2, .inl (cy 1, 8, .inl h2))] H → va_D A [(o, .inr (12, mo q z)), ((q 50), .inl (cy 1, 16, .inl u0)), (b1, .inl (cy 1, 8, .inl h1)), (b2, .inl (cy 1, 8, .inl h2))] → va_S A s.heap H locs → lv_has ls 7 [(0, .ref o), (1, .ref b1), (2, .ref b2)] → W p l e rm_M_multiply s m args below meth c H locs 0 0 (MQ below (q_M_multiply D cy A o q b1 b2 z h1 h2 res) args s 0 0 A) (F0 m 0 ls [])
set_option maxHeartbeats 8000000 in
set_option maxRecDepth 100000 in
theorem wb_M_multiply_35 {p : Program} {l : Launch} {e : Env} {s : State} {m : MethodId} {args : Array Value} {below : List Frame} {meth : Method} {c : Code} {D : va_G} {cy : Nat → ClassId} {A : Nat → Prop} {ad : Nat → Nat} {o : Nat} {q : Nat → Nat} {b1 : Nat} {b2 : Nat} {z : Nat → Int32} {h1 : Nat → Int32} {h2 : Nat → Int32} {fu : Nat} {k_23 : Int32 → (Nat → Int32) → Option ((Nat → Int32))} {k_35 : Int32 → Int64 → Int32 → (Nat → Int32) → Option ((Nat → Int32))} (F : Fx p s m args meth c b_M_multiply 7 "CoinKeeperModel" "multiply" none D cy ad A) (hk_23 : I_M_multiply_23 p l e s m args below meth c D cy A ad o q b1 b2 z h1 h2 k_23) (hk_35 : I_M_multiply_35 p l e s m args below meth c D cy A ad o q b1 b2 z h1 h2 k_35) : I_M_multiply_35 p l e s m args below meth c D cy A ad o q b1 b2 z h1 h2 (xb_M_multiply_35 fu z h1 h2 k_23 k_35) := by
  obtain ⟨hx, hb, hr, hml, hown, hts, hlocks, hK, hA, hSt, hnm, hex⟩ := id F
  intro x3 x4 x6 u0 res hf H locs ls hP hD hS hl
  unfold xb_M_multiply_35 at hf
  refine lv_iload hx hb d_M_multiply_35 (lv_at hl 5 rfl) ?_
  refine lv_bipush (v := 8) hx hb d_M_multiply_37 (by decide) ?_
  refine lv_icmp_ge (tgt := 105) hx hb d_M_multiply_39 (by decide) (fun cx => ?_) (fun cx => ?_)
  · have hf := ifp cx hf
    refine lv_aload_n hx hb d_M_multiply_105 rfl (lv_at hl 0 rfl) ?_
    refine va_get (D := D) (ci := 12) (v := .ref (q 50)) (C := "CoinKeeperModel") (T := F_12) (N := 98) hx hb hts i_12 hown hK hP 0 rfl rfl 58 (by decide) (hts _ gw_1477) (fun _ h9 => h9) rfl d_M_multiply_106 ?_
    refine lv_iload_n hx hb d_M_multiply_109 rfl (lv_at hl 3 rfl) ?_
    refine lv_bipush (v := 8) hx hb d_M_multiply_110 (by decide) ?_
    refine lv_iadd hx hb d_M_multiply_112 ?_
    refine lv_topi (fun v1 ev => ?_)
    have hf := bn ev hf
    clear ev
    refine lv_lload hx hb d_M_multiply_113 (lv_at hl 4 rfl) ?_
    refine lv_l2i hx hb d_M_multiply_115 rfl ?_
    refine lv_topi (fun v2 ev => ?_)
    have hf := bn ev hf
    clear ev
    obtain ⟨hg, hf⟩ := gdp hf
    refine va_iast hx hb hK hP hD hS 1 1 rfl rfl (inb_in hg) d_M_multiply_116 (fun H locs hP hD hS => ?_)
    obtain ⟨f3, ev, hf⟩ := bne hf
    have hP : va_P D classes [(o, .inr (12, mo q z)), ((q 50), .inl (cy 1, 16, .inl f3)), (b1, .inl (cy 1, 8, .inl h1)), (b2, .inl (cy 1, 8, .inl h2))] H := by rw [ev]; exact hP
    have hD : va_D A [(o, .inr (12, mo q z)), ((q 50), .inl (cy 1, 16, .inl f3)), (b1, .inl (cy 1, 8, .inl h1)), (b2, .inl (cy 1, 8, .inl h2))] := by rw [ev]; exact hD
    clear ev
    obtain ⟨v4, ev, hf⟩ := bne hf
    refine lv_iinc (v := v4) (lv' := [(3, .int v4), (0, .ref o), (1, .ref b1), (2, .ref b2), (4, .long x4), (6, .int x6)]) hx hb d_M_multiply_117 hl (k := 3) rfl (by rw [ev]; rfl) (by decide) rfl (fun ls hl => ?_)
    clear ev
    refine lv_goto (tgt := 23) hx hb d_M_multiply_120 (by decide) ?_
    exact hk_23 _ _ _ hf _ _ _ hP hD hS (lv_sub hl [1, 2, 3, 0] rfl)
  · have hf := ifn cx hf
    refine lv_lload hx hb d_M_multiply_42 (lv_at hl 4 rfl) ?_
    refine lv_aload_n hx hb d_M_multiply_44 rfl (lv_at hl 1 rfl) ?_
    refine lv_iload_n hx hb d_M_multiply_45 rfl (lv_at hl 3 rfl) ?_
    obtain ⟨hg, hf⟩ := gdp hf
    refine va_iald hx hb hK hP 2 1 rfl rfl (inb_in hg) d_M_multiply_46 ?_
    refine lv_topi (fun v5 ev => ?_)
    have hf := bn ev hf
    clear ev
    refine lv_i2l hx hb d_M_multiply_47 rfl ?_
    refine lv_topl (fun v6 ev => ?_)
    have hf := bn ev hf
    clear ev
    refine lv_ldc2 (v := 4294967295) hx hb hown (hts _ gw_1390) d_M_multiply_48 ?_
    refine lv_land hx hb d_M_multiply_51 ?_
    refine lv_topl (fun v7 ev => ?_)
    have hf := bn ev hf
    clear ev
    refine lv_aload_n hx hb d_M_multiply_52 rfl (lv_at hl 2 rfl) ?_
    refine lv_iload hx hb d_M_multiply_53 (lv_at hl 5 rfl) ?_
    obtain ⟨hg, hf⟩ := gdp hf
    refine va_iald hx hb hK hP 3 1 rfl rfl (inb_in hg) d_M_multiply_55 ?_
    refine lv_topi (fun v8 ev => ?_)
    have hf := bn ev hf
    clear ev
    refine lv_i2l hx hb d_M_multiply_56 rfl ?_
    refine lv_topl (fun v9 ev => ?_)
    have hf := bn ev hf
    clear ev
    refine lv_ldc2 (v := 4294967295) hx hb hown (hts _ gw_1390) d_M_multiply_57 ?_
    refine lv_land hx hb d_M_multiply_60 ?_
    refine lv_lmul hx hb d_M_multiply_61 ?_
    refine lv_topl (fun v10 ev => ?_)
    have hf := bn ev hf
    clear ev
    refine lv_aload_n hx hb d_M_multiply_62 rfl (lv_at hl 0 rfl) ?_
    refine va_get (D := D) (ci := 12) (v := .ref (q 50)) (C := "CoinKeeperModel") (T := F_12) (N := 98) hx hb hts i_12 hown hK hP 0 rfl rfl 58 (by decide) (hts _ gw_1477) (fun _ h9 => h9) rfl d_M_multiply_63 ?_
    refine lv_iload_n hx hb d_M_multiply_66 rfl (lv_at hl 3 rfl) ?_
    refine lv_iload hx hb d_M_multiply_67 (lv_at hl 5 rfl) ?_
    refine lv_iadd hx hb d_M_multiply_69 ?_
    refine lv_topi (fun v11 ev => ?_)
    have hf := bn ev hf
    clear ev
    obtain ⟨hg, hf⟩ := gdp hf
    refine va_iald hx hb hK hP 1 1 rfl rfl (inb_in hg) d_M_multiply_70 ?_
    refine lv_topi (fun v12 ev => ?_)
    have hf := bn ev hf
    clear ev
    refine lv_i2l hx hb d_M_multiply_71 rfl ?_
    refine lv_topl (fun v13 ev => ?_)
    have hf := bn ev hf
    clear ev
    refine lv_ldc2 (v := 4294967295) hx hb hown (hts _ gw_1390) d_M_multiply_72 ?_
    refine lv_land hx hb d_M_multiply_75 ?_
    refine lv_ladd hx hb d_M_multiply_76 ?_
    refine lv_ladd hx hb d_M_multiply_77 ?_
    refine lv_topl (fun v14 ev => ?_)
    have hf := bn ev hf
    clear ev
    refine lv_lstore (lv' := [(4, .long v14), (0, .ref o), (1, .ref b1), (2, .ref b2), (3, .int x3), (6, .int x6)]) hx hb d_M_multiply_78 hl (by decide) rfl (fun ls hl => ?_)
    refine lv_aload_n hx hb d_M_multiply_80 rfl (lv_at hl 1 rfl) ?_
    refine va_get (D := D) (ci := 12) (v := .ref (q 50)) (C := "CoinKeeperModel") (T := F_12) (N := 98) hx hb hts i_12 hown hK hP 0 rfl rfl 58 (by decide) (hts _ gw_1477) (fun _ h9 => h9) rfl d_M_multiply_81 ?_
    refine lv_iload_n hx hb d_M_multiply_84 rfl (lv_at hl 4 rfl) ?_
    refine lv_iload hx hb d_M_multiply_85 (lv_at hl 5 rfl) ?_
    refine lv_iadd hx hb d_M_multiply_87 ?_
    refine lv_topi (fun v15 ev => ?_)
    have hf := bn ev hf
    clear ev
    refine lv_lload hx hb d_M_multiply_88 (lv_at hl 0 rfl) ?_
    refine lv_l2i hx hb d_M_multiply_90 rfl ?_
    refine lv_topi (fun v16 ev => ?_)
    have hf := bn ev hf
    clear ev
    obtain ⟨hg, hf⟩ := gdp hf
    refine va_iast hx hb hK hP hD hS 1 1 rfl rfl (inb_in hg) d_M_multiply_91 (fun H locs hP hD hS => ?_)
    obtain ⟨f17, ev, hf⟩ := bne hf
    have hP : va_P D classes [(o, .inr (12, mo q z)), ((q 50), .inl (cy 1, 16, .inl f17)), (b1, .inl (cy 1, 8, .inl h1)), (b2, .inl (cy 1, 8, .inl h2))] H := by rw [ev]; exact hP
    have hD : va_D A [(o, .inr (12, mo q z)), ((q 50), .inl (cy 1, 16, .inl f17)), (b1, .inl (cy 1, 8, .inl h1)), (b2, .inl (cy 1, 8, .inl h2))] := by rw [ev]; exact hD
    clear ev
    refine lv_lload hx hb d_M_multiply_92 (lv_at hl 0 rfl) ?_
    refine lv_bipush (v := 32) hx hb d_M_multiply_94 (by decide) ?_
    refine lv_lushr hx hb d_M_multiply_96 rfl ?_
    refine lv_topl (fun v18 ev => ?_)
    have hf := bn ev hf
    clear ev
    refine lv_lstore (lv' := [(4, .long v18), (0, .ref o), (1, .ref b1), (2, .ref b2), (3, .int x3), (6, .int x6)]) hx hb d_M_multiply_97 hl (by decide) rfl (fun ls hl => ?_)
    obtain ⟨v19, ev, hf⟩ := bne hf
    refine lv_iinc (v := v19) (lv' := [(6, .int v19), (4, .long v18), (0, .ref o), (1, .ref b1), (2, .ref b2), (3, .int x3)]) hx hb d_M_multiply_99 hl (k := 5) rfl (by rw [ev]; rfl) (by decide) rfl (fun ls hl => ?_)
    clear ev
    refine lv_goto (tgt := 35) hx hb d_M_multiply_102 (by decide) ?_
    exact hk_35 _ _ _ _ _ hf _ _ _ hP hD hS (lv_sub hl [2, 3, 4, 5, 1, 0] rfl)
theorem w_M_multiply_35 {p : Program} {l : Launch} {e : Env} {s : State} {m : MethodId} {args : Array Value} {below : List Frame} {meth : Method} {c : Code} {D : va_G} {cy : Nat → ClassId} {A : Nat → Prop} {ad : Nat → Nat} {o : Nat} {q : Nat → Nat} {b1 : Nat} {b2 : Nat} {z : Nat → Int32} {h1 : Nat → Int32} {h2 : Nat → Int32} {fu : Nat} {k_23 : Int32 → (Nat → Int32) → Option ((Nat → Int32))} (F : Fx p s m args meth c b_M_multiply 7 "CoinKeeperModel" "multiply" none D cy ad A) (hk_23 : I_M_multiply_23 p l e s m args below meth c D cy A ad o q b1 b2 z h1 h2 k_23) : ∀ n : Nat, I_M_multiply_35 p l e s m args below meth c D cy A ad o q b1 b2 z h1 h2 (x_M_multiply_35 fu z h1 h2 k_23 n)
  | 0 => fun _ _ _ _ _ hf => nomatch (show (none : Option ((Nat → Int32))) = some _ from hf)
  | n + 1 => wb_M_multiply_35 F hk_23 (w_M_multiply_35 F hk_23 n)
set_option maxHeartbeats 8000000 in
set_option maxRecDepth 100000 in
theorem wb_M_multiply_23 {p : Program} {l : Launch} {e : Env} {s : State} {m : MethodId} {args : Array Value} {below : List Frame} {meth : Method} {c : Code} {D : va_G} {cy : Nat → ClassId} {A : Nat → Prop} {ad : Nat → Nat} {o : Nat} {q : Nat → Nat} {b1 : Nat} {b2 : Nat} {z : Nat → Int32} {h1 : Nat → Int32} {h2 : Nat → Int32} {fu : Nat} {k_23 : Int32 → (Nat → Int32) → Option ((Nat → Int32))} (F : Fx p s m args meth c b_M_multiply 7 "CoinKeeperModel" "multiply" none D cy ad A) (hk_23 : I_M_multiply_23 p l e s m args below meth c D cy A ad o q b1 b2 z h1 h2 k_23) : I_M_multiply_23 p l e s m args below meth c D cy A ad o q b1 b2 z h1 h2 (xb_M_multiply_23 fu z h1 h2 k_23) := by
  obtain ⟨hx, hb, hr, hml, hown, hts, hlocks, hK, hA, hSt, hnm, hex⟩ := id F
  intro x3 u0 res hf H locs ls hP hD hS hl
  unfold xb_M_multiply_23 at hf
  refine lv_iload_n hx hb d_M_multiply_23 rfl (lv_at hl 3 rfl) ?_
  refine lv_bipush (v := 8) hx hb d_M_multiply_24 (by decide) ?_
  refine lv_icmp_ge (tgt := 123) hx hb d_M_multiply_26 (by decide) (fun cx => ?_) (fun cx => ?_)
  · have hf := ifp cx hf
    obtain rfl := Option.some.inj hf
    exact q_rv hx hb hr hlocks hK hP hD hS d_M_multiply_123
  · have hf := ifn cx hf
    refine lv_lconst (v := 0) hx hb d_M_multiply_29 (by decide) ?_
    refine lv_lstore (lv' := [(4, .long (0 : Int64)), (0, .ref o), (1, .ref b1), (2, .ref b2), (3, .int x3)]) hx hb d_M_multiply_30 hl (by decide) rfl (fun ls hl => ?_)
    refine lv_iconst (v := 0) hx hb d_M_multiply_32 (by decide) ?_
    refine lv_istore (lv' := [(6, .int (0 : Int32)), (4, .long (0 : Int64)), (0, .ref o), (1, .ref b1), (2, .ref b2), (3, .int x3)]) hx hb d_M_multiply_33 hl (by decide) rfl (fun ls hl => ?_)
    exact w_M_multiply_35 F hk_23 fu _ _ _ _ _ hf _ _ _ hP hD hS (lv_sub hl [2, 3, 4, 5, 1, 0] rfl)
theorem w_M_multiply_23 {p : Program} {l : Launch} {e : Env} {s : State} {m : MethodId} {args : Array Value} {below : List Frame} {meth : Method} {c : Code} {D : va_G} {cy : Nat → ClassId} {A : Nat → Prop} {ad : Nat → Nat} {o : Nat} {q : Nat → Nat} {b1 : Nat} {b2 : Nat} {z : Nat → Int32} {h1 : Nat → Int32} {h2 : Nat → Int32} {fu : Nat} (F : Fx p s m args meth c b_M_multiply 7 "CoinKeeperModel" "multiply" none D cy ad A) : ∀ n : Nat, I_M_multiply_23 p l e s m args below meth c D cy A ad o q b1 b2 z h1 h2 (x_M_multiply_23 fu z h1 h2 n)
  | 0 => fun _ _ _ hf => nomatch (show (none : Option ((Nat → Int32))) = some _ from hf)
  | n + 1 => wb_M_multiply_23 F (w_M_multiply_23 F n)
set_option maxHeartbeats 8000000 in
set_option maxRecDepth 100000 in
theorem wb_M_multiply_2 {p : Program} {l : Launch} {e : Env} {s : State} {m : MethodId} {args : Array Value} {below : List Frame} {meth : Method} {c : Code} {D : va_G} {cy : Nat → ClassId} {A : Nat → Prop} {ad : Nat → Nat} {o : Nat} {q : Nat → Nat} {b1 : Nat} {b2 : Nat} {z : Nat → Int32} {h1 : Nat → Int32} {h2 : Nat → Int32} {fu : Nat} {k_2 : Int32 → (Nat → Int32) → Option ((Nat → Int32))} (F : Fx p s m args meth c b_M_multiply 7 "CoinKeeperModel" "multiply" none D cy ad A) (hk_2 : I_M_multiply_2 p l e s m args below meth c D cy A ad o q b1 b2 z h1 h2 k_2) : I_M_multiply_2 p l e s m args below meth c D cy A ad o q b1 b2 z h1 h2 (xb_M_multiply_2 fu z h1 h2 k_2) := by
  obtain ⟨hx, hb, hr, hml, hown, hts, hlocks, hK, hA, hSt, hnm, hex⟩ := id F
  intro x3 u0 res hf H locs ls hP hD hS hl
  unfold xb_M_multiply_2 at hf
  refine lv_iload_n hx hb d_M_multiply_2 rfl (lv_at hl 3 rfl) ?_
  refine lv_bipush (v := 16) hx hb d_M_multiply_3 (by decide) ?_
  refine lv_icmp_ge (tgt := 21) hx hb d_M_multiply_5 (by decide) (fun cx => ?_) (fun cx => ?_)
  · have hf := ifp cx hf
    refine lv_iconst (v := 0) hx hb d_M_multiply_21 (by decide) ?_
    refine lv_istore_n (lv' := [(3, .int (0 : Int32)), (0, .ref o), (1, .ref b1), (2, .ref b2)]) hx hb d_M_multiply_22 rfl hl (by decide) rfl (fun ls hl => ?_)
    exact w_M_multiply_23 F fu _ _ _ hf _ _ _ hP hD hS (lv_sub hl [1, 2, 3, 0] rfl)
  · have hf := ifn cx hf
    refine lv_aload_n hx hb d_M_multiply_8 rfl (lv_at hl 0 rfl) ?_
    refine va_get (D := D) (ci := 12) (v := .ref (q 50)) (C := "CoinKeeperModel") (T := F_12) (N := 98) hx hb hts i_12 hown hK hP 0 rfl rfl 58 (by decide) (hts _ gw_1477) (fun _ h9 => h9) rfl d_M_multiply_9 ?_
    refine lv_iload_n hx hb d_M_multiply_12 rfl (lv_at hl 3 rfl) ?_
    refine lv_iconst (v := 0) hx hb d_M_multiply_13 (by decide) ?_
    obtain ⟨hg, hf⟩ := gdp hf
    refine va_iast hx hb hK hP hD hS 1 1 rfl rfl (inb_in hg) d_M_multiply_14 (fun H locs hP hD hS => ?_)
    obtain ⟨f1, ev, hf⟩ := bne hf
    have hP : va_P D classes [(o, .inr (12, mo q z)), ((q 50), .inl (cy 1, 16, .inl f1)), (b1, .inl (cy 1, 8, .inl h1)), (b2, .inl (cy 1, 8, .inl h2))] H := by rw [ev]; exact hP
    have hD : va_D A [(o, .inr (12, mo q z)), ((q 50), .inl (cy 1, 16, .inl f1)), (b1, .inl (cy 1, 8, .inl h1)), (b2, .inl (cy 1, 8, .inl h2))] := by rw [ev]; exact hD
    clear ev
    obtain ⟨v2, ev, hf⟩ := bne hf
    refine lv_iinc (v := v2) (lv' := [(3, .int v2), (0, .ref o), (1, .ref b1), (2, .ref b2)]) hx hb d_M_multiply_15 hl (k := 3) rfl (by rw [ev]; rfl) (by decide) rfl (fun ls hl => ?_)
    clear ev
    refine lv_goto (tgt := 2) hx hb d_M_multiply_18 (by decide) ?_
    exact hk_2 _ _ _ hf _ _ _ hP hD hS (lv_sub hl [1, 2, 3, 0] rfl)
theorem w_M_multiply_2 {p : Program} {l : Launch} {e : Env} {s : State} {m : MethodId} {args : Array Value} {below : List Frame} {meth : Method} {c : Code} {D : va_G} {cy : Nat → ClassId} {A : Nat → Prop} {ad : Nat → Nat} {o : Nat} {q : Nat → Nat} {b1 : Nat} {b2 : Nat} {z : Nat → Int32} {h1 : Nat → Int32} {h2 : Nat → Int32} {fu : Nat} (F : Fx p s m args meth c b_M_multiply 7 "CoinKeeperModel" "multiply" none D cy ad A) : ∀ n : Nat, I_M_multiply_2 p l e s m args below meth c D cy A ad o q b1 b2 z h1 h2 (x_M_multiply_2 fu z h1 h2 n)
  | 0 => fun _ _ _ hf => nomatch (show (none : Option ((Nat → Int32))) = some _ from hf)
  | n + 1 => wb_M_multiply_2 F (w_M_multiply_2 F n)
set_option maxHeartbeats 8000000 in
set_option maxRecDepth 100000 in
theorem we_M_multiply {p : Program} {l : Launch} {e : Env} {s : State} {m : MethodId} {args : Array Value} {below : List Frame} {meth : Method} {c : Code} {D : va_G} {cy : Nat → ClassId} {A : Nat → Prop} {ad : Nat → Nat} {o : Nat} {q : Nat → Nat} {b1 : Nat} {b2 : Nat} {z : Nat → Int32} {h1 : Nat → Int32} {h2 : Nat → Int32} {fu : Nat} (F : Fx p s m args meth c b_M_multiply 7 "CoinKeeperModel" "multiply" none D cy ad A) : I_M_multiply_e p l e s m args below meth c D cy A ad o q b1 b2 z h1 h2 (x_M_multiply fu z h1 h2) := by
  obtain ⟨hx, hb, hr, hml, hown, hts, hlocks, hK, hA, hSt, hnm, hex⟩ := id F
  intro u0 res hf H locs ls hP hD hS hl
  unfold x_M_multiply at hf
  refine lv_iconst (v := 0) hx hb d_M_multiply_0 (by decide) ?_
  refine lv_istore_n (lv' := [(3, .int (0 : Int32)), (0, .ref o), (1, .ref b1), (2, .ref b2)]) hx hb d_M_multiply_1 rfl hl (by decide) rfl (fun ls hl => ?_)
  exact w_M_multiply_2 F fu _ _ _ hf _ _ _ hP hD hS (lv_sub hl [1, 2, 3, 0] rfl)
theorem c_M_multiply (l : Launch) (D : va_G) (cy : Nat → ClassId) (ad : Nat → Nat) (fu : Nat) (o : Nat) (q : Nat → Nat) (b1 : Nat) (b2 : Nat) (z : Nat → Int32) (h1 : Nat → Int32) (h2 : Nat → Int32) (u0 : Nat → Int32) (res : (Nat → Int32)) (hf : x_M_multiply fu z h1 h2 u0 = some res) (sz : Nat) : Met l ({ cls := "CoinKeeperModel", name := "multiply", desc := "([I[I)V" } : Jvm.MethodName) (.code ({ cls := "CoinKeeperModel", name := "multiply", desc := "([I[I)V" } : Jvm.MethodName) b_M_multiply 7 none :: gw) rm_M_multiply (va_Pc [.ref o, .ref b1, .ref b2] (Pr D cy ad [(o, .inr (12, mo q z)), ((q 50), .inl (cy 1, 16, .inl u0)), (b1, .inl (cy 1, 8, .inl h1)), (b2, .inl (cy 1, 8, .inl h2))] sz)) (q_M_multiply D cy (va_A [(o, .inr (12, mo q z)), ((q 50), .inl (cy 1, 16, .inl u0)), (b1, .inl (cy 1, 8, .inl h1)), (b2, .inl (cy 1, 8, .inl h2))] sz) o q b1 b2 z h1 h2 res) 0 0 (va_A [(o, .inr (12, mo q z)), ((q 50), .inl (cy 1, 16, .inl u0)), (b1, .inl (cy 1, 8, .inl h1)), (b2, .inl (cy 1, 8, .inl h2))] sz) :=
  q_met (Qc := fun A => q_M_multiply D cy A o q b1 b2 z h1 h2 res) (by decide) rfl rfl (Nat.le_of_ble_eq_true rfl) (fun p e s m below meth c ls F hP hD hS hl => we_M_multiply (fu := fu) F u0 res hf _ _ _ hP hD hS hl) sz
