abbrev b_M_worth : ByteArray := prog_14_method_21_code
theorem d_M_worth_0 : decode b_M_worth 0 = .ok (.iconst 0, 1) := by decide +kernel
theorem d_M_worth_1 : decode b_M_worth 1 = .ok (.istore_n 2, 1) := by decide +kernel
theorem d_M_worth_2 : decode b_M_worth 2 = .ok (.iload_n 2, 1) := by decide +kernel
theorem d_M_worth_3 : decode b_M_worth 3 = .ok (.bipush 8, 2) := by decide +kernel
theorem d_M_worth_5 : decode b_M_worth 5 = .ok (.if_icmp .ge 23, 3) := by decide +kernel
theorem d_M_worth_8 : decode b_M_worth 8 = .ok (.aload_n 0, 1) := by decide +kernel
theorem d_M_worth_9 : decode b_M_worth 9 = .ok (.getfield 148, 3) := by decide +kernel
theorem d_M_worth_12 : decode b_M_worth 12 = .ok (.iload_n 2, 1) := by decide +kernel
theorem d_M_worth_13 : decode b_M_worth 13 = .ok (.aload_n 0, 1) := by decide +kernel
theorem d_M_worth_14 : decode b_M_worth 14 = .ok (.getfield 130, 3) := by decide +kernel
theorem d_M_worth_17 : decode b_M_worth 17 = .ok (.iload_n 2, 1) := by decide +kernel
theorem d_M_worth_18 : decode b_M_worth 18 = .ok (.iaload, 1) := by decide +kernel
theorem d_M_worth_19 : decode b_M_worth 19 = .ok (.iconst (-1), 1) := by decide +kernel
theorem d_M_worth_20 : decode b_M_worth 20 = .ok (.ixor, 1) := by decide +kernel
theorem d_M_worth_21 : decode b_M_worth 21 = .ok (.iastore, 1) := by decide +kernel
theorem d_M_worth_22 : decode b_M_worth 22 = .ok (.iinc 2 1, 3) := by decide +kernel
theorem d_M_worth_25 : decode b_M_worth 25 = .ok (.goto (-23), 3) := by decide +kernel
theorem d_M_worth_28 : decode b_M_worth 28 = .ok (.aload_n 0, 1) := by decide +kernel
theorem d_M_worth_29 : decode b_M_worth 29 = .ok (.getfield 151, 3) := by decide +kernel
theorem d_M_worth_32 : decode b_M_worth 32 = .ok (.aload_n 0, 1) := by decide +kernel
theorem d_M_worth_33 : decode b_M_worth 33 = .ok (.getfield 130, 3) := by decide +kernel
theorem d_M_worth_36 : decode b_M_worth 36 = .ok (.aload_n 0, 1) := by decide +kernel
theorem d_M_worth_37 : decode b_M_worth 37 = .ok (.getfield 133, 3) := by decide +kernel
theorem d_M_worth_40 : decode b_M_worth 40 = .ok (.invokestatic 338, 3) := by decide +kernel
theorem d_M_worth_43 : decode b_M_worth 43 = .ok (.pop, 1) := by decide +kernel
theorem d_M_worth_44 : decode b_M_worth 44 = .ok (.aload_n 0, 1) := by decide +kernel
theorem d_M_worth_45 : decode b_M_worth 45 = .ok (.aload_n 0, 1) := by decide +kernel
theorem d_M_worth_46 : decode b_M_worth 46 = .ok (.getfield 148, 3) := by decide +kernel
theorem d_M_worth_49 : decode b_M_worth 49 = .ok (.aload_n 0, 1) := by decide +kernel
theorem d_M_worth_50 : decode b_M_worth 50 = .ok (.getfield 151, 3) := by decide +kernel
theorem d_M_worth_53 : decode b_M_worth 53 = .ok (.invokevirtual 367, 3) := by decide +kernel
theorem d_M_worth_56 : decode b_M_worth 56 = .ok (.aload_n 0, 1) := by decide +kernel
theorem d_M_worth_57 : decode b_M_worth 57 = .ok (.getfield 148, 3) := by decide +kernel
theorem d_M_worth_60 : decode b_M_worth 60 = .ok (.aload_n 0, 1) := by decide +kernel
theorem d_M_worth_61 : decode b_M_worth 61 = .ok (.getfield 142, 3) := by decide +kernel
theorem d_M_worth_64 : decode b_M_worth 64 = .ok (.aload_n 0, 1) := by decide +kernel
theorem d_M_worth_65 : decode b_M_worth 65 = .ok (.getfield 133, 3) := by decide +kernel
theorem d_M_worth_68 : decode b_M_worth 68 = .ok (.invokestatic 338, 3) := by decide +kernel
theorem d_M_worth_71 : decode b_M_worth 71 = .ok (.pop, 1) := by decide +kernel
theorem d_M_worth_72 : decode b_M_worth 72 = .ok (.iconst 0, 1) := by decide +kernel
theorem d_M_worth_73 : decode b_M_worth 73 = .ok (.istore_n 2, 1) := by decide +kernel
theorem d_M_worth_74 : decode b_M_worth 74 = .ok (.iload_n 2, 1) := by decide +kernel
theorem d_M_worth_75 : decode b_M_worth 75 = .ok (.bipush 8, 2) := by decide +kernel
theorem d_M_worth_77 : decode b_M_worth 77 = .ok (.if_icmp .ge 44, 3) := by decide +kernel
theorem d_M_worth_80 : decode b_M_worth 80 = .ok (.aload_n 0, 1) := by decide +kernel
theorem d_M_worth_81 : decode b_M_worth 81 = .ok (.getfield 151, 3) := by decide +kernel
theorem d_M_worth_84 : decode b_M_worth 84 = .ok (.iload_n 2, 1) := by decide +kernel
theorem d_M_worth_85 : decode b_M_worth 85 = .ok (.aload_n 0, 1) := by decide +kernel
theorem d_M_worth_86 : decode b_M_worth 86 = .ok (.getfield 21, 3) := by decide +kernel
theorem d_M_worth_89 : decode b_M_worth 89 = .ok (.iload_n 1, 1) := by decide +kernel
theorem d_M_worth_90 : decode b_M_worth 90 = .ok (.iaload, 1) := by decide +kernel
theorem d_M_worth_91 : decode b_M_worth 91 = .ok (.ifCond .ge 7, 3) := by decide +kernel
theorem d_M_worth_94 : decode b_M_worth 94 = .ok (.iconst 0, 1) := by decide +kernel
theorem d_M_worth_95 : decode b_M_worth 95 = .ok (.goto 19, 3) := by decide +kernel
theorem d_M_worth_98 : decode b_M_worth 98 = .ok (.aload_n 0, 1) := by decide +kernel
theorem d_M_worth_99 : decode b_M_worth 99 = .ok (.getfield 42, 3) := by decide +kernel
theorem d_M_worth_102 : decode b_M_worth 102 = .ok (.bipush 8, 2) := by decide +kernel
theorem d_M_worth_104 : decode b_M_worth 104 = .ok (.aload_n 0, 1) := by decide +kernel
theorem d_M_worth_105 : decode b_M_worth 105 = .ok (.getfield 21, 3) := by decide +kernel
theorem d_M_worth_108 : decode b_M_worth 108 = .ok (.iload_n 1, 1) := by decide +kernel
theorem d_M_worth_109 : decode b_M_worth 109 = .ok (.iaload, 1) := by decide +kernel
theorem d_M_worth_110 : decode b_M_worth 110 = .ok (.imul, 1) := by decide +kernel
theorem d_M_worth_111 : decode b_M_worth 111 = .ok (.iload_n 2, 1) := by decide +kernel
theorem d_M_worth_112 : decode b_M_worth 112 = .ok (.iadd, 1) := by decide +kernel
theorem d_M_worth_113 : decode b_M_worth 113 = .ok (.iaload, 1) := by decide +kernel
theorem d_M_worth_114 : decode b_M_worth 114 = .ok (.iastore, 1) := by decide +kernel
theorem d_M_worth_115 : decode b_M_worth 115 = .ok (.iinc 2 1, 3) := by decide +kernel
theorem d_M_worth_118 : decode b_M_worth 118 = .ok (.goto (-44), 3) := by decide +kernel
theorem d_M_worth_121 : decode b_M_worth 121 = .ok (.aload_n 0, 1) := by decide +kernel
theorem d_M_worth_122 : decode b_M_worth 122 = .ok (.getfield 148, 3) := by decide +kernel
theorem d_M_worth_125 : decode b_M_worth 125 = .ok (.aload_n 0, 1) := by decide +kernel
theorem d_M_worth_126 : decode b_M_worth 126 = .ok (.getfield 148, 3) := by decide +kernel
theorem d_M_worth_129 : decode b_M_worth 129 = .ok (.aload_n 0, 1) := by decide +kernel
theorem d_M_worth_130 : decode b_M_worth 130 = .ok (.getfield 151, 3) := by decide +kernel
theorem d_M_worth_133 : decode b_M_worth 133 = .ok (.invokestatic 338, 3) := by decide +kernel
theorem d_M_worth_136 : decode b_M_worth 136 = .ok (.pop, 1) := by decide +kernel
theorem d_M_worth_137 : decode b_M_worth 137 = .ok (.aload_n 0, 1) := by decide +kernel
theorem d_M_worth_138 : decode b_M_worth 138 = .ok (.getfield 148, 3) := by decide +kernel
theorem d_M_worth_141 : decode b_M_worth 141 = .ok (.iconst 0, 1) := by decide +kernel
theorem d_M_worth_142 : decode b_M_worth 142 = .ok (.aload_n 0, 1) := by decide +kernel
theorem d_M_worth_143 : decode b_M_worth 143 = .ok (.getfield 42, 3) := by decide +kernel
theorem d_M_worth_146 : decode b_M_worth 146 = .ok (.bipush 8, 2) := by decide +kernel
theorem d_M_worth_148 : decode b_M_worth 148 = .ok (.iload_n 1, 1) := by decide +kernel
theorem d_M_worth_149 : decode b_M_worth 149 = .ok (.imul, 1) := by decide +kernel
theorem d_M_worth_150 : decode b_M_worth 150 = .ok (.bipush 8, 2) := by decide +kernel
theorem d_M_worth_152 : decode b_M_worth 152 = .ok (.invokestatic 271, 3) := by decide +kernel
theorem d_M_worth_155 : decode b_M_worth 155 = .ok (.return_, 1) := by decide +kernel
abbrev rm_M_worth : Room := { frames := 4, cells := 0, slots := 0, locals := 88 }
abbrev q_M_worth (D : va_G) (cy : Nat → ClassId) (A : Nat → Prop) (o : Nat) (q : Nat → Nat) (z : Nat → Int32) (g_parent : Nat → Int32) (g_target : Nat → Int32) (g_one : Nat → Int32) (res : (Nat → Int32) × (Nat → Int32) × (Nat → Int32) × (Nat → Int32) × (Nat → Int32) × (Nat → Int32) × (Nat → Int32)) : Array Value → State → Outcome → State → Prop := va_Qv (fun (_ : Unit) => True) (fun _ t => Po D cy A [(o, .inr (12, mo q z)), ((q 3), .inl (cy 1, 202, .inl g_parent)), ((q 10), .inl (cy 1, 1616, .inl res.1)), ((q 38), .inl (cy 1, 8, .inl g_target)), ((q 39), .inl (cy 1, 8, .inl g_one)), ((q 40), .inl (cy 1, 8, .inl res.2.1)), ((q 41), .inl (cy 1, 8, .inl res.2.2.1)), ((q 42), .inl (cy 1, 8, .inl res.2.2.2.1)), ((q 43), .inl (cy 1, 8, .inl res.2.2.2.2.1)), ((q 44), .inl (cy 1, 8, .inl res.2.2.2.2.2.1)), ((q 45), .inl (cy 1, 8, .inl res.2.2.2.2.2.2))] t) A
def I_M_worth_114 (p : Program) (l : Launch) (e : Env) (s : State) (m : MethodId) (args : Array Value) (below : List Frame) (meth : Method) (c : Code) (D : va_G) (cy : Nat → ClassId) (A : Nat → Prop) (ad : Nat → Nat) (o : Nat) (q : Nat → Nat) (z : Nat → Int32) (g_parent : Nat → Int32) (g_target : Nat → Int32) (g_one : Nat → Int32) (k : Int32 → Int32 → Int32 → Int32 → (Nat → Int32) → (Nat → Int32) → (Nat → Int32) → (Nat → Int32) → (Nat → Int32) → (Nat → Int32) → (Nat → Int32) → Option ((Nat → Int32) × (Nat → Int32) × (Nat → Int32) × (Nat → Int32) × (Nat → Int32) × (Nat → Int32) × (Nat → Int32))) : Prop :=
  ∀ (x1 : Int32) (x2 : Int32) (y0 : Int32) (y1 : Int32) (u0 : Nat → Int32) (u1 : Nat → Int32) (u2 : Nat → Int32) (u3 : Nat → Int32) (u4 : Nat → Int32) (u5 : Nat → Int32) (u6 : Nat → Int32) (res : (Nat → Int32) × (Nat → Int32) × (Nat → Int32) × (Nat → Int32) × (Nat → Int32) × (Nat → Int32) × (Nat → Int32)), k x1 x2 y0 y1 u0 u1 u2 u3 u4 u5 u6 = some res → ∀ (H : Heap) (locs : List Loc) (ls : Array Slot), va_P D classes [(o, .inr (12, mo q z)), ((q 3), .inl (cy 1, 202, .inl g_parent)), ((q 10), .inl (cy 1, 1616, .inl u0)), ((q 38), .inl (cy 1, 8, .inl g_target)), ((q 39), .inl (cy 1, 8, .inl g_one)), ((q 40), .inl (cy 1, 8, .inl u1)), ((q 41), .inl (cy 1, 8, .inl u2)), ((q 42), .inl (cy 1, 8, .inl u3)), ((q 43), .inl (cy 1, 8, .inl u4)), ((q 44), .inl (cy 1, 8, .inl u5)), ((q 45), .inl (cy 1, 8, .inl u6))] H → va_D A [(o, .inr (12, mo q z)), ((q 3), .inl (cy 1, 202, .inl g_parent)), ((q 10), .inl (cy 1, 1616, .inl u0)), ((q 38), .inl (cy 1, 8, .inl g_target)), ((q 39), .inl (cy 1, 8, .inl g_one)), ((q 40), .inl (cy 1, 8, .inl u1)), ((q 41), .inl (cy 1, 8, .inl u2)), ((q 42), .inl (cy 1, 8, .inl u3)), ((q 43), .inl (cy 1, 8, .inl u4)), ((q 44), .inl (cy 1, 8, .inl u5)), ((q 45), .inl (cy 1, 8, .inl u6))] → va_S A s.heap H locs → lv_has ls 3 [(0, .ref o), (1, .int x1), (2, .int x2)] → W p l e rm_M_worth s m args below meth c H locs 0 0 (MQ below (q_M_worth D cy A o q z g_parent g_target g_one res) args s 0 0 A) (F0 m 114 ls [.int y0, .int y1, .ref (q 45)])
def I_M_worth_74 (p : Program) (l : Launch) (e : Env) (s : State) (m : MethodId) (args : Array Value) (below : List Frame) (meth : Method) (c : Code) (D : va_G) (cy : Nat → ClassId) (A : Nat → Prop) (ad : Nat → Nat) (o : Nat) (q : Nat → Nat) (z : Nat → Int32) (g_parent : Nat → Int32) (g_target : Nat → Int32) (g_one : Nat → Int32) (k : Int32 → Int32 → (Nat → Int32) → (Nat → Int32) → (Nat → Int32) → (Nat → Int32) → (Nat → Int32) → (Nat → Int32) → (Nat → Int32) → Option ((Nat → Int32) × (Nat → Int32) × (Nat → Int32) × (Nat → Int32) × (Nat → Int32) × (Nat → Int32) × (Nat → Int32))) : Prop :=
  ∀ (x1 : Int32) (x2 : Int32) (u0 : Nat → Int32) (u1 : Nat → Int32) (u2 : Nat → Int32) (u3 : Nat → Int32) (u4 : Nat → Int32) (u5 : Nat → Int32) (u6 : Nat → Int32) (res : (Nat → Int32) × (Nat → Int32) × (Nat → Int32) × (Nat → Int32) × (Nat → Int32) × (Nat → Int32) × (Nat → Int32)), k x1 x2 u0 u1 u2 u3 u4 u5 u6 = some res → ∀ (H : Heap) (locs : List Loc) (ls : Array Slot), va_P D classes [(o, .inr (12, mo q z)), ((q 3), .inl (cy 1, 202, .inl g_parent)), ((q 10), .inl (cy 1, 1616, .inl u0)), ((q 38), .inl (cy 1, 8, .inl g_target)), ((q 39), .inl (cy 1, 8, .inl g_one)), ((q 40), .inl (cy 1, 8, .inl u1)), ((q 41), .inl (cy 1, 8, .inl u2)), ((q 42), .inl (cy 1, 8, .inl u3)), ((q 43), .inl (cy 1, 8, .inl u4)), ((q 44), .inl (cy 1, 8, .inl u5)), ((q 45), .inl (cy 1, 8, .inl u6))] H → va_D A [(o, .inr (12, mo q z)), ((q 3), .inl (cy 1, 202, .inl g_parent)), ((q 10), .inl (cy 1, 1616, .inl u0)), ((q 38), .inl (cy 1, 8, .inl g_target)), ((q 39), .inl (cy 1, 8, .inl g_one)), ((q 40), .inl (cy 1, 8, .inl u1)), ((q 41), .inl (cy 1, 8, .inl u2)), ((q 42), .inl (cy 1, 8, .inl u3)), ((q 43), .inl (cy 1, 8, .inl u4)), ((q 44), .inl (cy 1, 8, .inl u5)), ((q 45), .inl (cy 1, 8, .inl u6))] → va_S A s.heap H locs → lv_has ls 3 [(0, .ref o), (1, .int x1), (2, .int x2)] → W p l e rm_M_worth s m args below meth c H locs 0 0 (MQ below (q_M_worth D cy A o q z g_parent g_target g_one res) args s 0 0 A) (F0 m 74 ls [])
def I_M_worth_2 (p : Program) (l : Launch) (e : Env) (s : State) (m : MethodId) (args : Array Value) (below : List Frame) (meth : Method) (c : Code) (D : va_G) (cy : Nat → ClassId) (A : Nat → Prop) (ad : Nat → Nat) (o : Nat) (q : Nat → Nat) (z : Nat → Int32) (g_parent : Nat → Int32) (g_target : Nat → Int32) (g_one : Nat → Int32) (k : Int32 → Int32 → (Nat → Int32) → (Nat → Int32) → (Nat → Int32) → (Nat → Int32) → (Nat → Int32) → (Nat → Int32) → (Nat → Int32) → Option ((Nat → Int32) × (Nat → Int32) × (Nat → Int32) × (Nat → Int32) × (Nat → Int32) × (Nat → Int32) × (Nat → Int32))) : Prop :=
  ∀ (x1 : Int32) (x2 : Int32) (u0 : Nat → Int32) (u1 : Nat → Int32) (u2 : Nat → Int32) (u3 : Nat → Int32) (u4 : Nat → Int32) (u5 : Nat → Int32) (u6 : Nat → Int32) (res : (Nat → Int32) × (Nat → Int32) × (Nat → Int32) × (Nat → Int32) × (Nat → Int32) × (Nat → Int32) × (Nat → Int32)), k x1 x2 u0 u1 u2 u3 u4 u5 u6 = some res → ∀ (H : Heap) (locs : List Loc) (ls : Array Slot), va_P D classes [(o, .inr (12, mo q z)), ((q 3), .inl (cy 1, 202, .inl g_parent)), ((q 10), .inl (cy 1, 1616, .inl u0)), ((q 38), .inl (cy 1, 8, .inl g_target)), ((q 39), .inl (cy 1, 8, .inl g_one)), ((q 40), .inl (cy 1, 8, .inl u1)), ((q 41), .inl (cy 1, 8, .inl u2)), ((q 42), .inl (cy 1, 8, .inl u3)), ((q 43), .inl (cy 1, 8, .inl u4)), ((q 44), .inl (cy 1, 8, .inl u5)), ((q 45), .inl (cy 1, 8, .inl u6))] H → va_D A [(o, .inr (12, mo q z)), ((q 3), .inl (cy 1, 202, .inl g_parent)), ((q 10), .inl (cy 1, 1616, .inl u0)), ((q 38), .inl (cy 1, 8, .inl g_target)), ((q 39), .inl (cy 1, 8, .inl g_one)), ((q 40), .inl (cy 1, 8, .inl u1)), ((q 41), .inl (cy 1, 8, .inl u2)), ((q 42), .inl (cy 1, 8, .inl u3)), ((q 43), .inl (cy 1, 8, .inl u4)), ((q 44), .inl (cy 1, 8, .inl u5)), ((q 45), .inl (cy 1, 8, .inl u6))] → va_S A s.heap H locs → lv_has ls 3 [(0, .ref o), (1, .int x1), (2, .int x2)] → W p l e rm_M_worth s m args below meth c H locs 0 0 (MQ below (q_M_worth D cy A o q z g_parent g_target g_one res) args s 0 0 A) (F0 m 2 ls [])
def I_M_worth_e (p : Program) (l : Launch) (e : Env) (s : State) (m : MethodId) (args : Array Value) (below : List Frame) (meth : Method) (c : Code) (D : va_G) (cy : Nat → ClassId) (A : Nat → Prop) (ad : Nat → Nat) (o : Nat) (q : Nat → Nat) (z : Nat → Int32) (g_parent : Nat → Int32) (g_target : Nat → Int32) (g_one : Nat → Int32) (k : Int32 → (Nat → Int32) → (Nat → Int32) → (Nat → Int32) → (Nat → Int32) → (Nat → Int32) → (Nat → Int32) → (Nat → Int32) → Option ((Nat → Int32) × (Nat → Int32) × (Nat → Int32) × (Nat → Int32) × (Nat → Int32) × (Nat → Int32) × (Nat → Int32))) : Prop :=
  ∀ (a1 : Int32) (u0 : Nat → Int32) (u1 : Nat → Int32) (u2 : Nat → Int32) (u3 : Nat → Int32) (u4 : Nat → Int32) (u5 : Nat → Int32) (u6 : Nat → Int32) (res : (Nat → Int32) × (Nat → Int32) × (Nat → Int32) × (Nat → Int32) × (Nat → Int32) × (Nat → Int32) × (Nat → Int32)), k a1 u0 u1 u2 u3 u4 u5 u6 = some res → ∀ (H : Heap) (locs : List Loc) (ls : Array Slot), va_P D classes [(o, .inr (12, mo q z)), ((q 3), .inl (cy 1, 202, .inl g_parent)), ((q 10), .inl (cy 1, 1616, .inl u0)), ((q 38), .inl (cy 1, 8, .inl g_target)), ((q 39), .inl (cy 1, 8, .inl g_one)), ((q 40), .inl (cy 1, 8, .inl u1)), ((q 41), .inl (cy 1, 8, .inl u2)), ((q 42), .inl (cy 1, 8, .inl u3)), ((q 43), .inl (cy 1, 8, .inl u4)), ((q 44), .inl (cy 1, 8, .inl u5)), ((q 45), .inl (cy 1, 8, .inl u6))] H → va_D A [(o, .inr (12, mo q z)), ((q 3), .inl (cy 1, 202, .inl g_parent)), ((q 10), .inl (cy 1, 1616, .inl u0)), ((q 38), .inl (cy 1, 8, .inl g_target)), ((q 39), .inl (cy 1, 8, .inl g_one)), ((q 40), .inl (cy 1, 8, .inl u1)), ((q 41), .inl (cy 1, 8, .inl u2)), ((q 42), .inl (cy 1, 8, .inl u3)), ((q 43), .inl (cy 1, 8, .inl u4)), ((q 44), .inl (cy 1, 8, .inl u5)), ((q 45), .inl (cy 1, 8, .inl u6))] → va_S A s.heap H locs → lv_has ls 3 [(0, .ref o), (1, .int a1)] → W p l e rm_M_worth s m args below meth c H locs 0 0 (MQ below (q_M_worth D cy A o q z g_parent g_target g_one res) args s 0 0 A) (F0 m 0 ls [])
set_option maxHeartbeats 8000000 in
set_option maxRecDepth 100000 in
theorem wb_M_worth_114 {p : Program} {l : Launch} {e : Env} {s : State} {m : MethodId} {args : Array Value} {below : List Frame} {meth : Method} {c : Code} {D : va_G} {cy : Nat → ClassId} {A : Nat → Prop} {ad : Nat → Nat} {o : Nat} {q : Nat → Nat} {z : Nat → Int32} {g_parent : Nat → Int32} {g_target : Nat → Int32} {g_one : Nat → Int32} {fu : Nat} {k_74 : Int32 → Int32 → (Nat → Int32) → (Nat → Int32) → (Nat → Int32) → (Nat → Int32) → (Nat → Int32) → (Nat → Int32) → (Nat → Int32) → Option ((Nat → Int32) × (Nat → Int32) × (Nat → Int32) × (Nat → Int32) × (Nat → Int32) × (Nat → Int32) × (Nat → Int32))} (F : Fx p s m args meth c b_M_worth 3 "CoinKeeperModel" "worth" none D cy ad A) (hk_74 : I_M_worth_74 p l e s m args below meth c D cy A ad o q z g_parent g_target g_one k_74) : I_M_worth_114 p l e s m args below meth c D cy A ad o q z g_parent g_target g_one (xb_M_worth_114 fu z g_parent g_target g_one k_74) := by
  obtain ⟨hx, hb, hr, hml, hown, hts, hlocks, hK, hA, hSt, hnm, hex⟩ := id F
  intro x1 x2 y0 y1 u0 u1 u2 u3 u4 u5 u6 res hf H locs ls hP hD hS hl
  unfold xb_M_worth_114 at hf
  obtain ⟨hg, hf⟩ := gdp hf
  refine va_iast hx hb hK hP hD hS 10 1 rfl rfl (inb_in hg) d_M_worth_114 (fun H locs hP hD hS => ?_)
  obtain ⟨f1, ev, hf⟩ := bne hf
  have hP : va_P D classes [(o, .inr (12, mo q z)), ((q 3), .inl (cy 1, 202, .inl g_parent)), ((q 10), .inl (cy 1, 1616, .inl u0)), ((q 38), .inl (cy 1, 8, .inl g_target)), ((q 39), .inl (cy 1, 8, .inl g_one)), ((q 40), .inl (cy 1, 8, .inl u1)), ((q 41), .inl (cy 1, 8, .inl u2)), ((q 42), .inl (cy 1, 8, .inl u3)), ((q 43), .inl (cy 1, 8, .inl u4)), ((q 44), .inl (cy 1, 8, .inl u5)), ((q 45), .inl (cy 1, 8, .inl f1))] H := by rw [ev]; exact hP
  have hD : va_D A [(o, .inr (12, mo q z)), ((q 3), .inl (cy 1, 202, .inl g_parent)), ((q 10), .inl (cy 1, 1616, .inl u0)), ((q 38), .inl (cy 1, 8, .inl g_target)), ((q 39), .inl (cy 1, 8, .inl g_one)), ((q 40), .inl (cy 1, 8, .inl u1)), ((q 41), .inl (cy 1, 8, .inl u2)), ((q 42), .inl (cy 1, 8, .inl u3)), ((q 43), .inl (cy 1, 8, .inl u4)), ((q 44), .inl (cy 1, 8, .inl u5)), ((q 45), .inl (cy 1, 8, .inl f1))] := by rw [ev]; exact hD
  clear ev
  obtain ⟨v2, ev, hf⟩ := bne hf
  refine lv_iinc (v := v2) (lv' := [(2, .int v2), (0, .ref o), (1, .int x1)]) hx hb d_M_worth_115 hl (k := 2) rfl (by rw [ev]; rfl) (by decide) rfl (fun ls hl => ?_)
  clear ev
  refine lv_goto (tgt := 74) hx hb d_M_worth_118 (by decide) ?_
  exact hk_74 _ _ _ _ _ _ _ _ _ _ hf _ _ _ hP hD hS (lv_sub hl [1, 2, 0] rfl)
set_option maxHeartbeats 8000000 in
set_option maxRecDepth 100000 in
theorem wb_M_worth_74 {p : Program} {l : Launch} {e : Env} {s : State} {m : MethodId} {args : Array Value} {below : List Frame} {meth : Method} {c : Code} {D : va_G} {cy : Nat → ClassId} {A : Nat → Prop} {ad : Nat → Nat} {o : Nat} {q : Nat → Nat} {z : Nat → Int32} {g_parent : Nat → Int32} {g_target : Nat → Int32} {g_one : Nat → Int32} {fu : Nat} {k_74 : Int32 → Int32 → (Nat → Int32) → (Nat → Int32) → (Nat → Int32) → (Nat → Int32) → (Nat → Int32) → (Nat → Int32) → (Nat → Int32) → Option ((Nat → Int32) × (Nat → Int32) × (Nat → Int32) × (Nat → Int32) × (Nat → Int32) × (Nat → Int32) × (Nat → Int32))} (F : Fx p s m args meth c b_M_worth 3 "CoinKeeperModel" "worth" none D cy ad A) (hk_74 : I_M_worth_74 p l e s m args below meth c D cy A ad o q z g_parent g_target g_one k_74) : I_M_worth_74 p l e s m args below meth c D cy A ad o q z g_parent g_target g_one (xb_M_worth_74 fu z g_parent g_target g_one k_74) := by
  obtain ⟨hx, hb, hr, hml, hown, hts, hlocks, hK, hA, hSt, hnm, hex⟩ := id F
  intro x1 x2 u0 u1 u2 u3 u4 u5 u6 res hf H locs ls hP hD hS hl
  unfold xb_M_worth_74 at hf
  refine lv_iload_n hx hb d_M_worth_74 rfl (lv_at hl 2 rfl) ?_
  refine lv_bipush (v := 8) hx hb d_M_worth_75 (by decide) ?_
  refine lv_icmp_ge (tgt := 121) hx hb d_M_worth_77 (by decide) (fun cx => ?_) (fun cx => ?_)
  · have hf := ifp cx hf
    refine lv_aload_n hx hb d_M_worth_121 rfl (lv_at hl 0 rfl) ?_
    refine va_get (D := D) (ci := 12) (v := .ref (q 44)) (C := "CoinKeeperModel") (T := F_12) (N := 98) hx hb hts i_12 hown hK hP 0 rfl rfl 52 (by decide) (hts _ gw_1471) (fun _ h9 => h9) rfl d_M_worth_122 ?_
    refine lv_aload_n hx hb d_M_worth_125 rfl (lv_at hl 0 rfl) ?_
    refine va_get (D := D) (ci := 12) (v := .ref (q 44)) (C := "CoinKeeperModel") (T := F_12) (N := 98) hx hb hts i_12 hown hK hP 0 rfl rfl 52 (by decide) (hts _ gw_1471) (fun _ h9 => h9) rfl d_M_worth_126 ?_
    refine lv_aload_n hx hb d_M_worth_129 rfl (lv_at hl 0 rfl) ?_
    refine va_get (D := D) (ci := 12) (v := .ref (q 45)) (C := "CoinKeeperModel") (T := F_12) (N := 98) hx hb hts i_12 hown hK hP 0 rfl rfl 53 (by decide) (hts _ gw_1472) (fun _ h9 => h9) rfl d_M_worth_130 ?_
    obtain ⟨v1, f2, hc, hf⟩ := bdp2 hf
    refine q_ai (wr := [(o, .inr (12, mo q z)), ((q 3), .inl (cy 1, 202, .inl g_parent)), ((q 10), .inl (cy 1, 1616, .inl u0)), ((q 38), .inl (cy 1, 8, .inl g_target)), ((q 39), .inl (cy 1, 8, .inl g_one)), ((q 40), .inl (cy 1, 8, .inl u1)), ((q 41), .inl (cy 1, 8, .inl u2)), ((q 42), .inl (cy 1, 8, .inl u3)), ((q 43), .inl (cy 1, 8, .inl u4))]) (va_runS (As := [.ref (q 44), .ref (q 44), .ref (q 45)]) (rest := []) ⟨hx, hb, hml, hown, hts⟩ (c_M_add_e10 l D cy ad fu (q 44) (q 45) u6 u5 _ hc H.size) ⟨q_cB hts gw_1389 gw_18 gw_1387 hdm_19 ⟨by decide, by decide⟩, hts _ gw_1388⟩ (q_pre (hP.sub [9, 10] rfl) (hD.sub [9, 10] (by decide) rfl) hK hSt hS (va_free hD hS hA [9, 10] rfl) _) rfl rfl hl.1 rfl (lv_room (Nat.le_of_ble_eq_true rfl)) d_M_worth_133 ⟨Nat.le_of_ble_eq_true rfl, Nat.le_of_ble_eq_true rfl⟩) hP hD hS hA [9, 10] [0, 1, 2, 3, 4, 5, 6, 7, 8] rfl rfl (by decide) (by decide) (fun H locs hP hD hS => ?_)
    clear hc
    have hP : va_P D classes [(o, .inr (12, mo q z)), ((q 3), .inl (cy 1, 202, .inl g_parent)), ((q 10), .inl (cy 1, 1616, .inl u0)), ((q 38), .inl (cy 1, 8, .inl g_target)), ((q 39), .inl (cy 1, 8, .inl g_one)), ((q 40), .inl (cy 1, 8, .inl u1)), ((q 41), .inl (cy 1, 8, .inl u2)), ((q 42), .inl (cy 1, 8, .inl u3)), ((q 43), .inl (cy 1, 8, .inl u4)), ((q 44), .inl (cy 1, 8, .inl f2)), ((q 45), .inl (cy 1, 8, .inl u6))] H := hP
    have hD : va_D A [(o, .inr (12, mo q z)), ((q 3), .inl (cy 1, 202, .inl g_parent)), ((q 10), .inl (cy 1, 1616, .inl u0)), ((q 38), .inl (cy 1, 8, .inl g_target)), ((q 39), .inl (cy 1, 8, .inl g_one)), ((q 40), .inl (cy 1, 8, .inl u1)), ((q 41), .inl (cy 1, 8, .inl u2)), ((q 42), .inl (cy 1, 8, .inl u3)), ((q 43), .inl (cy 1, 8, .inl u4)), ((q 44), .inl (cy 1, 8, .inl f2)), ((q 45), .inl (cy 1, 8, .inl u6))] := hD
    refine lv_pop hx hb d_M_worth_136 rfl ?_
    refine lv_aload_n hx hb d_M_worth_137 rfl (lv_at hl 0 rfl) ?_
    refine va_get (D := D) (ci := 12) (v := .ref (q 44)) (C := "CoinKeeperModel") (T := F_12) (N := 98) hx hb hts i_12 hown hK hP 0 rfl rfl 52 (by decide) (hts _ gw_1471) (fun _ h9 => h9) rfl d_M_worth_138 ?_
    refine lv_iconst (v := 0) hx hb d_M_worth_141 (by decide) ?_
    refine lv_aload_n hx hb d_M_worth_142 rfl (lv_at hl 0 rfl) ?_
    refine va_get (D := D) (ci := 12) (v := .ref (q 10)) (C := "CoinKeeperModel") (T := F_12) (N := 98) hx hb hts i_12 hown hK hP 0 rfl rfl 13 (by decide) (hts _ gw_1432) (fun _ h9 => h9) rfl d_M_worth_143 ?_
    refine lv_bipush (v := 8) hx hb d_M_worth_146 (by decide) ?_
    refine lv_iload_n hx hb d_M_worth_148 rfl (lv_at hl 1 rfl) ?_
    refine lv_imul hx hb d_M_worth_149 ?_
    refine lv_topi (fun v3 ev => ?_)
    have hf := bn ev hf
    clear ev
    refine lv_bipush (v := 8) hx hb d_M_worth_150 (by decide) ?_
    obtain ⟨hg, hf⟩ := gdp hf
    refine va_copyi (rest := []) hx hb (hml.trans hl.1.symm) hown (hts _ gw_1398) (hts _ gw_497) (hts _ gw_496) (hts _ gw_17) hK hP hD hS 9 2 1 1 rfl rfl rfl rfl rfl (cpk_p hg).1 (cpk_p hg).2.1 (cpk_p hg).2.2.1 (cpk_p hg).2.2.2.1 (cpk_p hg).2.2.2.2 (fun _ _ => rfl) (by decide) (by decide) d_M_worth_152 (fun H locs hP hD hS => ?_)
    obtain ⟨f4, ev, hf⟩ := bne hf
    have hP : va_P D classes [(o, .inr (12, mo q z)), ((q 3), .inl (cy 1, 202, .inl g_parent)), ((q 10), .inl (cy 1, 1616, .inl f4)), ((q 38), .inl (cy 1, 8, .inl g_target)), ((q 39), .inl (cy 1, 8, .inl g_one)), ((q 40), .inl (cy 1, 8, .inl u1)), ((q 41), .inl (cy 1, 8, .inl u2)), ((q 42), .inl (cy 1, 8, .inl u3)), ((q 43), .inl (cy 1, 8, .inl u4)), ((q 44), .inl (cy 1, 8, .inl f2)), ((q 45), .inl (cy 1, 8, .inl u6))] H := by rw [ev]; exact hP
    have hD : va_D A [(o, .inr (12, mo q z)), ((q 3), .inl (cy 1, 202, .inl g_parent)), ((q 10), .inl (cy 1, 1616, .inl f4)), ((q 38), .inl (cy 1, 8, .inl g_target)), ((q 39), .inl (cy 1, 8, .inl g_one)), ((q 40), .inl (cy 1, 8, .inl u1)), ((q 41), .inl (cy 1, 8, .inl u2)), ((q 42), .inl (cy 1, 8, .inl u3)), ((q 43), .inl (cy 1, 8, .inl u4)), ((q 44), .inl (cy 1, 8, .inl f2)), ((q 45), .inl (cy 1, 8, .inl u6))] := by rw [ev]; exact hD
    clear ev
    obtain rfl := Option.some.inj hf
    exact q_rv hx hb hr hlocks hK hP hD hS d_M_worth_155
  · have hf := ifn cx hf
    refine lv_aload_n hx hb d_M_worth_80 rfl (lv_at hl 0 rfl) ?_
    refine va_get (D := D) (ci := 12) (v := .ref (q 45)) (C := "CoinKeeperModel") (T := F_12) (N := 98) hx hb hts i_12 hown hK hP 0 rfl rfl 53 (by decide) (hts _ gw_1472) (fun _ h9 => h9) rfl d_M_worth_81 ?_
    refine lv_iload_n hx hb d_M_worth_84 rfl (lv_at hl 2 rfl) ?_
    refine lv_aload_n hx hb d_M_worth_85 rfl (lv_at hl 0 rfl) ?_
    refine va_get (D := D) (ci := 12) (v := .ref (q 3)) (C := "CoinKeeperModel") (T := F_12) (N := 98) hx hb hts i_12 hown hK hP 0 rfl rfl 6 (by decide) (hts _ gw_1425) (fun _ h9 => h9) rfl d_M_worth_86 ?_
    refine lv_iload_n hx hb d_M_worth_89 rfl (lv_at hl 1 rfl) ?_
    obtain ⟨hg, hf⟩ := gdp hf
    refine va_iald hx hb hK hP 1 1 rfl rfl (inb_in hg) d_M_worth_90 ?_
    refine lv_topi (fun v5 ev => ?_)
    have hf := bn ev hf
    clear ev
    refine lv_if_ge (tgt := 98) hx hb d_M_worth_91 (by decide) (fun cx => ?_) (fun cx => ?_)
    · have hf := ifp cx hf
      refine lv_aload_n hx hb d_M_worth_98 rfl (lv_at hl 0 rfl) ?_
      refine va_get (D := D) (ci := 12) (v := .ref (q 10)) (C := "CoinKeeperModel") (T := F_12) (N := 98) hx hb hts i_12 hown hK hP 0 rfl rfl 13 (by decide) (hts _ gw_1432) (fun _ h9 => h9) rfl d_M_worth_99 ?_
      refine lv_bipush (v := 8) hx hb d_M_worth_102 (by decide) ?_
      refine lv_aload_n hx hb d_M_worth_104 rfl (lv_at hl 0 rfl) ?_
      refine va_get (D := D) (ci := 12) (v := .ref (q 3)) (C := "CoinKeeperModel") (T := F_12) (N := 98) hx hb hts i_12 hown hK hP 0 rfl rfl 6 (by decide) (hts _ gw_1425) (fun _ h9 => h9) rfl d_M_worth_105 ?_
      refine lv_iload_n hx hb d_M_worth_108 rfl (lv_at hl 1 rfl) ?_
      obtain ⟨hg, hf⟩ := gdp hf
      refine va_iald hx hb hK hP 1 1 rfl rfl (inb_in hg) d_M_worth_109 ?_
      refine lv_topi (fun v6 ev => ?_)
      have hf := bn ev hf
      clear ev
      refine lv_imul hx hb d_M_worth_110 ?_
      refine lv_topi (fun v7 ev => ?_)
      have hf := bn ev hf
      clear ev
      refine lv_iload_n hx hb d_M_worth_111 rfl (lv_at hl 2 rfl) ?_
      refine lv_iadd hx hb d_M_worth_112 ?_
      refine lv_topi (fun v8 ev => ?_)
      have hf := bn ev hf
      clear ev
      obtain ⟨hg, hf⟩ := gdp hf
      refine va_iald hx hb hK hP 2 1 rfl rfl (inb_in hg) d_M_worth_113 ?_
      refine lv_topi (fun v9 ev => ?_)
      have hf := bn ev hf
      clear ev
      exact wb_M_worth_114 (fu := fu) F hk_74 _ _ _ _ _ _ _ _ _ _ _ _ hf _ _ _ hP hD hS (lv_sub hl [0, 1, 2] rfl)
    · have hf := ifn cx hf
      refine lv_iconst (v := 0) hx hb d_M_worth_94 (by decide) ?_
      refine lv_goto (tgt := 114) hx hb d_M_worth_95 (by decide) ?_
      exact wb_M_worth_114 (fu := fu) F hk_74 _ _ _ _ _ _ _ _ _ _ _ _ hf _ _ _ hP hD hS (lv_sub hl [0, 1, 2] rfl)
theorem w_M_worth_74 {p : Program} {l : Launch} {e : Env} {s : State} {m : MethodId} {args : Array Value} {below : List Frame} {meth : Method} {c : Code} {D : va_G} {cy : Nat → ClassId} {A : Nat → Prop} {ad : Nat → Nat} {o : Nat} {q : Nat → Nat} {z : Nat → Int32} {g_parent : Nat → Int32} {g_target : Nat → Int32} {g_one : Nat → Int32} {fu : Nat} (F : Fx p s m args meth c b_M_worth 3 "CoinKeeperModel" "worth" none D cy ad A) : ∀ n : Nat, I_M_worth_74 p l e s m args below meth c D cy A ad o q z g_parent g_target g_one (x_M_worth_74 fu z g_parent g_target g_one n)
  | 0 => fun _ _ _ _ _ _ _ _ _ _ hf => nomatch (show (none : Option ((Nat → Int32) × (Nat → Int32) × (Nat → Int32) × (Nat → Int32) × (Nat → Int32) × (Nat → Int32) × (Nat → Int32))) = some _ from hf)
  | n + 1 => wb_M_worth_74 F (w_M_worth_74 F n)
theorem hdm_67 : ({ cls := "CoinKeeperModel", name := "divide", desc := "([I[I)V" } : Jvm.MethodName).cls ≠ "java/lang/invoke/MethodHandle" ∧ ({ cls := "CoinKeeperModel", name := "divide", desc := "([I[I)V" } : Jvm.MethodName).cls ≠ "java/lang/invoke/VarHandle" ∧ (parseMethodDescriptor ({ cls := "CoinKeeperModel", name := "divide", desc := "([I[I)V" } : Jvm.MethodName).desc).map (fun d => d.parameters.length) = some 2 := by decide +kernel
set_option maxHeartbeats 8000000 in
set_option maxRecDepth 100000 in
theorem wb_M_worth_2 {p : Program} {l : Launch} {e : Env} {s : State} {m : MethodId} {args : Array Value} {below : List Frame} {meth : Method} {c : Code} {D : va_G} {cy : Nat → ClassId} {A : Nat → Prop} {ad : Nat → Nat} {o : Nat} {q : Nat → Nat} {z : Nat → Int32} {g_parent : Nat → Int32} {g_target : Nat → Int32} {g_one : Nat → Int32} {fu : Nat} {k_2 : Int32 → Int32 → (Nat → Int32) → (Nat → Int32) → (Nat → Int32) → (Nat → Int32) → (Nat → Int32) → (Nat → Int32) → (Nat → Int32) → Option ((Nat → Int32) × (Nat → Int32) × (Nat → Int32) × (Nat → Int32) × (Nat → Int32) × (Nat → Int32) × (Nat → Int32))} (F : Fx p s m args meth c b_M_worth 3 "CoinKeeperModel" "worth" none D cy ad A) (hk_2 : I_M_worth_2 p l e s m args below meth c D cy A ad o q z g_parent g_target g_one k_2) : I_M_worth_2 p l e s m args below meth c D cy A ad o q z g_parent g_target g_one (xb_M_worth_2 fu z g_parent g_target g_one k_2) := by
  obtain ⟨hx, hb, hr, hml, hown, hts, hlocks, hK, hA, hSt, hnm, hex⟩ := id F
  intro x1 x2 u0 u1 u2 u3 u4 u5 u6 res hf H locs ls hP hD hS hl
  unfold xb_M_worth_2 at hf
  refine lv_iload_n hx hb d_M_worth_2 rfl (lv_at hl 2 rfl) ?_
  refine lv_bipush (v := 8) hx hb d_M_worth_3 (by decide) ?_
  refine lv_icmp_ge (tgt := 28) hx hb d_M_worth_5 (by decide) (fun cx => ?_) (fun cx => ?_)
  · have hf := ifp cx hf
    refine lv_aload_n hx hb d_M_worth_28 rfl (lv_at hl 0 rfl) ?_
    refine va_get (D := D) (ci := 12) (v := .ref (q 45)) (C := "CoinKeeperModel") (T := F_12) (N := 98) hx hb hts i_12 hown hK hP 0 rfl rfl 53 (by decide) (hts _ gw_1472) (fun _ h9 => h9) rfl d_M_worth_29 ?_
    refine lv_aload_n hx hb d_M_worth_32 rfl (lv_at hl 0 rfl) ?_
    refine va_get (D := D) (ci := 12) (v := .ref (q 38)) (C := "CoinKeeperModel") (T := F_12) (N := 98) hx hb hts i_12 hown hK hP 0 rfl rfl 46 (by decide) (hts _ gw_1465) (fun _ h9 => h9) rfl d_M_worth_33 ?_
    refine lv_aload_n hx hb d_M_worth_36 rfl (lv_at hl 0 rfl) ?_
    refine va_get (D := D) (ci := 12) (v := .ref (q 39)) (C := "CoinKeeperModel") (T := F_12) (N := 98) hx hb hts i_12 hown hK hP 0 rfl rfl 47 (by decide) (hts _ gw_1466) (fun _ h9 => h9) rfl d_M_worth_37 ?_
    obtain ⟨v1, f2, hc, hf⟩ := bdp2 hf
    refine q_ai (wr := [(o, .inr (12, mo q z)), ((q 3), .inl (cy 1, 202, .inl g_parent)), ((q 10), .inl (cy 1, 1616, .inl u0)), ((q 40), .inl (cy 1, 8, .inl u1)), ((q 41), .inl (cy 1, 8, .inl u2)), ((q 42), .inl (cy 1, 8, .inl u3)), ((q 43), .inl (cy 1, 8, .inl u4)), ((q 44), .inl (cy 1, 8, .inl u5))]) (va_runS (As := [.ref (q 45), .ref (q 38), .ref (q 39)]) (rest := []) ⟨hx, hb, hml, hown, hts⟩ (c_M_add l D cy ad fu (q 45) (q 38) (q 39) g_target g_one u6 _ hc H.size) ⟨q_cB hts gw_1389 gw_18 gw_1387 hdm_19 ⟨by decide, by decide⟩, hts _ gw_1388⟩ (q_pre (hP.sub [10, 3, 4] rfl) (hD.sub [10, 3, 4] (by decide) rfl) hK hSt hS (va_free hD hS hA [10, 3, 4] rfl) _) rfl rfl hl.1 rfl (lv_room (Nat.le_of_ble_eq_true rfl)) d_M_worth_40 ⟨Nat.le_of_ble_eq_true rfl, Nat.le_of_ble_eq_true rfl⟩) hP hD hS hA [10, 3, 4] [0, 1, 2, 5, 6, 7, 8, 9] rfl rfl (by decide) (by decide) (fun H locs hP hD hS => ?_)
    clear hc
    have hP : va_P D classes [(o, .inr (12, mo q z)), ((q 3), .inl (cy 1, 202, .inl g_parent)), ((q 10), .inl (cy 1, 1616, .inl u0)), ((q 40), .inl (cy 1, 8, .inl u1)), ((q 41), .inl (cy 1, 8, .inl u2)), ((q 42), .inl (cy 1, 8, .inl u3)), ((q 43), .inl (cy 1, 8, .inl u4)), ((q 44), .inl (cy 1, 8, .inl u5)), ((q 45), .inl (cy 1, 8, .inl f2)), ((q 38), .inl (cy 1, 8, .inl g_target)), ((q 39), .inl (cy 1, 8, .inl g_one))] H := hP
    have hD : va_D A [(o, .inr (12, mo q z)), ((q 3), .inl (cy 1, 202, .inl g_parent)), ((q 10), .inl (cy 1, 1616, .inl u0)), ((q 40), .inl (cy 1, 8, .inl u1)), ((q 41), .inl (cy 1, 8, .inl u2)), ((q 42), .inl (cy 1, 8, .inl u3)), ((q 43), .inl (cy 1, 8, .inl u4)), ((q 44), .inl (cy 1, 8, .inl u5)), ((q 45), .inl (cy 1, 8, .inl f2)), ((q 38), .inl (cy 1, 8, .inl g_target)), ((q 39), .inl (cy 1, 8, .inl g_one))] := hD
    refine lv_pop hx hb d_M_worth_43 rfl ?_
    refine lv_aload_n hx hb d_M_worth_44 rfl (lv_at hl 0 rfl) ?_
    refine lv_aload_n hx hb d_M_worth_45 rfl (lv_at hl 0 rfl) ?_
    refine va_get (D := D) (ci := 12) (v := .ref (q 44)) (C := "CoinKeeperModel") (T := F_12) (N := 98) hx hb hts i_12 hown hK hP 0 rfl rfl 52 (by decide) (hts _ gw_1471) (fun _ h9 => h9) rfl d_M_worth_46 ?_
    refine lv_aload_n hx hb d_M_worth_49 rfl (lv_at hl 0 rfl) ?_
    refine va_get (D := D) (ci := 12) (v := .ref (q 45)) (C := "CoinKeeperModel") (T := F_12) (N := 98) hx hb hts i_12 hown hK hP 0 rfl rfl 53 (by decide) (hts _ gw_1472) (fun _ h9 => h9) rfl d_M_worth_50 ?_
    obtain ⟨f3, f4, f5, f6, hc, hf⟩ := bdp4 hf
    refine q_av (wr := [((q 3), .inl (cy 1, 202, .inl g_parent)), ((q 10), .inl (cy 1, 1616, .inl u0)), ((q 38), .inl (cy 1, 8, .inl g_target)), ((q 39), .inl (cy 1, 8, .inl g_one))]) (va_runV (C := "CoinKeeperModel") (As := [.ref (q 44), .ref (q 45)]) (rest := []) ⟨hx, hb, hml, hown, hts⟩ (c_M_divide l D cy ad fu o q (q 44) (q 45) z u5 f2 u1 u2 u3 u4 _ hc H.size) ⟨q_cB hts gw_1394 gw_18 gw_1391 hdm_67 ⟨by decide, by decide⟩, hts _ gw_1393, hts _ gs_64⟩ (q_preV (q_pre (hP.sub [0, 3, 4, 5, 6, 7, 8] rfl) (hD.sub [0, 3, 4, 5, 6, 7, 8] (by decide) rfl) hK hSt hS (va_free hD hS hA [0, 3, 4, 5, 6, 7, 8] rfl) _) (va_recv hK (hP.sub [0, 3, 4, 5, 6, 7, 8] rfl) (ci := 12) (q0 := 0) rfl rfl)) rfl rfl hl.1 rfl (lv_room (Nat.le_of_ble_eq_true rfl)) d_M_worth_53 ⟨Nat.le_of_ble_eq_true rfl, Nat.le_of_ble_eq_true rfl⟩) hP hD hS hA [0, 3, 4, 5, 6, 7, 8] [1, 2, 9, 10] rfl rfl (by decide) (by decide) (fun H locs hP hD hS => ?_)
    clear hc
    have hP : va_P D classes [((q 3), .inl (cy 1, 202, .inl g_parent)), ((q 10), .inl (cy 1, 1616, .inl u0)), ((q 38), .inl (cy 1, 8, .inl g_target)), ((q 39), .inl (cy 1, 8, .inl g_one)), (o, .inr (12, mo q z)), ((q 40), .inl (cy 1, 8, .inl f3)), ((q 41), .inl (cy 1, 8, .inl f4)), ((q 42), .inl (cy 1, 8, .inl f5)), ((q 43), .inl (cy 1, 8, .inl f6)), ((q 44), .inl (cy 1, 8, .inl u5)), ((q 45), .inl (cy 1, 8, .inl f2))] H := hP
    have hD : va_D A [((q 3), .inl (cy 1, 202, .inl g_parent)), ((q 10), .inl (cy 1, 1616, .inl u0)), ((q 38), .inl (cy 1, 8, .inl g_target)), ((q 39), .inl (cy 1, 8, .inl g_one)), (o, .inr (12, mo q z)), ((q 40), .inl (cy 1, 8, .inl f3)), ((q 41), .inl (cy 1, 8, .inl f4)), ((q 42), .inl (cy 1, 8, .inl f5)), ((q 43), .inl (cy 1, 8, .inl f6)), ((q 44), .inl (cy 1, 8, .inl u5)), ((q 45), .inl (cy 1, 8, .inl f2))] := hD
    refine lv_aload_n hx hb d_M_worth_56 rfl (lv_at hl 0 rfl) ?_
    refine va_get (D := D) (ci := 12) (v := .ref (q 44)) (C := "CoinKeeperModel") (T := F_12) (N := 98) hx hb hts i_12 hown hK hP 4 rfl rfl 52 (by decide) (hts _ gw_1471) (fun _ h9 => h9) rfl d_M_worth_57 ?_
    refine lv_aload_n hx hb d_M_worth_60 rfl (lv_at hl 0 rfl) ?_
    refine va_get (D := D) (ci := 12) (v := .ref (q 42)) (C := "CoinKeeperModel") (T := F_12) (N := 98) hx hb hts i_12 hown hK hP 4 rfl rfl 50 (by decide) (hts _ gw_1469) (fun _ h9 => h9) rfl d_M_worth_61 ?_
    refine lv_aload_n hx hb d_M_worth_64 rfl (lv_at hl 0 rfl) ?_
    refine va_get (D := D) (ci := 12) (v := .ref (q 39)) (C := "CoinKeeperModel") (T := F_12) (N := 98) hx hb hts i_12 hown hK hP 4 rfl rfl 47 (by decide) (hts _ gw_1466) (fun _ h9 => h9) rfl d_M_worth_65 ?_
    obtain ⟨v7, f8, hc, hf⟩ := bdp2 hf
    refine q_ai (wr := [((q 3), .inl (cy 1, 202, .inl g_parent)), ((q 10), .inl (cy 1, 1616, .inl u0)), ((q 38), .inl (cy 1, 8, .inl g_target)), (o, .inr (12, mo q z)), ((q 40), .inl (cy 1, 8, .inl f3)), ((q 41), .inl (cy 1, 8, .inl f4)), ((q 43), .inl (cy 1, 8, .inl f6)), ((q 45), .inl (cy 1, 8, .inl f2))]) (va_runS (As := [.ref (q 44), .ref (q 42), .ref (q 39)]) (rest := []) ⟨hx, hb, hml, hown, hts⟩ (c_M_add l D cy ad fu (q 44) (q 42) (q 39) f5 g_one u5 _ hc H.size) ⟨q_cB hts gw_1389 gw_18 gw_1387 hdm_19 ⟨by decide, by decide⟩, hts _ gw_1388⟩ (q_pre (hP.sub [9, 7, 3] rfl) (hD.sub [9, 7, 3] (by decide) rfl) hK hSt hS (va_free hD hS hA [9, 7, 3] rfl) _) rfl rfl hl.1 rfl (lv_room (Nat.le_of_ble_eq_true rfl)) d_M_worth_68 ⟨Nat.le_of_ble_eq_true rfl, Nat.le_of_ble_eq_true rfl⟩) hP hD hS hA [9, 7, 3] [0, 1, 2, 4, 5, 6, 8, 10] rfl rfl (by decide) (by decide) (fun H locs hP hD hS => ?_)
    clear hc
    have hP : va_P D classes [((q 3), .inl (cy 1, 202, .inl g_parent)), ((q 10), .inl (cy 1, 1616, .inl u0)), ((q 38), .inl (cy 1, 8, .inl g_target)), (o, .inr (12, mo q z)), ((q 40), .inl (cy 1, 8, .inl f3)), ((q 41), .inl (cy 1, 8, .inl f4)), ((q 43), .inl (cy 1, 8, .inl f6)), ((q 45), .inl (cy 1, 8, .inl f2)), ((q 44), .inl (cy 1, 8, .inl f8)), ((q 42), .inl (cy 1, 8, .inl f5)), ((q 39), .inl (cy 1, 8, .inl g_one))] H := hP
    have hD : va_D A [((q 3), .inl (cy 1, 202, .inl g_parent)), ((q 10), .inl (cy 1, 1616, .inl u0)), ((q 38), .inl (cy 1, 8, .inl g_target)), (o, .inr (12, mo q z)), ((q 40), .inl (cy 1, 8, .inl f3)), ((q 41), .inl (cy 1, 8, .inl f4)), ((q 43), .inl (cy 1, 8, .inl f6)), ((q 45), .inl (cy 1, 8, .inl f2)), ((q 44), .inl (cy 1, 8, .inl f8)), ((q 42), .inl (cy 1, 8, .inl f5)), ((q 39), .inl (cy 1, 8, .inl g_one))] := hD
    refine lv_pop hx hb d_M_worth_71 rfl ?_
    refine lv_iconst (v := 0) hx hb d_M_worth_72 (by decide) ?_
    refine lv_istore_n (lv' := [(2, .int (0 : Int32)), (0, .ref o), (1, .int x1)]) hx hb d_M_worth_73 rfl hl (by decide) rfl (fun ls hl => ?_)
    exact w_M_worth_74 F fu _ _ _ _ _ _ _ _ _ _ hf _ _ _ (hP.sub (ws' := [(o, .inr (12, mo q z)), ((q 3), .inl (cy 1, 202, .inl g_parent)), ((q 10), .inl (cy 1, 1616, .inl u0)), ((q 38), .inl (cy 1, 8, .inl g_target)), ((q 39), .inl (cy 1, 8, .inl g_one)), ((q 40), .inl (cy 1, 8, .inl f3)), ((q 41), .inl (cy 1, 8, .inl f4)), ((q 42), .inl (cy 1, 8, .inl f5)), ((q 43), .inl (cy 1, 8, .inl f6)), ((q 44), .inl (cy 1, 8, .inl f8)), ((q 45), .inl (cy 1, 8, .inl f2))]) [3, 0, 1, 2, 10, 4, 5, 9, 6, 8, 7] rfl) (hD.sub (ws' := [(o, .inr (12, mo q z)), ((q 3), .inl (cy 1, 202, .inl g_parent)), ((q 10), .inl (cy 1, 1616, .inl u0)), ((q 38), .inl (cy 1, 8, .inl g_target)), ((q 39), .inl (cy 1, 8, .inl g_one)), ((q 40), .inl (cy 1, 8, .inl f3)), ((q 41), .inl (cy 1, 8, .inl f4)), ((q 42), .inl (cy 1, 8, .inl f5)), ((q 43), .inl (cy 1, 8, .inl f6)), ((q 44), .inl (cy 1, 8, .inl f8)), ((q 45), .inl (cy 1, 8, .inl f2))]) [3, 0, 1, 2, 10, 4, 5, 9, 6, 8, 7] (by decide) rfl) hS (lv_sub hl [1, 2, 0] rfl)
  · have hf := ifn cx hf
    refine lv_aload_n hx hb d_M_worth_8 rfl (lv_at hl 0 rfl) ?_
    refine va_get (D := D) (ci := 12) (v := .ref (q 44)) (C := "CoinKeeperModel") (T := F_12) (N := 98) hx hb hts i_12 hown hK hP 0 rfl rfl 52 (by decide) (hts _ gw_1471) (fun _ h9 => h9) rfl d_M_worth_9 ?_
    refine lv_iload_n hx hb d_M_worth_12 rfl (lv_at hl 2 rfl) ?_
    refine lv_aload_n hx hb d_M_worth_13 rfl (lv_at hl 0 rfl) ?_
    refine va_get (D := D) (ci := 12) (v := .ref (q 38)) (C := "CoinKeeperModel") (T := F_12) (N := 98) hx hb hts i_12 hown hK hP 0 rfl rfl 46 (by decide) (hts _ gw_1465) (fun _ h9 => h9) rfl d_M_worth_14 ?_
    refine lv_iload_n hx hb d_M_worth_17 rfl (lv_at hl 2 rfl) ?_
    obtain ⟨hg, hf⟩ := gdp hf
    refine va_iald hx hb hK hP 3 1 rfl rfl (inb_in hg) d_M_worth_18 ?_
    refine lv_topi (fun v9 ev => ?_)
    have hf := bn ev hf
    clear ev
    refine lv_iconst (v := (-1)) hx hb d_M_worth_19 (by decide) ?_
    refine lv_ixor hx hb d_M_worth_20 ?_
    refine lv_topi (fun v10 ev => ?_)
    have hf := bn ev hf
    clear ev
    obtain ⟨hg, hf⟩ := gdp hf
    refine va_iast hx hb hK hP hD hS 9 1 rfl rfl (inb_in hg) d_M_worth_21 (fun H locs hP hD hS => ?_)
    obtain ⟨f11, ev, hf⟩ := bne hf
    have hP : va_P D classes [(o, .inr (12, mo q z)), ((q 3), .inl (cy 1, 202, .inl g_parent)), ((q 10), .inl (cy 1, 1616, .inl u0)), ((q 38), .inl (cy 1, 8, .inl g_target)), ((q 39), .inl (cy 1, 8, .inl g_one)), ((q 40), .inl (cy 1, 8, .inl u1)), ((q 41), .inl (cy 1, 8, .inl u2)), ((q 42), .inl (cy 1, 8, .inl u3)), ((q 43), .inl (cy 1, 8, .inl u4)), ((q 44), .inl (cy 1, 8, .inl f11)), ((q 45), .inl (cy 1, 8, .inl u6))] H := by rw [ev]; exact hP
    have hD : va_D A [(o, .inr (12, mo q z)), ((q 3), .inl (cy 1, 202, .inl g_parent)), ((q 10), .inl (cy 1, 1616, .inl u0)), ((q 38), .inl (cy 1, 8, .inl g_target)), ((q 39), .inl (cy 1, 8, .inl g_one)), ((q 40), .inl (cy 1, 8, .inl u1)), ((q 41), .inl (cy 1, 8, .inl u2)), ((q 42), .inl (cy 1, 8, .inl u3)), ((q 43), .inl (cy 1, 8, .inl u4)), ((q 44), .inl (cy 1, 8, .inl f11)), ((q 45), .inl (cy 1, 8, .inl u6))] := by rw [ev]; exact hD
    clear ev
    obtain ⟨v12, ev, hf⟩ := bne hf
    refine lv_iinc (v := v12) (lv' := [(2, .int v12), (0, .ref o), (1, .int x1)]) hx hb d_M_worth_22 hl (k := 2) rfl (by rw [ev]; rfl) (by decide) rfl (fun ls hl => ?_)
    clear ev
    refine lv_goto (tgt := 2) hx hb d_M_worth_25 (by decide) ?_
    exact hk_2 _ _ _ _ _ _ _ _ _ _ hf _ _ _ hP hD hS (lv_sub hl [1, 2, 0] rfl)
theorem w_M_worth_2 {p : Program} {l : Launch} {e : Env} {s : State} {m : MethodId} {args : Array Value} {below : List Frame} {meth : Method} {c : Code} {D : va_G} {cy : Nat → ClassId} {A : Nat → Prop} {ad : Nat → Nat} {o : Nat} {q : Nat → Nat} {z : Nat → Int32} {g_parent : Nat → Int32} {g_target : Nat → Int32} {g_one : Nat → Int32} {fu : Nat} (F : Fx p s m args meth c b_M_worth 3 "CoinKeeperModel" "worth" none D cy ad A) : ∀ n : Nat, I_M_worth_2 p l e s m args below meth c D cy A ad o q z g_parent g_target g_one (x_M_worth_2 fu z g_parent g_target g_one n)
  | 0 => fun _ _ _ _ _ _ _ _ _ _ hf => nomatch (show (none : Option ((Nat → Int32) × (Nat → Int32) × (Nat → Int32) × (Nat → Int32) × (Nat → Int32) × (Nat → Int32) × (Nat → Int32))) = some _ from hf)
  | n + 1 => wb_M_worth_2 F (w_M_worth_2 F n)
set_option maxHeartbeats 8000000 in
set_option maxRecDepth 100000 in
theorem we_M_worth {p : Program} {l : Launch} {e : Env} {s : State} {m : MethodId} {args : Array Value} {below : List Frame} {meth : Method} {c : Code} {D : va_G} {cy : Nat → ClassId} {A : Nat → Prop} {ad : Nat → Nat} {o : Nat} {q : Nat → Nat} {z : Nat → Int32} {g_parent : Nat → Int32} {g_target : Nat → Int32} {g_one : Nat → Int32} {fu : Nat} (F : Fx p s m args meth c b_M_worth 3 "CoinKeeperModel" "worth" none D cy ad A) : I_M_worth_e p l e s m args below meth c D cy A ad o q z g_parent g_target g_one (x_M_worth fu z g_parent g_target g_one) := by
  obtain ⟨hx, hb, hr, hml, hown, hts, hlocks, hK, hA, hSt, hnm, hex⟩ := id F
  intro a1 u0 u1 u2 u3 u4 u5 u6 res hf H locs ls hP hD hS hl
  unfold x_M_worth at hf
  refine lv_iconst (v := 0) hx hb d_M_worth_0 (by decide) ?_
  refine lv_istore_n (lv' := [(2, .int (0 : Int32)), (0, .ref o), (1, .int a1)]) hx hb d_M_worth_1 rfl hl (by decide) rfl (fun ls hl => ?_)
  exact w_M_worth_2 F fu _ _ _ _ _ _ _ _ _ _ hf _ _ _ hP hD hS (lv_sub hl [1, 2, 0] rfl)
theorem c_M_worth (l : Launch) (D : va_G) (cy : Nat → ClassId) (ad : Nat → Nat) (fu : Nat) (o : Nat) (q : Nat → Nat) (z : Nat → Int32) (g_parent : Nat → Int32) (g_target : Nat → Int32) (g_one : Nat → Int32) (a1 : Int32) (u0 : Nat → Int32) (u1 : Nat → Int32) (u2 : Nat → Int32) (u3 : Nat → Int32) (u4 : Nat → Int32) (u5 : Nat → Int32) (u6 : Nat → Int32) (res : (Nat → Int32) × (Nat → Int32) × (Nat → Int32) × (Nat → Int32) × (Nat → Int32) × (Nat → Int32) × (Nat → Int32)) (hf : x_M_worth fu z g_parent g_target g_one a1 u0 u1 u2 u3 u4 u5 u6 = some res) (sz : Nat) : Met l ({ cls := "CoinKeeperModel", name := "worth", desc := "(I)V" } : Jvm.MethodName) (.code ({ cls := "CoinKeeperModel", name := "worth", desc := "(I)V" } : Jvm.MethodName) b_M_worth 3 none :: gw) rm_M_worth (va_Pc [.ref o, .int a1] (Pr D cy ad [(o, .inr (12, mo q z)), ((q 3), .inl (cy 1, 202, .inl g_parent)), ((q 10), .inl (cy 1, 1616, .inl u0)), ((q 38), .inl (cy 1, 8, .inl g_target)), ((q 39), .inl (cy 1, 8, .inl g_one)), ((q 40), .inl (cy 1, 8, .inl u1)), ((q 41), .inl (cy 1, 8, .inl u2)), ((q 42), .inl (cy 1, 8, .inl u3)), ((q 43), .inl (cy 1, 8, .inl u4)), ((q 44), .inl (cy 1, 8, .inl u5)), ((q 45), .inl (cy 1, 8, .inl u6))] sz)) (q_M_worth D cy (va_A [(o, .inr (12, mo q z)), ((q 3), .inl (cy 1, 202, .inl g_parent)), ((q 10), .inl (cy 1, 1616, .inl u0)), ((q 38), .inl (cy 1, 8, .inl g_target)), ((q 39), .inl (cy 1, 8, .inl g_one)), ((q 40), .inl (cy 1, 8, .inl u1)), ((q 41), .inl (cy 1, 8, .inl u2)), ((q 42), .inl (cy 1, 8, .inl u3)), ((q 43), .inl (cy 1, 8, .inl u4)), ((q 44), .inl (cy 1, 8, .inl u5)), ((q 45), .inl (cy 1, 8, .inl u6))] sz) o q z g_parent g_target g_one res) 0 0 (va_A [(o, .inr (12, mo q z)), ((q 3), .inl (cy 1, 202, .inl g_parent)), ((q 10), .inl (cy 1, 1616, .inl u0)), ((q 38), .inl (cy 1, 8, .inl g_target)), ((q 39), .inl (cy 1, 8, .inl g_one)), ((q 40), .inl (cy 1, 8, .inl u1)), ((q 41), .inl (cy 1, 8, .inl u2)), ((q 42), .inl (cy 1, 8, .inl u3)), ((q 43), .inl (cy 1, 8, .inl u4)), ((q 44), .inl (cy 1, 8, .inl u5)), ((q 45), .inl (cy 1, 8, .inl u6))] sz) :=
  q_met (Qc := fun A => q_M_worth D cy A o q z g_parent g_target g_one res) (by decide) rfl rfl (Nat.le_of_ble_eq_true rfl) (fun p e s m below meth c ls F hP hD hS hl => we_M_worth (fu := fu) F a1 u0 u1 u2 u3 u4 u5 u6 res hf _ _ _ hP hD hS hl) sz
