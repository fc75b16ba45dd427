abbrev b_M_signed : ByteArray := prog_14_method_91_code
theorem d_M_signed_0 : decode b_M_signed 0 = .ok (.aload_n 0, 1) := by decide +kernel
theorem d_M_signed_1 : decode b_M_signed 1 = .ok (.getfield 656, 3) := by decide +kernel
theorem d_M_signed_4 : decode b_M_signed 4 = .ok (.bipush 32, 2) := by decide +kernel
theorem d_M_signed_6 : decode b_M_signed 6 = .ok (.isub, 1) := by decide +kernel
theorem d_M_signed_7 : decode b_M_signed 7 = .ok (.iload_n 1, 1) := by decide +kernel
theorem d_M_signed_8 : decode b_M_signed 8 = .ok (.isub, 1) := by decide +kernel
theorem d_M_signed_9 : decode b_M_signed 9 = .ok (.istore_n 2, 1) := by decide +kernel
theorem d_M_signed_10 : decode b_M_signed 10 = .ok (.aload_n 0, 1) := by decide +kernel
theorem d_M_signed_11 : decode b_M_signed 11 = .ok (.iload_n 1, 1) := by decide +kernel
theorem d_M_signed_12 : decode b_M_signed 12 = .ok (.ifCond .lt 20, 3) := by decide +kernel
theorem d_M_signed_15 : decode b_M_signed 15 = .ok (.iload_n 1, 1) := by decide +kernel
theorem d_M_signed_16 : decode b_M_signed 16 = .ok (.bipush 100, 2) := by decide +kernel
theorem d_M_signed_18 : decode b_M_signed 18 = .ok (.if_icmp .gt 14, 3) := by decide +kernel
theorem d_M_signed_21 : decode b_M_signed 21 = .ok (.iload_n 2, 1) := by decide +kernel
theorem d_M_signed_22 : decode b_M_signed 22 = .ok (.iconst 1, 1) := by decide +kernel
theorem d_M_signed_23 : decode b_M_signed 23 = .ok (.if_icmp .lt 9, 3) := by decide +kernel
theorem d_M_signed_26 : decode b_M_signed 26 = .ok (.iload_n 2, 1) := by decide +kernel
theorem d_M_signed_27 : decode b_M_signed 27 = .ok (.bipush 80, 2) := by decide +kernel
theorem d_M_signed_29 : decode b_M_signed 29 = .ok (.if_icmp .le 7, 3) := by decide +kernel
theorem d_M_signed_32 : decode b_M_signed 32 = .ok (.iconst 1, 1) := by decide +kernel
theorem d_M_signed_33 : decode b_M_signed 33 = .ok (.goto 4, 3) := by decide +kernel
theorem d_M_signed_36 : decode b_M_signed 36 = .ok (.iconst 0, 1) := by decide +kernel
theorem d_M_signed_37 : decode b_M_signed 37 = .ok (.putfield 268, 3) := by decide +kernel
theorem d_M_signed_40 : decode b_M_signed 40 = .ok (.aload_n 0, 1) := by decide +kernel
theorem d_M_signed_41 : decode b_M_signed 41 = .ok (.getfield 268, 3) := by decide +kernel
theorem d_M_signed_44 : decode b_M_signed 44 = .ok (.ifCond .le 5, 3) := by decide +kernel
theorem d_M_signed_47 : decode b_M_signed 47 = .ok (.iconst 0, 1) := by decide +kernel
theorem d_M_signed_48 : decode b_M_signed 48 = .ok (.ireturn, 1) := by decide +kernel
theorem d_M_signed_49 : decode b_M_signed 49 = .ok (.aload_n 0, 1) := by decide +kernel
theorem d_M_signed_50 : decode b_M_signed 50 = .ok (.getfield 9, 3) := by decide +kernel
theorem d_M_signed_53 : decode b_M_signed 53 = .ok (.iconst 0, 1) := by decide +kernel
theorem d_M_signed_54 : decode b_M_signed 54 = .ok (.aload_n 0, 1) := by decide +kernel
theorem d_M_signed_55 : decode b_M_signed 55 = .ok (.getfield 123, 3) := by decide +kernel
theorem d_M_signed_58 : decode b_M_signed 58 = .ok (.iconst 0, 1) := by decide +kernel
theorem d_M_signed_59 : decode b_M_signed 59 = .ok (.bipush 32, 2) := by decide +kernel
theorem d_M_signed_61 : decode b_M_signed 61 = .ok (.invokestatic 271, 3) := by decide +kernel
theorem d_M_signed_64 : decode b_M_signed 64 = .ok (.aload_n 0, 1) := by decide +kernel
theorem d_M_signed_65 : decode b_M_signed 65 = .ok (.aload_n 0, 1) := by decide +kernel
theorem d_M_signed_66 : decode b_M_signed 66 = .ok (.getfield 9, 3) := by decide +kernel
theorem d_M_signed_69 : decode b_M_signed 69 = .ok (.bipush 32, 2) := by decide +kernel
theorem d_M_signed_71 : decode b_M_signed 71 = .ok (.iload_n 1, 1) := by decide +kernel
theorem d_M_signed_72 : decode b_M_signed 72 = .ok (.aload_n 0, 1) := by decide +kernel
theorem d_M_signed_73 : decode b_M_signed 73 = .ok (.getfield 9, 3) := by decide +kernel
theorem d_M_signed_76 : decode b_M_signed 76 = .ok (.bipush 32, 2) := by decide +kernel
theorem d_M_signed_78 : decode b_M_signed 78 = .ok (.iload_n 1, 1) := by decide +kernel
theorem d_M_signed_79 : decode b_M_signed 79 = .ok (.iadd, 1) := by decide +kernel
theorem d_M_signed_80 : decode b_M_signed 80 = .ok (.iload_n 2, 1) := by decide +kernel
theorem d_M_signed_81 : decode b_M_signed 81 = .ok (.invokevirtual 522, 3) := by decide +kernel
theorem d_M_signed_84 : decode b_M_signed 84 = .ok (.ireturn, 1) := by decide +kernel
abbrev rm_M_signed : Room := { frames := 7, cells := 0, slots := 0, locals := 168 }
abbrev q_M_signed (D : va_G) (cy : Nat → ClassId) (A : Nat → Prop) (o : Nat) (q : Nat → Nat) (g_row : Nat → Int32) (g_one : Nat → Int32) (res : Int32 × (Nat → Int32) × (Nat → Int32) × (Nat → Int32) × (Nat → Int32) × (Nat → Int32) × (Nat → Int32) × (Nat → Int32) × (Nat → Int32) × (Nat → Int32) × (Nat → Int32) × (Nat → Int32) × (Nat → Int32) × (Nat → Int32) × (Nat → Int32) × (Nat → Int32) × (Nat → Int32) × (Nat → Int32) × (Nat → Int32) × (Nat → Int32) × (Nat → Int32) × (Nat → Int32) × (Nat → Int32) × (Nat → Int32)) : Array Value → State → Outcome → State → Prop := va_Qi (fun r' (_ : Unit) => r' = res.1) (fun _ t => Po D cy A [(o, .inr (12, mo q res.2.1)), ((q 0), .inl (cy 0, 3000, .inl g_row)), ((q 36), .inl (cy 0, 32, .inl res.2.2.1)), ((q 39), .inl (cy 1, 8, .inl g_one)), ((q 41), .inl (cy 1, 8, .inl res.2.2.2.1)), ((q 48), .inl (cy 1, 8, .inl res.2.2.2.2.1)), ((q 49), .inl (cy 1, 8, .inl res.2.2.2.2.2.1)), ((q 50), .inl (cy 1, 16, .inl res.2.2.2.2.2.2.1)), ((q 51), .inl (cy 1, 8, .inl res.2.2.2.2.2.2.2.1)), ((q 52), .inl (cy 1, 8, .inl res.2.2.2.2.2.2.2.2.1)), ((q 53), .inl (cy 1, 8, .inl res.2.2.2.2.2.2.2.2.2.1)), ((q 54), .inl (cy 1, 8, .inl res.2.2.2.2.2.2.2.2.2.2.1)), ((q 55), .inl (cy 1, 8, .inl res.2.2.2.2.2.2.2.2.2.2.2.1)), ((q 56), .inl (cy 1, 8, .inl res.2.2.2.2.2.2.2.2.2.2.2.2.1)), ((q 57), .inl (cy 1, 8, .inl res.2.2.2.2.2.2.2.2.2.2.2.2.2.1)), ((q 58), .inl (cy 1, 8, .inl res.2.2.2.2.2.2.2.2.2.2.2.2.2.2.1)), ((q 59), .inl (cy 1, 8, .inl res.2.2.2.2.2.2.2.2.2.2.2.2.2.2.2.1)), ((q 60), .inl (cy 1, 8, .inl res.2.2.2.2.2.2.2.2.2.2.2.2.2.2.2.2.1)), ((q 61), .inl (cy 1, 8, .inl res.2.2.2.2.2.2.2.2.2.2.2.2.2.2.2.2.2.1)), ((q 62), .inl (cy 1, 8, .inl res.2.2.2.2.2.2.2.2.2.2.2.2.2.2.2.2.2.2.1)), ((q 63), .inl (cy 1, 8, .inl res.2.2.2.2.2.2.2.2.2.2.2.2.2.2.2.2.2.2.2.1)), ((q 64), .inl (cy 1, 8, .inl res.2.2.2.2.2.2.2.2.2.2.2.2.2.2.2.2.2.2.2.2.1)), ((q 65), .inl (cy 1, 8, .inl res.2.2.2.2.2.2.2.2.2.2.2.2.2.2.2.2.2.2.2.2.2.1)), ((q 66), .inl (cy 1, 8, .inl res.2.2.2.2.2.2.2.2.2.2.2.2.2.2.2.2.2.2.2.2.2.2.1)), ((q 67), .inl (cy 1, 8, .inl res.2.2.2.2.2.2.2.2.2.2.2.2.2.2.2.2.2.2.2.2.2.2.2))] t) A
def I_M_signed_37 (p : Program) (l : Launch) (e : Env) (s : State) (m : MethodId) (args : Array Value) (below : List Frame) (meth : Method) (c : Code) (D : va_G) (cy : Nat → ClassId) (A : Nat → Prop) (ad : Nat → Nat) (o : Nat) (q : Nat → Nat) (g_row : Nat → Int32) (g_one : Nat → Int32) (k : Int32 → Int32 → Int32 → (Nat → Int32) → (Nat → Int32) → (Nat → Int32) → (Nat → Int32) → (Nat → Int32) → (Nat → Int32) → (Nat → Int32) → (Nat → Int32) → (Nat → Int32) → (Nat → Int32) → (Nat → Int32) → (Nat → Int32) → (Nat → Int32) → (Nat → Int32) → (Nat → Int32) → (Nat → Int32) → (Nat → Int32) → (Nat → Int32) → (Nat → Int32) → (Nat → Int32) → (Nat → Int32) → (Nat → Int32) → (Nat → Int32) → Option (Int32 × (Nat → Int32) × (Nat → Int32) × (Nat → Int32) × (Nat → Int32) × (Nat → Int32) × (Nat → Int32) × (Nat → Int32) × (Nat → Int32) × (Nat → Int32) × (Nat → Int32) × (Nat → Int32) × (Nat → Int32) × (Nat → Int32) × (Nat → Int32) × (Nat → Int32) × (Nat → Int32) × (Nat → Int32) × (Nat → Int32) × (Nat → Int32) × (Nat → Int32) × (Nat → Int32) × (Nat → Int32) × (Nat → Int32))) : Prop :=
  ∀ (x1 : Int32) (x2 : Int32) (y0 : Int32) (u0 : Nat → Int32) (u1 : Nat → Int32) (u2 : Nat → Int32) (u3 : Nat → Int32) (u4 : Nat → Int32) (u5 : Nat → Int32) (u6 : Nat → Int32) (u7 : Nat → Int32) (u8 : Nat → Int32) (u9 : Nat → Int32) (u10 : Nat → Int32) (u11 : Nat → Int32) (u12 : Nat → Int32) (u13 : Nat → Int32) (u14 : Nat → Int32) (u15 : Nat → Int32) (u16 : Nat → Int32) (u17 : Nat → Int32) (u18 : Nat → Int32) (u19 : Nat → Int32) (u20 : Nat → Int32) (u21 : Nat → Int32) (u22 : Nat → Int32) (res : Int32 × (Nat → Int32) × (Nat → Int32) × (Nat → Int32) × (Nat → Int32) × (Nat → Int32) × (Nat → Int32) × (Nat → Int32) × (Nat → Int32) × (Nat → Int32) × (Nat → Int32) × (Nat → Int32) × (Nat → Int32) × (Nat → Int32) × (Nat → Int32) × (Nat → Int32) × (Nat → Int32) × (Nat → Int32) × (Nat → Int32) × (Nat → Int32) × (Nat → Int32) × (Nat → Int32) × (Nat → Int32) × (Nat → Int32)), k x1 x2 y0 u0 u1 u2 u3 u4 u5 u6 u7 u8 u9 u10 u11 u12 u13 u14 u15 u16 u17 u18 u19 u20 u21 u22 = some res → ∀ (H : Heap) (locs : List Loc) (ls : Array Slot), va_P D classes [(o, .inr (12, mo q u0)), ((q 0), .inl (cy 0, 3000, .inl g_row)), ((q 36), .inl (cy 0, 32, .inl u1)), ((q 39), .inl (cy 1, 8, .inl g_one)), ((q 41), .inl (cy 1, 8, .inl u2)), ((q 48), .inl (cy 1, 8, .inl u3)), ((q 49), .inl (cy 1, 8, .inl u4)), ((q 50), .inl (cy 1, 16, .inl u5)), ((q 51), .inl (cy 1, 8, .inl u6)), ((q 52), .inl (cy 1, 8, .inl u7)), ((q 53), .inl (cy 1, 8, .inl u8)), ((q 54), .inl (cy 1, 8, .inl u9)), ((q 55), .inl (cy 1, 8, .inl u10)), ((q 56), .inl (cy 1, 8, .inl u11)), ((q 57), .inl (cy 1, 8, .inl u12)), ((q 58), .inl (cy 1, 8, .inl u13)), ((q 59), .inl (cy 1, 8, .inl u14)), ((q 60), .inl (cy 1, 8, .inl u15)), ((q 61), .inl (cy 1, 8, .inl u16)), ((q 62), .inl (cy 1, 8, .inl u17)), ((q 63), .inl (cy 1, 8, .inl u18)), ((q 64), .inl (cy 1, 8, .inl u19)), ((q 65), .inl (cy 1, 8, .inl u20)), ((q 66), .inl (cy 1, 8, .inl u21)), ((q 67), .inl (cy 1, 8, .inl u22))] H → va_D A [(o, .inr (12, mo q u0)), ((q 0), .inl (cy 0, 3000, .inl g_row)), ((q 36), .inl (cy 0, 32, .inl u1)), ((q 39), .inl (cy 1, 8, .inl g_one)), ((q 41), .inl (cy 1, 8, .inl u2)), ((q 48), .inl (cy 1, 8, .inl u3)), ((q 49), .inl (cy 1, 8, .inl u4)), ((q 50), .inl (cy 1, 16, .inl u5)), ((q 51), .inl (cy 1, 8, .inl u6)), ((q 52), .inl (cy 1, 8, .inl u7)), ((q 53), .inl (cy 1, 8, .inl u8)), ((q 54), .inl (cy 1, 8, .inl u9)), ((q 55), .inl (cy 1, 8, .inl u10)), ((q 56), .inl (cy 1, 8, .inl u11)), ((q 57), .inl (cy 1, 8, .inl u12)), ((q 58), .inl (cy 1, 8, .inl u13)), ((q 59), .inl (cy 1, 8, .inl u14)), ((q 60), .inl (cy 1, 8, .inl u15)), ((q 61), .inl (cy 1, 8, .inl u16)), ((q 62), .inl (cy 1, 8, .inl u17)), ((q 63), .inl (cy 1, 8, .inl u18)), ((q 64), .inl (cy 1, 8, .inl u19)), ((q 65), .inl (cy 1, 8, .inl u20)), ((q 66), .inl (cy 1, 8, .inl u21)), ((q 67), .inl (cy 1, 8, .inl u22))] → va_S A s.heap H locs → lv_has ls 3 [(0, .ref o), (1, .int x1), (2, .int x2)] → W p l e rm_M_signed s m args below meth c H locs 0 0 (MQ below (q_M_signed D cy A o q g_row g_one res) args s 0 0 A) (F0 m 37 ls [.int y0, .ref o])
def I_M_signed_32 (p : Program) (l : Launch) (e : Env) (s : State) (m : MethodId) (args : Array Value) (below : List Frame) (meth : Method) (c : Code) (D : va_G) (cy : Nat → ClassId) (A : Nat → Prop) (ad : Nat → Nat) (o : Nat) (q : Nat → Nat) (g_row : Nat → Int32) (g_one : Nat → Int32) (k : Int32 → Int32 → (Nat → Int32) → (Nat → Int32) → (Nat → Int32) → (Nat → Int32) → (Nat → Int32) → (Nat → Int32) → (Nat → Int32) → (Nat → Int32) → (Nat → Int32) → (Nat → Int32) → (Nat → Int32) → (Nat → Int32) → (Nat → Int32) → (Nat → Int32) → (Nat → Int32) → (Nat → Int32) → (Nat → Int32) → (Nat → Int32) → (Nat → Int32) → (Nat → Int32) → (Nat → Int32) → (Nat → Int32) → (Nat → Int32) → Option (Int32 × (Nat → Int32) × (Nat → Int32) × (Nat → Int32) × (Nat → Int32) × (Nat → Int32) × (Nat → Int32) × (Nat → Int32) × (Nat → Int32) × (Nat → Int32) × (Nat → Int32) × (Nat → Int32) × (Nat → Int32) × (Nat → Int32) × (Nat → Int32) × (Nat → Int32) × (Nat → Int32) × (Nat → Int32) × (Nat → Int32) × (Nat → Int32) × (Nat → Int32) × (Nat → Int32) × (Nat → Int32) × (Nat → Int32))) : Prop :=
  ∀ (x1 : Int32) (x2 : Int32) (u0 : Nat → Int32) (u1 : Nat → Int32) (u2 : Nat → Int32) (u3 : Nat → Int32) (u4 : Nat → Int32) (u5 : Nat → Int32) (u6 : Nat → Int32) (u7 : Nat → Int32) (u8 : Nat → Int32) (u9 : Nat → Int32) (u10 : Nat → Int32) (u11 : Nat → Int32) (u12 : Nat → Int32) (u13 : Nat → Int32) (u14 : Nat → Int32) (u15 : Nat → Int32) (u16 : Nat → Int32) (u17 : Nat → Int32) (u18 : Nat → Int32) (u19 : Nat → Int32) (u20 : Nat → Int32) (u21 : Nat → Int32) (u22 : Nat → Int32) (res : Int32 × (Nat → Int32) × (Nat → Int32) × (Nat → Int32) × (Nat → Int32) × (Nat → Int32) × (Nat → Int32) × (Nat → Int32) × (Nat → Int32) × (Nat → Int32) × (Nat → Int32) × (Nat → Int32) × (Nat → Int32) × (Nat → Int32) × (Nat → Int32) × (Nat → Int32) × (Nat → Int32) × (Nat → Int32) × (Nat → Int32) × (Nat → Int32) × (Nat → Int32) × (Nat → Int32) × (Nat → Int32) × (Nat → Int32)), k x1 x2 u0 u1 u2 u3 u4 u5 u6 u7 u8 u9 u10 u11 u12 u13 u14 u15 u16 u17 u18 u19 u20 u21 u22 = some res → ∀ (H : Heap) (locs : List Loc) (ls : Array Slot), va_P D classes [(o, .inr (12, mo q u0)), ((q 0), .inl (cy 0, 3000, .inl g_row)), ((q 36), .inl (cy 0, 32, .inl u1)), ((q 39), .inl (cy 1, 8, .inl g_one)), ((q 41), .inl (cy 1, 8, .inl u2)), ((q 48), .inl (cy 1, 8, .inl u3)), ((q 49), .inl (cy 1, 8, .inl u4)), ((q 50), .inl (cy 1, 16, .inl u5)), ((q 51), .inl (cy 1, 8, .inl u6)), ((q 52), .inl (cy 1, 8, .inl u7)), ((q 53), .inl (cy 1, 8, .inl u8)), ((q 54), .inl (cy 1, 8, .inl u9)), ((q 55), .inl (cy 1, 8, .inl u10)), ((q 56), .inl (cy 1, 8, .inl u11)), ((q 57), .inl (cy 1, 8, .inl u12)), ((q 58), .inl (cy 1, 8, .inl u13)), ((q 59), .inl (cy 1, 8, .inl u14)), ((q 60), .inl (cy 1, 8, .inl u15)), ((q 61), .inl (cy 1, 8, .inl u16)), ((q 62), .inl (cy 1, 8, .inl u17)), ((q 63), .inl (cy 1, 8, .inl u18)), ((q 64), .inl (cy 1, 8, .inl u19)), ((q 65), .inl (cy 1, 8, .inl u20)), ((q 66), .inl (cy 1, 8, .inl u21)), ((q 67), .inl (cy 1, 8, .inl u22))] H → va_D A [(o, .inr (12, mo q u0)), ((q 0), .inl (cy 0, 3000, .inl g_row)), ((q 36), .inl (cy 0, 32, .inl u1)), ((q 39), .inl (cy 1, 8, .inl g_one)), ((q 41), .inl (cy 1, 8, .inl u2)), ((q 48), .inl (cy 1, 8, .inl u3)), ((q 49), .inl (cy 1, 8, .inl u4)), ((q 50), .inl (cy 1, 16, .inl u5)), ((q 51), .inl (cy 1, 8, .inl u6)), ((q 52), .inl (cy 1, 8, .inl u7)), ((q 53), .inl (cy 1, 8, .inl u8)), ((q 54), .inl (cy 1, 8, .inl u9)), ((q 55), .inl (cy 1, 8, .inl u10)), ((q 56), .inl (cy 1, 8, .inl u11)), ((q 57), .inl (cy 1, 8, .inl u12)), ((q 58), .inl (cy 1, 8, .inl u13)), ((q 59), .inl (cy 1, 8, .inl u14)), ((q 60), .inl (cy 1, 8, .inl u15)), ((q 61), .inl (cy 1, 8, .inl u16)), ((q 62), .inl (cy 1, 8, .inl u17)), ((q 63), .inl (cy 1, 8, .inl u18)), ((q 64), .inl (cy 1, 8, .inl u19)), ((q 65), .inl (cy 1, 8, .inl u20)), ((q 66), .inl (cy 1, 8, .inl u21)), ((q 67), .inl (cy 1, 8, .inl u22))] → va_S A s.heap H locs → lv_has ls 3 [(0, .ref o), (1, .int x1), (2, .int x2)] → W p l e rm_M_signed s m args below meth c H locs 0 0 (MQ below (q_M_signed D cy A o q g_row g_one res) args s 0 0 A) (F0 m 32 ls [.ref o])
def I_M_signed_e (p : Program) (l : Launch) (e : Env) (s : State) (m : MethodId) (args : Array Value) (below : List Frame) (meth : Method) (c : Code) (D : va_G) (cy : Nat → ClassId) (A : Nat → Prop) (ad : Nat → Nat) (o : Nat) (q : Nat → Nat) (g_row : Nat → Int32) (g_one : Nat → Int32) (k : Int32 → (Nat → Int32) → (Nat → Int32) → (Nat → Int32) → (Nat → Int32) → (Nat → Int32) → (Nat → Int32) → (Nat → Int32) → (Nat → Int32) → (Nat → Int32) → (Nat → Int32) → (Nat → Int32) → (Nat → Int32) → (Nat → Int32) → (Nat → Int32) → (Nat → Int32) → (Nat → Int32) → (Nat → Int32) → (Nat → Int32) → (Nat → Int32) → (Nat → Int32) → (Nat → Int32) → (Nat → Int32) → (Nat → Int32) → Option (Int32 × (Nat → Int32) × (Nat → Int32) × (Nat → Int32) × (Nat → Int32) × (Nat → Int32) × (Nat → Int32) × (Nat → Int32) × (Nat → Int32) × (Nat → Int32) × (Nat → Int32) × (Nat → Int32) × (Nat → Int32) × (Nat → Int32) × (Nat → Int32) × (Nat → Int32) × (Nat → Int32) × (Nat → Int32) × (Nat → Int32) × (Nat → Int32) × (Nat → Int32) × (Nat → Int32) × (Nat → Int32) × (Nat → Int32))) : Prop :=
  ∀ (a1 : Int32) (u0 : Nat → Int32) (u1 : Nat → Int32) (u2 : Nat → Int32) (u3 : Nat → Int32) (u4 : Nat → Int32) (u5 : Nat → Int32) (u6 : Nat → Int32) (u7 : Nat → Int32) (u8 : Nat → Int32) (u9 : Nat → Int32) (u10 : Nat → Int32) (u11 : Nat → Int32) (u12 : Nat → Int32) (u13 : Nat → Int32) (u14 : Nat → Int32) (u15 : Nat → Int32) (u16 : Nat → Int32) (u17 : Nat → Int32) (u18 : Nat → Int32) (u19 : Nat → Int32) (u20 : Nat → Int32) (u21 : Nat → Int32) (u22 : Nat → Int32) (res : Int32 × (Nat → Int32) × (Nat → Int32) × (Nat → Int32) × (Nat → Int32) × (Nat → Int32) × (Nat → Int32) × (Nat → Int32) × (Nat → Int32) × (Nat → Int32) × (Nat → Int32) × (Nat → Int32) × (Nat → Int32) × (Nat → Int32) × (Nat → Int32) × (Nat → Int32) × (Nat → Int32) × (Nat → Int32) × (Nat → Int32) × (Nat → Int32) × (Nat → Int32) × (Nat → Int32) × (Nat → Int32) × (Nat → Int32)), k a1 u0 u1 u2 u3 u4 u5 u6 u7 u8 u9 u10 u11 u12 u13 u14 u15 u16 u17 u18 u19 u20 u21 u22 = some res → ∀ (H : Heap) (locs : List Loc) (ls : Array Slot), va_P D classes [(o, .inr (12, mo q u0)), ((q 0), .inl (cy 0, 3000, .inl g_row)), ((q 36), .inl (cy 0, 32, .inl u1)), ((q 39), .inl (cy 1, 8, .inl g_one)), ((q 41), .inl (cy 1, 8, .inl u2)), ((q 48), .inl (cy 1, 8, .inl u3)), ((q 49), .inl (cy 1, 8, .inl u4)), ((q 50), .inl (cy 1, 16, .inl u5)), ((q 51), .inl (cy 1, 8, .inl u6)), ((q 52), .inl (cy 1, 8, .inl u7)), ((q 53), .inl (cy 1, 8, .inl u8)), ((q 54), .inl (cy 1, 8, .inl u9)), ((q 55), .inl (cy 1, 8, .inl u10)), ((q 56), .inl (cy 1, 8, .inl u11)), ((q 57), .inl (cy 1, 8, .inl u12)), ((q 58), .inl (cy 1, 8, .inl u13)), ((q 59), .inl (cy 1, 8, .inl u14)), ((q 60), .inl (cy 1, 8, .inl u15)), ((q 61), .inl (cy 1, 8, .inl u16)), ((q 62), .inl (cy 1, 8, .inl u17)), ((q 63), .inl (cy 1, 8, .inl u18)), ((q 64), .inl (cy 1, 8, .inl u19)), ((q 65), .inl (cy 1, 8, .inl u20)), ((q 66), .inl (cy 1, 8, .inl u21)), ((q 67), .inl (cy 1, 8, .inl u22))] H → va_D A [(o, .inr (12, mo q u0)), ((q 0), .inl (cy 0, 3000, .inl g_row)), ((q 36), .inl (cy 0, 32, .inl u1)), ((q 39), .inl (cy 1, 8, .inl g_one)), ((q 41), .inl (cy 1, 8, .inl u2)), ((q 48), .inl (cy 1, 8, .inl u3)), ((q 49), .inl (cy 1, 8, .inl u4)), ((q 50), .inl (cy 1, 16, .inl u5)), ((q 51), .inl (cy 1, 8, .inl u6)), ((q 52), .inl (cy 1, 8, .inl u7)), ((q 53), .inl (cy 1, 8, .inl u8)), ((q 54), .inl (cy 1, 8, .inl u9)), ((q 55), .inl (cy 1, 8, .inl u10)), ((q 56), .inl (cy 1, 8, .inl u11)), ((q 57), .inl (cy 1, 8, .inl u12)), ((q 58), .inl (cy 1, 8, .inl u13)), ((q 59), .inl (cy 1, 8, .inl u14)), ((q 60), .inl (cy 1, 8, .inl u15)), ((q 61), .inl (cy 1, 8, .inl u16)), ((q 62), .inl (cy 1, 8, .inl u17)), ((q 63), .inl (cy 1, 8, .inl u18)), ((q 64), .inl (cy 1, 8, .inl u19)), ((q 65), .inl (cy 1, 8, .inl u20)), ((q 66), .inl (cy 1, 8, .inl u21)), ((q 67), .inl (cy 1, 8, .inl u22))] → va_S A s.heap H locs → lv_has ls 3 [(0, .ref o), (1, .int a1)] → W p l e rm_M_signed s m args below meth c H locs 0 0 (MQ below (q_M_signed D cy A o q g_row g_one res) args s 0 0 A) (F0 m 0 ls [])
theorem hdm_36 : ({ cls := "CoinKeeperModel", name := "isSigned", desc := "([BII[BII)Z" } : Jvm.MethodName).cls ≠ "java/lang/invoke/MethodHandle" ∧ ({ cls := "CoinKeeperModel", name := "isSigned", desc := "([BII[BII)Z" } : Jvm.MethodName).cls ≠ "java/lang/invoke/VarHandle" ∧ (parseMethodDescriptor ({ cls := "CoinKeeperModel", name := "isSigned", desc := "([BII[BII)Z" } : Jvm.MethodName).desc).map (fun d => d.parameters.length) = some 6 := by decide +kernel
set_option maxHeartbeats 8000000 in
set_option maxRecDepth 100000 in
theorem wb_M_signed_37 {p : Program} {l : Launch} {e : Env} {s : State} {m : MethodId} {args : Array Value} {below : List Frame} {meth : Method} {c : Code} {D : va_G} {cy : Nat → ClassId} {A : Nat → Prop} {ad : Nat → Nat} {o : Nat} {q : Nat → Nat} {g_row : Nat → Int32} {g_one : Nat → Int32} {fu : Nat} (F : Fx p s m args meth c b_M_signed 3 "CoinKeeperModel" "signed" (some .boolean) D cy ad A) : I_M_signed_37 p l e s m args below meth c D cy A ad o q g_row g_one (xb_M_signed_37 fu g_row g_one) := by
  obtain ⟨hx, hb, hr, hml, hown, hts, hlocks, hK, hA, hSt, hnm, hex⟩ := id F
  intro x1 x2 y0 u0 u1 u2 u3 u4 u5 u6 u7 u8 u9 u10 u11 u12 u13 u14 u15 u16 u17 u18 u19 u20 u21 u22 res hf H locs ls hP hD hS hl
  unfold xb_M_signed_37 at hf
  refine va_put (D := D) (ci := 12) (v := .int y0) (ty := .int) (C := "CoinKeeperModel") (T := F_12) (N := 98) hx hb hts i_12 t_12 t_12_ok n_12 hown hK hP hD hS 0 rfl rfl 4 (by decide) (hts _ gw_1423) (fun _ h9 => h9) rfl (by decide +kernel) rfl rfl (Nat.le_of_ble_eq_true rfl) d_M_signed_37 (fun H locs hP hD hS => ?_)
  obtain ⟨z1, ev, hf⟩ := bne hf
  have hP : va_P D classes [(o, .inr (12, mo q z1)), ((q 0), .inl (cy 0, 3000, .inl g_row)), ((q 36), .inl (cy 0, 32, .inl u1)), ((q 39), .inl (cy 1, 8, .inl g_one)), ((q 41), .inl (cy 1, 8, .inl u2)), ((q 48), .inl (cy 1, 8, .inl u3)), ((q 49), .inl (cy 1, 8, .inl u4)), ((q 50), .inl (cy 1, 16, .inl u5)), ((q 51), .inl (cy 1, 8, .inl u6)), ((q 52), .inl (cy 1, 8, .inl u7)), ((q 53), .inl (cy 1, 8, .inl u8)), ((q 54), .inl (cy 1, 8, .inl u9)), ((q 55), .inl (cy 1, 8, .inl u10)), ((q 56), .inl (cy 1, 8, .inl u11)), ((q 57), .inl (cy 1, 8, .inl u12)), ((q 58), .inl (cy 1, 8, .inl u13)), ((q 59), .inl (cy 1, 8, .inl u14)), ((q 60), .inl (cy 1, 8, .inl u15)), ((q 61), .inl (cy 1, 8, .inl u16)), ((q 62), .inl (cy 1, 8, .inl u17)), ((q 63), .inl (cy 1, 8, .inl u18)), ((q 64), .inl (cy 1, 8, .inl u19)), ((q 65), .inl (cy 1, 8, .inl u20)), ((q 66), .inl (cy 1, 8, .inl u21)), ((q 67), .inl (cy 1, 8, .inl u22))] H := by rw [ev]; exact hP
  have hD : va_D A [(o, .inr (12, mo q z1)), ((q 0), .inl (cy 0, 3000, .inl g_row)), ((q 36), .inl (cy 0, 32, .inl u1)), ((q 39), .inl (cy 1, 8, .inl g_one)), ((q 41), .inl (cy 1, 8, .inl u2)), ((q 48), .inl (cy 1, 8, .inl u3)), ((q 49), .inl (cy 1, 8, .inl u4)), ((q 50), .inl (cy 1, 16, .inl u5)), ((q 51), .inl (cy 1, 8, .inl u6)), ((q 52), .inl (cy 1, 8, .inl u7)), ((q 53), .inl (cy 1, 8, .inl u8)), ((q 54), .inl (cy 1, 8, .inl u9)), ((q 55), .inl (cy 1, 8, .inl u10)), ((q 56), .inl (cy 1, 8, .inl u11)), ((q 57), .inl (cy 1, 8, .inl u12)), ((q 58), .inl (cy 1, 8, .inl u13)), ((q 59), .inl (cy 1, 8, .inl u14)), ((q 60), .inl (cy 1, 8, .inl u15)), ((q 61), .inl (cy 1, 8, .inl u16)), ((q 62), .inl (cy 1, 8, .inl u17)), ((q 63), .inl (cy 1, 8, .inl u18)), ((q 64), .inl (cy 1, 8, .inl u19)), ((q 65), .inl (cy 1, 8, .inl u20)), ((q 66), .inl (cy 1, 8, .inl u21)), ((q 67), .inl (cy 1, 8, .inl u22))] := by rw [ev]; exact hD
  clear ev
  refine lv_aload_n hx hb d_M_signed_40 rfl (lv_at hl 0 rfl) ?_
  refine va_get (D := D) (ci := 12) (v := .int (z1 2)) (C := "CoinKeeperModel") (T := F_12) (N := 98) hx hb hts i_12 hown hK hP 0 rfl rfl 4 (by decide) (hts _ gw_1423) (fun _ h9 => h9) rfl d_M_signed_41 ?_
  refine lv_if_le (tgt := 49) hx hb d_M_signed_44 (by decide) (fun cx => ?_) (fun cx => ?_)
  · have hf := ifp cx hf
    refine lv_aload_n hx hb d_M_signed_49 rfl (lv_at hl 0 rfl) ?_
    refine va_get (D := D) (ci := 12) (v := .ref (q 0)) (C := "CoinKeeperModel") (T := F_12) (N := 98) hx hb hts i_12 hown hK hP 0 rfl rfl 0 (by decide) (hts _ gw_1419) (fun _ h9 => h9) rfl d_M_signed_50 ?_
    refine lv_iconst (v := 0) hx hb d_M_signed_53 (by decide) ?_
    refine lv_aload_n hx hb d_M_signed_54 rfl (lv_at hl 0 rfl) ?_
    refine va_get (D := D) (ci := 12) (v := .ref (q 36)) (C := "CoinKeeperModel") (T := F_12) (N := 98) hx hb hts i_12 hown hK hP 0 rfl rfl 44 (by decide) (hts _ gw_1463) (fun _ h9 => h9) rfl d_M_signed_55 ?_
    refine lv_iconst (v := 0) hx hb d_M_signed_58 (by decide) ?_
    refine lv_bipush (v := 32) hx hb d_M_signed_59 (by decide) ?_
    obtain ⟨hg, hf⟩ := gdp hf
    obtain ⟨hg2, hf⟩ := gdp hf
    refine va_copyi (rest := []) hx hb (hml.trans hl.1.symm) hown (hts _ gw_1398) (hts _ gw_497) (hts _ gw_496) (hts _ gw_17) hK hP hD hS 1 2 0 0 rfl rfl rfl rfl rfl (cpk_p hg).1 (cpk_p hg).2.1 (cpk_p hg).2.2.1 (cpk_p hg).2.2.2.1 (cpk_p hg).2.2.2.2 (bfit_p hg2) (by decide) (by decide) d_M_signed_61 (fun H locs hP hD hS => ?_)
    obtain ⟨f2, ev, hf⟩ := bne hf
    have hP : va_P D classes [(o, .inr (12, mo q z1)), ((q 0), .inl (cy 0, 3000, .inl g_row)), ((q 36), .inl (cy 0, 32, .inl f2)), ((q 39), .inl (cy 1, 8, .inl g_one)), ((q 41), .inl (cy 1, 8, .inl u2)), ((q 48), .inl (cy 1, 8, .inl u3)), ((q 49), .inl (cy 1, 8, .inl u4)), ((q 50), .inl (cy 1, 16, .inl u5)), ((q 51), .inl (cy 1, 8, .inl u6)), ((q 52), .inl (cy 1, 8, .inl u7)), ((q 53), .inl (cy 1, 8, .inl u8)), ((q 54), .inl (cy 1, 8, .inl u9)), ((q 55), .inl (cy 1, 8, .inl u10)), ((q 56), .inl (cy 1, 8, .inl u11)), ((q 57), .inl (cy 1, 8, .inl u12)), ((q 58), .inl (cy 1, 8, .inl u13)), ((q 59), .inl (cy 1, 8, .inl u14)), ((q 60), .inl (cy 1, 8, .inl u15)), ((q 61), .inl (cy 1, 8, .inl u16)), ((q 62), .inl (cy 1, 8, .inl u17)), ((q 63), .inl (cy 1, 8, .inl u18)), ((q 64), .inl (cy 1, 8, .inl u19)), ((q 65), .inl (cy 1, 8, .inl u20)), ((q 66), .inl (cy 1, 8, .inl u21)), ((q 67), .inl (cy 1, 8, .inl u22))] H := by rw [ev]; exact hP
    have hD : va_D A [(o, .inr (12, mo q z1)), ((q 0), .inl (cy 0, 3000, .inl g_row)), ((q 36), .inl (cy 0, 32, .inl f2)), ((q 39), .inl (cy 1, 8, .inl g_one)), ((q 41), .inl (cy 1, 8, .inl u2)), ((q 48), .inl (cy 1, 8, .inl u3)), ((q 49), .inl (cy 1, 8, .inl u4)), ((q 50), .inl (cy 1, 16, .inl u5)), ((q 51), .inl (cy 1, 8, .inl u6)), ((q 52), .inl (cy 1, 8, .inl u7)), ((q 53), .inl (cy 1, 8, .inl u8)), ((q 54), .inl (cy 1, 8, .inl u9)), ((q 55), .inl (cy 1, 8, .inl u10)), ((q 56), .inl (cy 1, 8, .inl u11)), ((q 57), .inl (cy 1, 8, .inl u12)), ((q 58), .inl (cy 1, 8, .inl u13)), ((q 59), .inl (cy 1, 8, .inl u14)), ((q 60), .inl (cy 1, 8, .inl u15)), ((q 61), .inl (cy 1, 8, .inl u16)), ((q 62), .inl (cy 1, 8, .inl u17)), ((q 63), .inl (cy 1, 8, .inl u18)), ((q 64), .inl (cy 1, 8, .inl u19)), ((q 65), .inl (cy 1, 8, .inl u20)), ((q 66), .inl (cy 1, 8, .inl u21)), ((q 67), .inl (cy 1, 8, .inl u22))] := by rw [ev]; exact hD
    clear ev
    refine lv_aload_n hx hb d_M_signed_64 rfl (lv_at hl 0 rfl) ?_
    refine lv_aload_n hx hb d_M_signed_65 rfl (lv_at hl 0 rfl) ?_
    refine va_get (D := D) (ci := 12) (v := .ref (q 0)) (C := "CoinKeeperModel") (T := F_12) (N := 98) hx hb hts i_12 hown hK hP 0 rfl rfl 0 (by decide) (hts _ gw_1419) (fun _ h9 => h9) rfl d_M_signed_66 ?_
    refine lv_bipush (v := 32) hx hb d_M_signed_69 (by decide) ?_
    refine lv_iload_n hx hb d_M_signed_71 rfl (lv_at hl 1 rfl) ?_
    refine lv_aload_n hx hb d_M_signed_72 rfl (lv_at hl 0 rfl) ?_
    refine va_get (D := D) (ci := 12) (v := .ref (q 0)) (C := "CoinKeeperModel") (T := F_12) (N := 98) hx hb hts i_12 hown hK hP 0 rfl rfl 0 (by decide) (hts _ gw_1419) (fun _ h9 => h9) rfl d_M_signed_73 ?_
    refine lv_bipush (v := 32) hx hb d_M_signed_76 (by decide) ?_
    refine lv_iload_n hx hb d_M_signed_78 rfl (lv_at hl 1 rfl) ?_
    refine lv_iadd hx hb d_M_signed_79 ?_
    refine lv_topi (fun v3 ev => ?_)
    have hf := bn ev hf
    clear ev
    refine lv_iload_n hx hb d_M_signed_80 rfl (lv_at hl 2 rfl) ?_
    obtain ⟨v4, f5, f6, f7, f8, f9, f10, f11, f12, f13, f14, f15, f16, f17, f18, f19, f20, f21, f22, f23, f24, f25, f26, hc, hf⟩ := bdp23 hf
    refine q_ai (wr := []) (va_runV (C := "CoinKeeperModel") (As := [.ref (q 0), .int (32 : Int32), .int x1, .ref (q 0), .int v3, .int x2]) (rest := []) ⟨hx, hb, hml, hown, hts⟩ (c_M_isSigned_e41 l D cy ad fu o q (q 0) f2 g_one 3000 g_row (32 : Int32) x1 v3 x2 z1 u2 u3 u4 u5 u6 u7 u8 u9 u10 u11 u12 u13 u14 u15 u16 u17 u18 u19 u20 u21 u22 _ hc H.size) ⟨q_cB hts gw_1966 gw_18 gw_1963 hdm_36 ⟨by decide, by decide⟩, hts _ gw_1965, hts _ gs_110⟩ (q_preV (q_pre (hP.sub [0, 2, 3, 4, 5, 6, 7, 8, 9, 10, 11, 12, 13, 14, 15, 16, 17, 18, 19, 20, 21, 22, 23, 24, 1] rfl) (hD.sub [0, 2, 3, 4, 5, 6, 7, 8, 9, 10, 11, 12, 13, 14, 15, 16, 17, 18, 19, 20, 21, 22, 23, 24, 1] (by decide) rfl) hK hSt hS (va_free hD hS hA [0, 2, 3, 4, 5, 6, 7, 8, 9, 10, 11, 12, 13, 14, 15, 16, 17, 18, 19, 20, 21, 22, 23, 24, 1] rfl) _) (va_recv hK (hP.sub [0, 2, 3, 4, 5, 6, 7, 8, 9, 10, 11, 12, 13, 14, 15, 16, 17, 18, 19, 20, 21, 22, 23, 24, 1] rfl) (ci := 12) (q0 := 0) rfl rfl)) rfl rfl hl.1 rfl (lv_room (Nat.le_of_ble_eq_true rfl)) d_M_signed_81 ⟨Nat.le_of_ble_eq_true rfl, Nat.le_of_ble_eq_true rfl⟩) hP hD hS hA [0, 2, 3, 4, 5, 6, 7, 8, 9, 10, 11, 12, 13, 14, 15, 16, 17, 18, 19, 20, 21, 22, 23, 24, 1] [] rfl rfl (by decide) (by decide) (fun H locs hP hD hS => ?_)
    clear hc
    have hP : va_P D classes [(o, .inr (12, mo q f5)), ((q 36), .inl (cy 0, 32, .inl f2)), ((q 39), .inl (cy 1, 8, .inl g_one)), ((q 41), .inl (cy 1, 8, .inl f6)), ((q 48), .inl (cy 1, 8, .inl f7)), ((q 49), .inl (cy 1, 8, .inl f8)), ((q 50), .inl (cy 1, 16, .inl f9)), ((q 51), .inl (cy 1, 8, .inl f10)), ((q 52), .inl (cy 1, 8, .inl f11)), ((q 53), .inl (cy 1, 8, .inl f12)), ((q 54), .inl (cy 1, 8, .inl f13)), ((q 55), .inl (cy 1, 8, .inl f14)), ((q 56), .inl (cy 1, 8, .inl f15)), ((q 57), .inl (cy 1, 8, .inl f16)), ((q 58), .inl (cy 1, 8, .inl f17)), ((q 59), .inl (cy 1, 8, .inl f18)), ((q 60), .inl (cy 1, 8, .inl f19)), ((q 61), .inl (cy 1, 8, .inl f20)), ((q 62), .inl (cy 1, 8, .inl f21)), ((q 63), .inl (cy 1, 8, .inl f22)), ((q 64), .inl (cy 1, 8, .inl f23)), ((q 65), .inl (cy 1, 8, .inl f24)), ((q 66), .inl (cy 1, 8, .inl f25)), ((q 67), .inl (cy 1, 8, .inl f26)), ((q 0), .inl (cy 0, 3000, .inl g_row))] H := hP
    have hD : va_D A [(o, .inr (12, mo q f5)), ((q 36), .inl (cy 0, 32, .inl f2)), ((q 39), .inl (cy 1, 8, .inl g_one)), ((q 41), .inl (cy 1, 8, .inl f6)), ((q 48), .inl (cy 1, 8, .inl f7)), ((q 49), .inl (cy 1, 8, .inl f8)), ((q 50), .inl (cy 1, 16, .inl f9)), ((q 51), .inl (cy 1, 8, .inl f10)), ((q 52), .inl (cy 1, 8, .inl f11)), ((q 53), .inl (cy 1, 8, .inl f12)), ((q 54), .inl (cy 1, 8, .inl f13)), ((q 55), .inl (cy 1, 8, .inl f14)), ((q 56), .inl (cy 1, 8, .inl f15)), ((q 57), .inl (cy 1, 8, .inl f16)), ((q 58), .inl (cy 1, 8, .inl f17)), ((q 59), .inl (cy 1, 8, .inl f18)), ((q 60), .inl (cy 1, 8, .inl f19)), ((q 61), .inl (cy 1, 8, .inl f20)), ((q 62), .inl (cy 1, 8, .inl f21)), ((q 63), .inl (cy 1, 8, .inl f22)), ((q 64), .inl (cy 1, 8, .inl f23)), ((q 65), .inl (cy 1, 8, .inl f24)), ((q 66), .inl (cy 1, 8, .inl f25)), ((q 67), .inl (cy 1, 8, .inl f26)), ((q 0), .inl (cy 0, 3000, .inl g_row))] := hD
    obtain ⟨hg, hf⟩ := gdp hf
    obtain rfl := Option.some.inj hf
    exact q_rz hx hb hr hlocks hK (hP.sub [0, 24, 1, 2, 3, 4, 5, 6, 7, 8, 9, 10, 11, 12, 13, 14, 15, 16, 17, 18, 19, 20, 21, 22, 23] rfl) (hD.sub [0, 24, 1, 2, 3, 4, 5, 6, 7, 8, 9, 10, 11, 12, 13, 14, 15, 16, 17, 18, 19, 20, 21, 22, 23] (by decide) rfl) hS (isb_n hg) d_M_signed_84
  · have hf := ifn cx hf
    refine lv_iconst (v := 0) hx hb d_M_signed_47 (by decide) ?_
    obtain rfl := Option.some.inj hf
    exact q_rz hx hb hr hlocks hK hP hD hS (isb_n (v := 0) (by decide)) d_M_signed_48
set_option maxHeartbeats 8000000 in
set_option maxRecDepth 100000 in
theorem wb_M_signed_32 {p : Program} {l : Launch} {e : Env} {s : State} {m : MethodId} {args : Array Value} {below : List Frame} {meth : Method} {c : Code} {D : va_G} {cy : Nat → ClassId} {A : Nat → Prop} {ad : Nat → Nat} {o : Nat} {q : Nat → Nat} {g_row : Nat → Int32} {g_one : Nat → Int32} {fu : Nat} (F : Fx p s m args meth c b_M_signed 3 "CoinKeeperModel" "signed" (some .boolean) D cy ad A) : I_M_signed_32 p l e s m args below meth c D cy A ad o q g_row g_one (xb_M_signed_32 fu g_row g_one) := by
  obtain ⟨hx, hb, hr, hml, hown, hts, hlocks, hK, hA, hSt, hnm, hex⟩ := id F
  intro x1 x2 u0 u1 u2 u3 u4 u5 u6 u7 u8 u9 u10 u11 u12 u13 u14 u15 u16 u17 u18 u19 u20 u21 u22 res hf H locs ls hP hD hS hl
  unfold xb_M_signed_32 at hf
  refine lv_iconst (v := 1) hx hb d_M_signed_32 (by decide) ?_
  refine lv_goto (tgt := 37) hx hb d_M_signed_33 (by decide) ?_
  exact wb_M_signed_37 (fu := fu) F _ _ _ _ _ _ _ _ _ _ _ _ _ _ _ _ _ _ _ _ _ _ _ _ _ _ _ hf _ _ _ hP hD hS (lv_sub hl [0, 1, 2] rfl)
set_option maxHeartbeats 8000000 in
set_option maxRecDepth 100000 in
theorem we_M_signed {p : Program} {l : Launch} {e : Env} {s : State} {m : MethodId} {args : Array Value} {below : List Frame} {meth : Method} {c : Code} {D : va_G} {cy : Nat → ClassId} {A : Nat → Prop} {ad : Nat → Nat} {o : Nat} {q : Nat → Nat} {g_row : Nat → Int32} {g_one : Nat → Int32} {fu : Nat} (F : Fx p s m args meth c b_M_signed 3 "CoinKeeperModel" "signed" (some .boolean) D cy ad A) : I_M_signed_e p l e s m args below meth c D cy A ad o q g_row g_one (x_M_signed fu g_row g_one) := by
  obtain ⟨hx, hb, hr, hml, hown, hts, hlocks, hK, hA, hSt, hnm, hex⟩ := id F
  intro a1 u0 u1 u2 u3 u4 u5 u6 u7 u8 u9 u10 u11 u12 u13 u14 u15 u16 u17 u18 u19 u20 u21 u22 res hf H locs ls hP hD hS hl
  unfold x_M_signed at hf
  refine lv_aload_n hx hb d_M_signed_0 rfl (lv_at hl 0 rfl) ?_
  refine va_get (D := D) (ci := 12) (v := .int (u0 0)) (C := "CoinKeeperModel") (T := F_12) (N := 98) hx hb hts i_12 hown hK hP 0 rfl rfl 2 (by decide) (hts _ gw_1421) (fun _ h9 => h9) rfl d_M_signed_1 ?_
  refine lv_bipush (v := 32) hx hb d_M_signed_4 (by decide) ?_
  refine lv_isub hx hb d_M_signed_6 ?_
  refine lv_topi (fun v1 ev => ?_)
  have hf := bn ev hf
  clear ev
  refine lv_iload_n hx hb d_M_signed_7 rfl (lv_at hl 1 rfl) ?_
  refine lv_isub hx hb d_M_signed_8 ?_
  refine lv_topi (fun v2 ev => ?_)
  have hf := bn ev hf
  clear ev
  refine lv_istore_n (lv' := [(2, .int v2), (0, .ref o), (1, .int a1)]) hx hb d_M_signed_9 rfl hl (by decide) rfl (fun ls hl => ?_)
  refine lv_aload_n hx hb d_M_signed_10 rfl (lv_at hl 1 rfl) ?_
  refine lv_iload_n hx hb d_M_signed_11 rfl (lv_at hl 2 rfl) ?_
  refine lv_if_lt (tgt := 32) hx hb d_M_signed_12 (by decide) (fun cx => ?_) (fun cx => ?_)
  · have hf := ifp cx hf
    exact wb_M_signed_32 (fu := fu) F _ _ _ _ _ _ _ _ _ _ _ _ _ _ _ _ _ _ _ _ _ _ _ _ _ _ hf _ _ _ hP hD hS (lv_sub hl [1, 2, 0] rfl)
  · have hf := ifn cx hf
    refine lv_iload_n hx hb d_M_signed_15 rfl (lv_at hl 2 rfl) ?_
    refine lv_bipush (v := 100) hx hb d_M_signed_16 (by decide) ?_
    refine lv_icmp_gt (tgt := 32) hx hb d_M_signed_18 (by decide) (fun cx => ?_) (fun cx => ?_)
    · have hf := ifp cx hf
      exact wb_M_signed_32 (fu := fu) F _ _ _ _ _ _ _ _ _ _ _ _ _ _ _ _ _ _ _ _ _ _ _ _ _ _ hf _ _ _ hP hD hS (lv_sub hl [1, 2, 0] rfl)
    · have hf := ifn cx hf
      refine lv_iload_n hx hb d_M_signed_21 rfl (lv_at hl 0 rfl) ?_
      refine lv_iconst (v := 1) hx hb d_M_signed_22 (by decide) ?_
      refine lv_icmp_lt (tgt := 32) hx hb d_M_signed_23 (by decide) (fun cx => ?_) (fun cx => ?_)
      · have hf := ifp cx hf
        exact wb_M_signed_32 (fu := fu) F _ _ _ _ _ _ _ _ _ _ _ _ _ _ _ _ _ _ _ _ _ _ _ _ _ _ hf _ _ _ hP hD hS (lv_sub hl [1, 2, 0] rfl)
      · have hf := ifn cx hf
        refine lv_iload_n hx hb d_M_signed_26 rfl (lv_at hl 0 rfl) ?_
        refine lv_bipush (v := 80) hx hb d_M_signed_27 (by decide) ?_
        refine lv_icmp_le (tgt := 36) hx hb d_M_signed_29 (by decide) (fun cx => ?_) (fun cx => ?_)
        · have hf := ifp cx hf
          refine lv_iconst (v := 0) hx hb d_M_signed_36 (by decide) ?_
          exact wb_M_signed_37 (fu := fu) F _ _ _ _ _ _ _ _ _ _ _ _ _ _ _ _ _ _ _ _ _ _ _ _ _ _ _ hf _ _ _ hP hD hS (lv_sub hl [1, 2, 0] rfl)
        · have hf := ifn cx hf
          exact wb_M_signed_32 (fu := fu) F _ _ _ _ _ _ _ _ _ _ _ _ _ _ _ _ _ _ _ _ _ _ _ _ _ _ hf _ _ _ hP hD hS (lv_sub hl [1, 2, 0] rfl)
theorem c_M_signed (l : Launch) (D : va_G) (cy : Nat → ClassId) (ad : Nat → Nat) (fu : Nat) (o : Nat) (q : Nat → Nat) (g_row : Nat → Int32) (g_one : Nat → Int32) (a1 : Int32) (u0 : Nat → Int32) (u1 : Nat → Int32) (u2 : Nat → Int32) (u3 : Nat → Int32) (u4 : Nat → Int32) (u5 : Nat → Int32) (u6 : Nat → Int32) (u7 : Nat → Int32) (u8 : Nat → Int32) (u9 : Nat → Int32) (u10 : Nat → Int32) (u11 : Nat → Int32) (u12 : Nat → Int32) (u13 : Nat → Int32) (u14 : Nat → Int32) (u15 : Nat → Int32) (u16 : Nat → Int32) (u17 : Nat → Int32) (u18 : Nat → Int32) (u19 : Nat → Int32) (u20 : Nat → Int32) (u21 : Nat → Int32) (u22 : Nat → Int32) (res : Int32 × (Nat → Int32) × (Nat → Int32) × (Nat → Int32) × (Nat → Int32) × (Nat → Int32) × (Nat → Int32) × (Nat → Int32) × (Nat → Int32) × (Nat → Int32) × (Nat → Int32) × (Nat → Int32) × (Nat → Int32) × (Nat → Int32) × (Nat → Int32) × (Nat → Int32) × (Nat → Int32) × (Nat → Int32) × (Nat → Int32) × (Nat → Int32) × (Nat → Int32) × (Nat → Int32) × (Nat → Int32) × (Nat → Int32)) (hf : x_M_signed fu g_row g_one a1 u0 u1 u2 u3 u4 u5 u6 u7 u8 u9 u10 u11 u12 u13 u14 u15 u16 u17 u18 u19 u20 u21 u22 = some res) (sz : Nat) : Met l ({ cls := "CoinKeeperModel", name := "signed", desc := "(I)Z" } : Jvm.MethodName) (.code ({ cls := "CoinKeeperModel", name := "signed", desc := "(I)Z" } : Jvm.MethodName) b_M_signed 3 (some .boolean) :: gw) rm_M_signed (va_Pc [.ref o, .int a1] (Pr D cy ad [(o, .inr (12, mo q u0)), ((q 0), .inl (cy 0, 3000, .inl g_row)), ((q 36), .inl (cy 0, 32, .inl u1)), ((q 39), .inl (cy 1, 8, .inl g_one)), ((q 41), .inl (cy 1, 8, .inl u2)), ((q 48), .inl (cy 1, 8, .inl u3)), ((q 49), .inl (cy 1, 8, .inl u4)), ((q 50), .inl (cy 1, 16, .inl u5)), ((q 51), .inl (cy 1, 8, .inl u6)), ((q 52), .inl (cy 1, 8, .inl u7)), ((q 53), .inl (cy 1, 8, .inl u8)), ((q 54), .inl (cy 1, 8, .inl u9)), ((q 55), .inl (cy 1, 8, .inl u10)), ((q 56), .inl (cy 1, 8, .inl u11)), ((q 57), .inl (cy 1, 8, .inl u12)), ((q 58), .inl (cy 1, 8, .inl u13)), ((q 59), .inl (cy 1, 8, .inl u14)), ((q 60), .inl (cy 1, 8, .inl u15)), ((q 61), .inl (cy 1, 8, .inl u16)), ((q 62), .inl (cy 1, 8, .inl u17)), ((q 63), .inl (cy 1, 8, .inl u18)), ((q 64), .inl (cy 1, 8, .inl u19)), ((q 65), .inl (cy 1, 8, .inl u20)), ((q 66), .inl (cy 1, 8, .inl u21)), ((q 67), .inl (cy 1, 8, .inl u22))] sz)) (q_M_signed D cy (va_A [(o, .inr (12, mo q u0)), ((q 0), .inl (cy 0, 3000, .inl g_row)), ((q 36), .inl (cy 0, 32, .inl u1)), ((q 39), .inl (cy 1, 8, .inl g_one)), ((q 41), .inl (cy 1, 8, .inl u2)), ((q 48), .inl (cy 1, 8, .inl u3)), ((q 49), .inl (cy 1, 8, .inl u4)), ((q 50), .inl (cy 1, 16, .inl u5)), ((q 51), .inl (cy 1, 8, .inl u6)), ((q 52), .inl (cy 1, 8, .inl u7)), ((q 53), .inl (cy 1, 8, .inl u8)), ((q 54), .inl (cy 1, 8, .inl u9)), ((q 55), .inl (cy 1, 8, .inl u10)), ((q 56), .inl (cy 1, 8, .inl u11)), ((q 57), .inl (cy 1, 8, .inl u12)), ((q 58), .inl (cy 1, 8, .inl u13)), ((q 59), .inl (cy 1, 8, .inl u14)), ((q 60), .inl (cy 1, 8, .inl u15)), ((q 61), .inl (cy 1, 8, .inl u16)), ((q 62), .inl (cy 1, 8, .inl u17)), ((q 63), .inl (cy 1, 8, .inl u18)), ((q 64), .inl (cy 1, 8, .inl u19)), ((q 65), .inl (cy 1, 8, .inl u20)), ((q 66), .inl (cy 1, 8, .inl u21)), ((q 67), .inl (cy 1, 8, .inl u22))] sz) o q g_row g_one res) 0 0 (va_A [(o, .inr (12, mo q u0)), ((q 0), .inl (cy 0, 3000, .inl g_row)), ((q 36), .inl (cy 0, 32, .inl u1)), ((q 39), .inl (cy 1, 8, .inl g_one)), ((q 41), .inl (cy 1, 8, .inl u2)), ((q 48), .inl (cy 1, 8, .inl u3)), ((q 49), .inl (cy 1, 8, .inl u4)), ((q 50), .inl (cy 1, 16, .inl u5)), ((q 51), .inl (cy 1, 8, .inl u6)), ((q 52), .inl (cy 1, 8, .inl u7)), ((q 53), .inl (cy 1, 8, .inl u8)), ((q 54), .inl (cy 1, 8, .inl u9)), ((q 55), .inl (cy 1, 8, .inl u10)), ((q 56), .inl (cy 1, 8, .inl u11)), ((q 57), .inl (cy 1, 8, .inl u12)), ((q 58), .inl (cy 1, 8, .inl u13)), ((q 59), .inl (cy 1, 8, .inl u14)), ((q 60), .inl (cy 1, 8, .inl u15)), ((q 61), .inl (cy 1, 8, .inl u16)), ((q 62), .inl (cy 1, 8, .inl u17)), ((q 63), .inl (cy 1, 8, .inl u18)), ((q 64), .inl (cy 1, 8, .inl u19)), ((q 65), .inl (cy 1, 8, .inl u20)), ((q 66), .inl (cy 1, 8, .inl u21)), ((q 67), .inl (cy 1, 8, .inl u22))] sz) :=
  q_met (Qc := fun A => q_M_signed D cy A o q g_row g_one res) (by decide) rfl rfl (Nat.le_of_ble_eq_true rfl) (fun p e s m below meth c ls F hP hD hS hl => we_M_signed (fu := fu) F a1 u0 u1 u2 u3 u4 u5 u6 u7 u8 u9 u10 u11 u12 u13 u14 u15 u16 u17 u18 u19 u20 u21 u22 res hf _ _ _ hP hD hS hl) sz
abbrev b_M_push : ByteArray := prog_14_method_41_code
theorem d_M_push_0 : decode b_M_push 0 = .ok (.aload_n 1, 1) := by decide +kernel
theorem d_M_push_1 : decode b_M_push 1 = .ok (.iload_n 2, 1) := by decide +kernel
theorem d_M_push_2 : decode b_M_push 2 = .ok (.aload_n 0, 1) := by decide +kernel
theorem d_M_push_3 : decode b_M_push 3 = .ok (.getfield 221, 3) := by decide +kernel
theorem d_M_push_6 : decode b_M_push 6 = .ok (.sipush 256, 3) := by decide +kernel
theorem d_M_push_9 : decode b_M_push 9 = .ok (.aload_n 0, 1) := by decide +kernel
theorem d_M_push_10 : decode b_M_push 10 = .ok (.getfield 439, 3) := by decide +kernel
theorem d_M_push_13 : decode b_M_push 13 = .ok (.imul, 1) := by decide +kernel
theorem d_M_push_14 : decode b_M_push 14 = .ok (.iload_n 3, 1) := by decide +kernel
theorem d_M_push_15 : decode b_M_push 15 = .ok (.invokestatic 271, 3) := by decide +kernel
theorem d_M_push_18 : decode b_M_push 18 = .ok (.aload_n 0, 1) := by decide +kernel
theorem d_M_push_19 : decode b_M_push 19 = .ok (.getfield 224, 3) := by decide +kernel
theorem d_M_push_22 : decode b_M_push 22 = .ok (.aload_n 0, 1) := by decide +kernel
theorem d_M_push_23 : decode b_M_push 23 = .ok (.getfield 439, 3) := by decide +kernel
theorem d_M_push_26 : decode b_M_push 26 = .ok (.iload_n 3, 1) := by decide +kernel
theorem d_M_push_27 : decode b_M_push 27 = .ok (.iastore, 1) := by decide +kernel
theorem d_M_push_28 : decode b_M_push 28 = .ok (.aload_n 0, 1) := by decide +kernel
theorem d_M_push_29 : decode b_M_push 29 = .ok (.dup, 1) := by decide +kernel
theorem d_M_push_30 : decode b_M_push 30 = .ok (.getfield 439, 3) := by decide +kernel
theorem d_M_push_33 : decode b_M_push 33 = .ok (.iconst 1, 1) := by decide +kernel
theorem d_M_push_34 : decode b_M_push 34 = .ok (.iadd, 1) := by decide +kernel
theorem d_M_push_35 : decode b_M_push 35 = .ok (.putfield 439, 3) := by decide +kernel
theorem d_M_push_38 : decode b_M_push 38 = .ok (.return_, 1) := by decide +kernel
abbrev rm_M_push : Room := { frames := 1, cells := 0, slots := 0, locals := 26 }
abbrev q_M_push (D : va_G) (cy : Nat → ClassId) (A : Nat → Prop) (o : Nat) (q : Nat → Nat) (b1 : Nat) (n1 : Nat) (h1 : Nat → Int32) (res : (Nat → Int32) × (Nat → Int32) × (Nat → Int32)) : Array Value → State → Outcome → State → Prop := va_Qv (fun (_ : Unit) => True) (fun _ t => Po D cy A [(o, .inr (12, mo q res.1)), ((q 68), .inl (cy 0, 104448, .inl res.2.1)), ((q 69), .inl (cy 1, 408, .inl res.2.2)), (b1, .inl (cy 0, n1, .inl h1))] t) A
def I_M_push_e (p : Program) (l : Launch) (e : Env) (s : State) (m : MethodId) (args : Array Value) (below : List Frame) (meth : Method) (c : Code) (D : va_G) (cy : Nat → ClassId) (A : Nat → Prop) (ad : Nat → Nat) (o : Nat) (q : Nat → Nat) (b1 : Nat) (n1 : Nat) (h1 : Nat → Int32) (k : Int32 → Int32 → (Nat → Int32) → (Nat → Int32) → (Nat → Int32) → Option ((Nat → Int32) × (Nat → Int32) × (Nat → Int32))) : Prop :=
  ∀ (a2 : Int32) (a3 : Int32) (u0 : Nat → Int32) (u1 : Nat → Int32) (u2 : Nat → Int32) (res : (Nat → Int32) × (Nat → Int32) × (Nat → Int32)), k a2 a3 u0 u1 u2 = some res → ∀ (H : Heap) (locs : List Loc) (ls : Array Slot), va_P D classes [(o, .inr (12, mo q u0)), ((q 68), .inl (cy 0, 104448, .inl u1)), ((q 69), .inl (cy 1, 408, .inl u2)), (b1, .inl (cy 0, n1, .inl h1))] H → va_D A [(o, .inr (12, mo q u0)), ((q 68), .inl (cy 0, 104448, .inl u1)), ((q 69), .inl (cy 1, 408, .inl u2)), (b1, .inl (cy 0, n1, .inl h1))] → va_S A s.heap H locs → lv_has ls 4 [(0, .ref o), (1, .ref b1), (2, .int a2), (3, .int a3)] → W p l e rm_M_push s m args below meth c H locs 0 0 (MQ below (q_M_push D cy A o q b1 n1 h1 res) args s 0 0 A) (F0 m 0 ls [])
set_option maxHeartbeats 8000000 in
set_option maxRecDepth 100000 in
theorem we_M_push {p : Program} {l : Launch} {e : Env} {s : State} {m : MethodId} {args : Array Value} {below : List Frame} {meth : Method} {c : Code} {D : va_G} {cy : Nat → ClassId} {A : Nat → Prop} {ad : Nat → Nat} {o : Nat} {q : Nat → Nat} {b1 : Nat} {n1 : Nat} {h1 : Nat → Int32} {fu : Nat} (F : Fx p s m args meth c b_M_push 4 "CoinKeeperModel" "push" none D cy ad A) : I_M_push_e p l e s m args below meth c D cy A ad o q b1 n1 h1 (x_M_push fu n1 h1) := by
  obtain ⟨hx, hb, hr, hml, hown, hts, hlocks, hK, hA, hSt, hnm, hex⟩ := id F
  intro a2 a3 u0 u1 u2 res hf H locs ls hP hD hS hl
  unfold x_M_push at hf
  refine lv_aload_n hx hb d_M_push_0 rfl (lv_at hl 1 rfl) ?_
  refine lv_iload_n hx hb d_M_push_1 rfl (lv_at hl 2 rfl) ?_
  refine lv_aload_n hx hb d_M_push_2 rfl (lv_at hl 0 rfl) ?_
  refine va_get (D := D) (ci := 12) (v := .ref (q 68)) (C := "CoinKeeperModel") (T := F_12) (N := 98) hx hb hts i_12 hown hK hP 0 rfl rfl 77 (by decide) (hts _ gw_1496) (fun _ h9 => h9) rfl d_M_push_3 ?_
  refine lv_sipush (v := 256) hx hb d_M_push_6 (by decide) ?_
  refine lv_aload_n hx hb d_M_push_9 rfl (lv_at hl 0 rfl) ?_
  refine va_get (D := D) (ci := 12) (v := .int (u0 9)) (C := "CoinKeeperModel") (T := F_12) (N := 98) hx hb hts i_12 hown hK hP 0 rfl rfl 79 (by decide) (hts _ gw_1498) (fun _ h9 => h9) rfl d_M_push_10 ?_
  refine lv_imul hx hb d_M_push_13 ?_
  refine lv_topi (fun v1 ev => ?_)
  have hf := bn ev hf
  clear ev
  refine lv_iload_n hx hb d_M_push_14 rfl (lv_at hl 3 rfl) ?_
  obtain ⟨hg, hf⟩ := gdp hf
  obtain ⟨hg2, hf⟩ := gdp hf
  refine va_copyi (rest := []) hx hb (hml.trans hl.1.symm) hown (hts _ gw_1398) (hts _ gw_497) (hts _ gw_496) (hts _ gw_17) hK hP hD hS 3 1 0 0 rfl rfl rfl rfl rfl (cpk_p hg).1 (cpk_p hg).2.1 (cpk_p hg).2.2.1 (cpk_p hg).2.2.2.1 (cpk_p hg).2.2.2.2 (bfit_p hg2) (by decide) (by decide) d_M_push_15 (fun H locs hP hD hS => ?_)
  obtain ⟨f2, ev, hf⟩ := bne hf
  have hP : va_P D classes [(o, .inr (12, mo q u0)), ((q 68), .inl (cy 0, 104448, .inl f2)), ((q 69), .inl (cy 1, 408, .inl u2)), (b1, .inl (cy 0, n1, .inl h1))] H := by rw [ev]; exact hP
  have hD : va_D A [(o, .inr (12, mo q u0)), ((q 68), .inl (cy 0, 104448, .inl f2)), ((q 69), .inl (cy 1, 408, .inl u2)), (b1, .inl (cy 0, n1, .inl h1))] := by rw [ev]; exact hD
  clear ev
  refine lv_aload_n hx hb d_M_push_18 rfl (lv_at hl 0 rfl) ?_
  refine va_get (D := D) (ci := 12) (v := .ref (q 69)) (C := "CoinKeeperModel") (T := F_12) (N := 98) hx hb hts i_12 hown hK hP 0 rfl rfl 78 (by decide) (hts _ gw_1497) (fun _ h9 => h9) rfl d_M_push_19 ?_
  refine lv_aload_n hx hb d_M_push_22 rfl (lv_at hl 0 rfl) ?_
  refine va_get (D := D) (ci := 12) (v := .int (u0 9)) (C := "CoinKeeperModel") (T := F_12) (N := 98) hx hb hts i_12 hown hK hP 0 rfl rfl 79 (by decide) (hts _ gw_1498) (fun _ h9 => h9) rfl d_M_push_23 ?_
  refine lv_iload_n hx hb d_M_push_26 rfl (lv_at hl 3 rfl) ?_
  obtain ⟨hg, hf⟩ := gdp hf
  refine va_iast hx hb hK hP hD hS 2 1 rfl rfl (inb_in hg) d_M_push_27 (fun H locs hP hD hS => ?_)
  obtain ⟨f3, ev, hf⟩ := bne hf
  have hP : va_P D classes [(o, .inr (12, mo q u0)), ((q 68), .inl (cy 0, 104448, .inl f2)), ((q 69), .inl (cy 1, 408, .inl f3)), (b1, .inl (cy 0, n1, .inl h1))] H := by rw [ev]; exact hP
  have hD : va_D A [(o, .inr (12, mo q u0)), ((q 68), .inl (cy 0, 104448, .inl f2)), ((q 69), .inl (cy 1, 408, .inl f3)), (b1, .inl (cy 0, n1, .inl h1))] := by rw [ev]; exact hD
  clear ev
  refine lv_aload_n hx hb d_M_push_28 rfl (lv_at hl 0 rfl) ?_
  refine lv_dup hx hb d_M_push_29 rfl ?_
  refine va_get (D := D) (ci := 12) (v := .int (u0 9)) (C := "CoinKeeperModel") (T := F_12) (N := 98) hx hb hts i_12 hown hK hP 0 rfl rfl 79 (by decide) (hts _ gw_1498) (fun _ h9 => h9) rfl d_M_push_30 ?_
  refine lv_iconst (v := 1) hx hb d_M_push_33 (by decide) ?_
  refine lv_iadd hx hb d_M_push_34 ?_
  refine lv_topi (fun v4 ev => ?_)
  have hf := bn ev hf
  clear ev
  refine va_put (D := D) (ci := 12) (v := .int v4) (ty := .int) (C := "CoinKeeperModel") (T := F_12) (N := 98) hx hb hts i_12 t_12 t_12_ok n_12 hown hK hP hD hS 0 rfl rfl 79 (by decide) (hts _ gw_1498) (fun _ h9 => h9) rfl (by decide +kernel) rfl rfl (Nat.le_of_ble_eq_true rfl) d_M_push_35 (fun H locs hP hD hS => ?_)
  obtain ⟨z5, ev, hf⟩ := bne hf
  have hP : va_P D classes [(o, .inr (12, mo q z5)), ((q 68), .inl (cy 0, 104448, .inl f2)), ((q 69), .inl (cy 1, 408, .inl f3)), (b1, .inl (cy 0, n1, .inl h1))] H := by rw [ev]; exact hP
  have hD : va_D A [(o, .inr (12, mo q z5)), ((q 68), .inl (cy 0, 104448, .inl f2)), ((q 69), .inl (cy 1, 408, .inl f3)), (b1, .inl (cy 0, n1, .inl h1))] := by rw [ev]; exact hD
  clear ev
  obtain rfl := Option.some.inj hf
  exact q_rv hx hb hr hlocks hK hP hD hS d_M_push_38
theorem c_M_push (l : Launch) (D : va_G) (cy : Nat → ClassId) (ad : Nat → Nat) (fu : Nat) (o : Nat) (q : Nat → Nat) (b1 : Nat) (n1 : Nat) (h1 : Nat → Int32) (a2 : Int32) (a3 : Int32) (u0 : Nat → Int32) (u1 : Nat → Int32) (u2 : Nat → Int32) (res : (Nat → Int32) × (Nat → Int32) × (Nat → Int32)) (hf : x_M_push fu n1 h1 a2 a3 u0 u1 u2 = some res) (sz : Nat) : Met l ({ cls := "CoinKeeperModel", name := "push", desc := "([BII)V" } : Jvm.MethodName) (.code ({ cls := "CoinKeeperModel", name := "push", desc := "([BII)V" } : Jvm.MethodName) b_M_push 4 none :: gw) rm_M_push (va_Pc [.ref o, .ref b1, .int a2, .int a3] (Pr D cy ad [(o, .inr (12, mo q u0)), ((q 68), .inl (cy 0, 104448, .inl u1)), ((q 69), .inl (cy 1, 408, .inl u2)), (b1, .inl (cy 0, n1, .inl h1))] sz)) (q_M_push D cy (va_A [(o, .inr (12, mo q u0)), ((q 68), .inl (cy 0, 104448, .inl u1)), ((q 69), .inl (cy 1, 408, .inl u2)), (b1, .inl (cy 0, n1, .inl h1))] sz) o q b1 n1 h1 res) 0 0 (va_A [(o, .inr (12, mo q u0)), ((q 68), .inl (cy 0, 104448, .inl u1)), ((q 69), .inl (cy 1, 408, .inl u2)), (b1, .inl (cy 0, n1, .inl h1))] sz) :=
  q_met (Qc := fun A => q_M_push D cy A o q b1 n1 h1 res) (by decide) rfl rfl (Nat.le_of_ble_eq_true rfl) (fun p e s m below meth c ls F hP hD hS hl => we_M_push (fu := fu) F a2 a3 u0 u1 u2 res hf _ _ _ hP hD hS hl) sz
abbrev b_M_isTrue1 : ByteArray := prog_14_method_44_code
theorem d_M_isTrue1_0 : decode b_M_isTrue1 0 = .ok (.iconst 0, 1) := by decide +kernel
theorem d_M_isTrue1_1 : decode b_M_isTrue1 1 = .ok (.istore_n 2, 1) := by decide +kernel
theorem d_M_isTrue1_2 : decode b_M_isTrue1 2 = .ok (.iload_n 2, 1) := by decide +kernel
theorem d_M_isTrue1_3 : decode b_M_isTrue1 3 = .ok (.aload_n 0, 1) := by decide +kernel
theorem d_M_isTrue1_4 : decode b_M_isTrue1 4 = .ok (.getfield 224, 3) := by decide +kernel
theorem d_M_isTrue1_7 : decode b_M_isTrue1 7 = .ok (.iload_n 1, 1) := by decide +kernel
theorem d_M_isTrue1_8 : decode b_M_isTrue1 8 = .ok (.iaload, 1) := by decide +kernel
theorem d_M_isTrue1_9 : decode b_M_isTrue1 9 = .ok (.if_icmp .ge 55, 3) := by decide +kernel
theorem d_M_isTrue1_12 : decode b_M_isTrue1 12 = .ok (.aload_n 0, 1) := by decide +kernel
theorem d_M_isTrue1_13 : decode b_M_isTrue1 13 = .ok (.getfield 221, 3) := by decide +kernel
theorem d_M_isTrue1_16 : decode b_M_isTrue1 16 = .ok (.sipush 256, 3) := by decide +kernel
theorem d_M_isTrue1_19 : decode b_M_isTrue1 19 = .ok (.iload_n 1, 1) := by decide +kernel
theorem d_M_isTrue1_20 : decode b_M_isTrue1 20 = .ok (.imul, 1) := by decide +kernel
theorem d_M_isTrue1_21 : decode b_M_isTrue1 21 = .ok (.iload_n 2, 1) := by decide +kernel
theorem d_M_isTrue1_22 : decode b_M_isTrue1 22 = .ok (.iadd, 1) := by decide +kernel
theorem d_M_isTrue1_23 : decode b_M_isTrue1 23 = .ok (.baload, 1) := by decide +kernel
theorem d_M_isTrue1_24 : decode b_M_isTrue1 24 = .ok (.ifCond .eq 34, 3) := by decide +kernel
theorem d_M_isTrue1_27 : decode b_M_isTrue1 27 = .ok (.iload_n 2, 1) := by decide +kernel
theorem d_M_isTrue1_28 : decode b_M_isTrue1 28 = .ok (.aload_n 0, 1) := by decide +kernel
theorem d_M_isTrue1_29 : decode b_M_isTrue1 29 = .ok (.getfield 224, 3) := by decide +kernel
theorem d_M_isTrue1_32 : decode b_M_isTrue1 32 = .ok (.iload_n 1, 1) := by decide +kernel
theorem d_M_isTrue1_33 : decode b_M_isTrue1 33 = .ok (.iaload, 1) := by decide +kernel
theorem d_M_isTrue1_34 : decode b_M_isTrue1 34 = .ok (.iconst 1, 1) := by decide +kernel
theorem d_M_isTrue1_35 : decode b_M_isTrue1 35 = .ok (.isub, 1) := by decide +kernel
theorem d_M_isTrue1_36 : decode b_M_isTrue1 36 = .ok (.if_icmp .ne 20, 3) := by decide +kernel
theorem d_M_isTrue1_39 : decode b_M_isTrue1 39 = .ok (.aload_n 0, 1) := by decide +kernel
theorem d_M_isTrue1_40 : decode b_M_isTrue1 40 = .ok (.getfield 221, 3) := by decide +kernel
theorem d_M_isTrue1_43 : decode b_M_isTrue1 43 = .ok (.sipush 256, 3) := by decide +kernel
theorem d_M_isTrue1_46 : decode b_M_isTrue1 46 = .ok (.iload_n 1, 1) := by decide +kernel
theorem d_M_isTrue1_47 : decode b_M_isTrue1 47 = .ok (.imul, 1) := by decide +kernel
theorem d_M_isTrue1_48 : decode b_M_isTrue1 48 = .ok (.iload_n 2, 1) := by decide +kernel
theorem d_M_isTrue1_49 : decode b_M_isTrue1 49 = .ok (.iadd, 1) := by decide +kernel
theorem d_M_isTrue1_50 : decode b_M_isTrue1 50 = .ok (.baload, 1) := by decide +kernel
theorem d_M_isTrue1_51 : decode b_M_isTrue1 51 = .ok (.bipush (-128), 2) := by decide +kernel
theorem d_M_isTrue1_53 : decode b_M_isTrue1 53 = .ok (.if_icmp .eq 5, 3) := by decide +kernel
theorem d_M_isTrue1_56 : decode b_M_isTrue1 56 = .ok (.iconst 1, 1) := by decide +kernel
theorem d_M_isTrue1_57 : decode b_M_isTrue1 57 = .ok (.ireturn, 1) := by decide +kernel
theorem d_M_isTrue1_58 : decode b_M_isTrue1 58 = .ok (.iinc 2 1, 3) := by decide +kernel
theorem d_M_isTrue1_61 : decode b_M_isTrue1 61 = .ok (.goto (-59), 3) := by decide +kernel
theorem d_M_isTrue1_64 : decode b_M_isTrue1 64 = .ok (.iconst 0, 1) := by decide +kernel
theorem d_M_isTrue1_65 : decode b_M_isTrue1 65 = .ok (.ireturn, 1) := by decide +kernel
abbrev rm_M_isTrue1 : Room := { frames := 0, cells := 0, slots := 0, locals := 0 }
abbrev q_M_isTrue1 (D : va_G) (cy : Nat → ClassId) (A : Nat → Prop) (o : Nat) (q : Nat → Nat) (z : Nat → Int32) (g_thing : Nat → Int32) (g_size : Nat → Int32) (res : Int32) : Array Value → State → Outcome → State → Prop := va_Qi (fun r' (_ : Unit) => r' = res) (fun _ t => Po D cy A [(o, .inr (12, mo q z)), ((q 68), .inl (cy 0, 104448, .inl g_thing)), ((q 69), .inl (cy 1, 408, .inl g_size))] t) A
def I_M_isTrue1_58 (p : Program) (l : Launch) (e : Env) (s : State) (m : MethodId) (args : Array Value) (below : List Frame) (meth : Method) (c : Code) (D : va_G) (cy : Nat → ClassId) (A : Nat → Prop) (ad : Nat → Nat) (o : Nat) (q : Nat → Nat) (z : Nat → Int32) (g_thing : Nat → Int32) (g_size : Nat → Int32) (k : Int32 → Int32 → Option (Int32)) : Prop :=
  ∀ (x1 : Int32) (x2 : Int32) (res : Int32), k x1 x2 = some res → ∀ (H : Heap) (locs : List Loc) (ls : Array Slot), va_P D classes [(o, .inr (12, mo q z)), ((q 68), .inl (cy 0, 104448, .inl g_thing)), ((q 69), .inl (cy 1, 408, .inl g_size))] H → va_D A [(o, .inr (12, mo q z)), ((q 68), .inl (cy 0, 104448, .inl g_thing)), ((q 69), .inl (cy 1, 408, .inl g_size))] → va_S A s.heap H locs → lv_has ls 3 [(0, .ref o), (1, .int x1), (2, .int x2)] → W p l e rm_M_isTrue1 s m args below meth c H locs 0 0 (MQ below (q_M_isTrue1 D cy A o q z g_thing g_size res) args s 0 0 A) (F0 m 58 ls [])
def I_M_isTrue1_2 (p : Program) (l : Launch) (e : Env) (s : State) (m : MethodId) (args : Array Value) (below : List Frame) (meth : Method) (c : Code) (D : va_G) (cy : Nat → ClassId) (A : Nat → Prop) (ad : Nat → Nat) (o : Nat) (q : Nat → Nat) (z : Nat → Int32) (g_thing : Nat → Int32) (g_size : Nat → Int32) (k : Int32 → Int32 → Option (Int32)) : Prop :=
  ∀ (x1 : Int32) (x2 : Int32) (res : Int32), k x1 x2 = some res → ∀ (H : Heap) (locs : List Loc) (ls : Array Slot), va_P D classes [(o, .inr (12, mo q z)), ((q 68), .inl (cy 0, 104448, .inl g_thing)), ((q 69), .inl (cy 1, 408, .inl g_size))] H → va_D A [(o, .inr (12, mo q z)), ((q 68), .inl (cy 0, 104448, .inl g_thing)), ((q 69), .inl (cy 1, 408, .inl g_size))] → va_S A s.heap H locs → lv_has ls 3 [(0, .ref o), (1, .int x1), (2, .int x2)] → W p l e rm_M_isTrue1 s m args below meth c H locs 0 0 (MQ below (q_M_isTrue1 D cy A o q z g_thing g_size res) args s 0 0 A) (F0 m 2 ls [])
def I_M_isTrue1_e (p : Program) (l : Launch) (e : Env) (s : State) (m : MethodId) (args : Array Value) (below : List Frame) (meth : Method) (c : Code) (D : va_G) (cy : Nat → ClassId) (A : Nat → Prop) (ad : Nat → Nat) (o : Nat) (q : Nat → Nat) (z : Nat → Int32) (g_thing : Nat → Int32) (g_size : Nat → Int32) (k : Int32 → Option (Int32)) : Prop :=
  ∀ (a1 : Int32) (res : Int32), k a1 = some res → ∀ (H : Heap) (locs : List Loc) (ls : Array Slot), va_P D classes [(o, .inr (12, mo q z)), ((q 68), .inl (cy 0, 104448, .inl g_thing)), ((q 69), .inl (cy 1, 408, .inl g_size))] H → va_D A [(o, .inr (12, mo q z)), ((q 68), .inl (cy 0, 104448, .inl g_thing)), ((q 69), .inl (cy 1, 408, .inl g_size))] → va_S A s.heap H locs → lv_has ls 3 [(0, .ref o), (1, .int a1)] → W p l e rm_M_isTrue1 s m args below meth c H locs 0 0 (MQ below (q_M_isTrue1 D cy A o q z g_thing g_size res) args s 0 0 A) (F0 m 0 ls [])
set_option maxHeartbeats 8000000 in
set_option maxRecDepth 100000 in
theorem wb_M_isTrue1_58 {p : Program} {l : Launch} {e : Env} {s : State} {m : MethodId} {args : Array Value} {below : List Frame} {meth : Method} {c : Code} {D : va_G} {cy : Nat → ClassId} {A : Nat → Prop} {ad : Nat → Nat} {o : Nat} {q : Nat → Nat} {z : Nat → Int32} {g_thing : Nat → Int32} {g_size : Nat → Int32} {fu : Nat} {k_2 : Int32 → Int32 → Option (Int32)} (F : Fx p s m args meth c b_M_isTrue1 3 "CoinKeeperModel" "isTrue" (some .boolean) D cy ad A) (hk_2 : I_M_isTrue1_2 p l e s m args below meth c D cy A ad o q z g_thing g_size k_2) : I_M_isTrue1_58 p l e s m args below meth c D cy A ad o q z g_thing g_size (xb_M_isTrue1_58 fu z g_thing g_size k_2) := by
  obtain ⟨hx, hb, hr, hml, hown, hts, hlocks, hK, hA, hSt, hnm, hex⟩ := id F
  intro x1 x2 res hf H locs ls hP hD hS hl
  unfold xb_M_isTrue1_58 at hf
  obtain ⟨v1, ev, hf⟩ := bne hf
  refine lv_iinc (v := v1) (lv' := [(2, .int v1), (0, .ref o), (1, .int x1)]) hx hb d_M_isTrue1_58 hl (k := 2) rfl (by rw [ev]; rfl) (by decide) rfl (fun ls hl => ?_)
  clear ev
  refine lv_goto (tgt := 2) hx hb d_M_isTrue1_61 (by decide) ?_
  exact hk_2 _ _ _ hf _ _ _ hP hD hS (lv_sub hl [1, 2, 0] rfl)
set_option maxHeartbeats 8000000 in
set_option maxRecDepth 100000 in
theorem wb_M_isTrue1_2 {p : Program} {l : Launch} {e : Env} {s : State} {m : MethodId} {args : Array Value} {below : List Frame} {meth : Method} {c : Code} {D : va_G} {cy : Nat → ClassId} {A : Nat → Prop} {ad : Nat → Nat} {o : Nat} {q : Nat → Nat} {z : Nat → Int32} {g_thing : Nat → Int32} {g_size : Nat → Int32} {fu : Nat} {k_2 : Int32 → Int32 → Option (Int32)} (F : Fx p s m args meth c b_M_isTrue1 3 "CoinKeeperModel" "isTrue" (some .boolean) D cy ad A) (hk_2 : I_M_isTrue1_2 p l e s m args below meth c D cy A ad o q z g_thing g_size k_2) : I_M_isTrue1_2 p l e s m args below meth c D cy A ad o q z g_thing g_size (xb_M_isTrue1_2 fu z g_thing g_size k_2) := by
  obtain ⟨hx, hb, hr, hml, hown, hts, hlocks, hK, hA, hSt, hnm, hex⟩ := id F
  intro x1 x2 res hf H locs ls hP hD hS hl
  unfold xb_M_isTrue1_2 at hf
  refine lv_iload_n hx hb d_M_isTrue1_2 rfl (lv_at hl 2 rfl) ?_
  refine lv_aload_n hx hb d_M_isTrue1_3 rfl (lv_at hl 0 rfl) ?_
  refine va_get (D := D) (ci := 12) (v := .ref (q 69)) (C := "CoinKeeperModel") (T := F_12) (N := 98) hx hb hts i_12 hown hK hP 0 rfl rfl 78 (by decide) (hts _ gw_1497) (fun _ h9 => h9) rfl d_M_isTrue1_4 ?_
  refine lv_iload_n hx hb d_M_isTrue1_7 rfl (lv_at hl 1 rfl) ?_
  obtain ⟨hg, hf⟩ := gdp hf
  refine va_iald hx hb hK hP 2 1 rfl rfl (inb_in hg) d_M_isTrue1_8 ?_
  refine lv_topi (fun v1 ev => ?_)
  have hf := bn ev hf
  clear ev
  refine lv_icmp_ge (tgt := 64) hx hb d_M_isTrue1_9 (by decide) (fun cx => ?_) (fun cx => ?_)
  · have hf := ifp cx hf
    refine lv_iconst (v := 0) hx hb d_M_isTrue1_64 (by decide) ?_
    obtain rfl := Option.some.inj hf
    exact q_rz hx hb hr hlocks hK hP hD hS (isb_n (v := 0) (by decide)) d_M_isTrue1_65
  · have hf := ifn cx hf
    refine lv_aload_n hx hb d_M_isTrue1_12 rfl (lv_at hl 0 rfl) ?_
    refine va_get (D := D) (ci := 12) (v := .ref (q 68)) (C := "CoinKeeperModel") (T := F_12) (N := 98) hx hb hts i_12 hown hK hP 0 rfl rfl 77 (by decide) (hts _ gw_1496) (fun _ h9 => h9) rfl d_M_isTrue1_13 ?_
    refine lv_sipush (v := 256) hx hb d_M_isTrue1_16 (by decide) ?_
    refine lv_iload_n hx hb d_M_isTrue1_19 rfl (lv_at hl 1 rfl) ?_
    refine lv_imul hx hb d_M_isTrue1_20 ?_
    refine lv_topi (fun v2 ev => ?_)
    have hf := bn ev hf
    clear ev
    refine lv_iload_n hx hb d_M_isTrue1_21 rfl (lv_at hl 2 rfl) ?_
    refine lv_iadd hx hb d_M_isTrue1_22 ?_
    refine lv_topi (fun v3 ev => ?_)
    have hf := bn ev hf
    clear ev
    obtain ⟨hg, hf⟩ := gdp hf
    refine va_bald hx hb hK hP 1 0 rfl rfl (inb_in hg) d_M_isTrue1_23 ?_
    refine lv_topi (fun v4 ev => ?_)
    have hf := bn ev hf
    clear ev
    refine lv_if_eq (tgt := 58) hx hb d_M_isTrue1_24 (by decide) (fun cx => ?_) (fun cx => ?_)
    · have hf := ifp cx hf
      exact wb_M_isTrue1_58 (fu := fu) F hk_2 _ _ _ hf _ _ _ hP hD hS (lv_sub hl [0, 1, 2] rfl)
    · have hf := ifn cx hf
      refine lv_iload_n hx hb d_M_isTrue1_27 rfl (lv_at hl 2 rfl) ?_
      refine lv_aload_n hx hb d_M_isTrue1_28 rfl (lv_at hl 0 rfl) ?_
      refine va_get (D := D) (ci := 12) (v := .ref (q 69)) (C := "CoinKeeperModel") (T := F_12) (N := 98) hx hb hts i_12 hown hK hP 0 rfl rfl 78 (by decide) (hts _ gw_1497) (fun _ h9 => h9) rfl d_M_isTrue1_29 ?_
      refine lv_iload_n hx hb d_M_isTrue1_32 rfl (lv_at hl 1 rfl) ?_
      obtain ⟨hg, hf⟩ := gdp hf
      refine va_iald hx hb hK hP 2 1 rfl rfl (inb_in hg) d_M_isTrue1_33 ?_
      refine lv_topi (fun v5 ev => ?_)
      have hf := bn ev hf
      clear ev
      refine lv_iconst (v := 1) hx hb d_M_isTrue1_34 (by decide) ?_
      refine lv_isub hx hb d_M_isTrue1_35 ?_
      refine lv_icmp_ne (tgt := 56) hx hb d_M_isTrue1_36 (by decide) (fun cx => ?_) (fun cx => ?_)
      · have hf := ifn cx hf
        refine lv_iconst (v := 1) hx hb d_M_isTrue1_56 (by decide) ?_
        obtain rfl := Option.some.inj hf
        exact q_rz hx hb hr hlocks hK hP hD hS (isb_n (v := 1) (by decide)) d_M_isTrue1_57
      · have hf := ifp cx hf
        refine lv_aload_n hx hb d_M_isTrue1_39 rfl (lv_at hl 0 rfl) ?_
        refine va_get (D := D) (ci := 12) (v := .ref (q 68)) (C := "CoinKeeperModel") (T := F_12) (N := 98) hx hb hts i_12 hown hK hP 0 rfl rfl 77 (by decide) (hts _ gw_1496) (fun _ h9 => h9) rfl d_M_isTrue1_40 ?_
        refine lv_sipush (v := 256) hx hb d_M_isTrue1_43 (by decide) ?_
        refine lv_iload_n hx hb d_M_isTrue1_46 rfl (lv_at hl 1 rfl) ?_
        refine lv_imul hx hb d_M_isTrue1_47 ?_
        refine lv_topi (fun v6 ev => ?_)
        have hf := bn ev hf
        clear ev
        refine lv_iload_n hx hb d_M_isTrue1_48 rfl (lv_at hl 2 rfl) ?_
        refine lv_iadd hx hb d_M_isTrue1_49 ?_
        refine lv_topi (fun v7 ev => ?_)
        have hf := bn ev hf
        clear ev
        obtain ⟨hg, hf⟩ := gdp hf
        refine va_bald hx hb hK hP 1 0 rfl rfl (inb_in hg) d_M_isTrue1_50 ?_
        refine lv_topi (fun v8 ev => ?_)
        have hf := bn ev hf
        clear ev
        refine lv_bipush (v := (-128)) hx hb d_M_isTrue1_51 (by decide) ?_
        refine lv_icmp_eq (tgt := 58) hx hb d_M_isTrue1_53 (by decide) (fun cx => ?_) (fun cx => ?_)
        · have hf := ifp cx hf
          exact wb_M_isTrue1_58 (fu := fu) F hk_2 _ _ _ hf _ _ _ hP hD hS (lv_sub hl [0, 1, 2] rfl)
        · have hf := ifn cx hf
          refine lv_iconst (v := 1) hx hb d_M_isTrue1_56 (by decide) ?_
          obtain rfl := Option.some.inj hf
          exact q_rz hx hb hr hlocks hK hP hD hS (isb_n (v := 1) (by decide)) d_M_isTrue1_57
theorem w_M_isTrue1_2 {p : Program} {l : Launch} {e : Env} {s : State} {m : MethodId} {args : Array Value} {below : List Frame} {meth : Method} {c : Code} {D : va_G} {cy : Nat → ClassId} {A : Nat → Prop} {ad : Nat → Nat} {o : Nat} {q : Nat → Nat} {z : Nat → Int32} {g_thing : Nat → Int32} {g_size : Nat → Int32} {fu : Nat} (F : Fx p s m args meth c b_M_isTrue1 3 "CoinKeeperModel" "isTrue" (some .boolean) D cy ad A) : ∀ n : Nat, I_M_isTrue1_2 p l e s m args below meth c D cy A ad o q z g_thing g_size (x_M_isTrue1_2 fu z g_thing g_size n)
  | 0 => fun _ _ _ hf => nomatch (show (none : Option (Int32)) = some _ from hf)
  | n + 1 => wb_M_isTrue1_2 F (w_M_isTrue1_2 F n)
set_option maxHeartbeats 8000000 in
set_option maxRecDepth 100000 in
theorem we_M_isTrue1 {p : Program} {l : Launch} {e : Env} {s : State} {m : MethodId} {args : Array Value} {below : List Frame} {meth : Method} {c : Code} {D : va_G} {cy : Nat → ClassId} {A : Nat → Prop} {ad : Nat → Nat} {o : Nat} {q : Nat → Nat} {z : Nat → Int32} {g_thing : Nat → Int32} {g_size : Nat → Int32} {fu : Nat} (F : Fx p s m args meth c b_M_isTrue1 3 "CoinKeeperModel" "isTrue" (some .boolean) D cy ad A) : I_M_isTrue1_e p l e s m args below meth c D cy A ad o q z g_thing g_size (x_M_isTrue1 fu z g_thing g_size) := by
  obtain ⟨hx, hb, hr, hml, hown, hts, hlocks, hK, hA, hSt, hnm, hex⟩ := id F
  intro a1 res hf H locs ls hP hD hS hl
  unfold x_M_isTrue1 at hf
  refine lv_iconst (v := 0) hx hb d_M_isTrue1_0 (by decide) ?_
  refine lv_istore_n (lv' := [(2, .int (0 : Int32)), (0, .ref o), (1, .int a1)]) hx hb d_M_isTrue1_1 rfl hl (by decide) rfl (fun ls hl => ?_)
  exact w_M_isTrue1_2 F fu _ _ _ hf _ _ _ hP hD hS (lv_sub hl [1, 2, 0] rfl)
theorem c_M_isTrue1 (l : Launch) (D : va_G) (cy : Nat → ClassId) (ad : Nat → Nat) (fu : Nat) (o : Nat) (q : Nat → Nat) (z : Nat → Int32) (g_thing : Nat → Int32) (g_size : Nat → Int32) (a1 : Int32) (res : Int32) (hf : x_M_isTrue1 fu z g_thing g_size a1 = some res) (sz : Nat) : Met l ({ cls := "CoinKeeperModel", name := "isTrue", desc := "(I)Z" } : Jvm.MethodName) (.code ({ cls := "CoinKeeperModel", name := "isTrue", desc := "(I)Z" } : Jvm.MethodName) b_M_isTrue1 3 (some .boolean) :: gw) rm_M_isTrue1 (va_Pc [.ref o, .int a1] (Pr D cy ad [(o, .inr (12, mo q z)), ((q 68), .inl (cy 0, 104448, .inl g_thing)), ((q 69), .inl (cy 1, 408, .inl g_size))] sz)) (q_M_isTrue1 D cy (va_A [(o, .inr (12, mo q z)), ((q 68), .inl (cy 0, 104448, .inl g_thing)), ((q 69), .inl (cy 1, 408, .inl g_size))] sz) o q z g_thing g_size res) 0 0 (va_A [(o, .inr (12, mo q z)), ((q 68), .inl (cy 0, 104448, .inl g_thing)), ((q 69), .inl (cy 1, 408, .inl g_size))] sz) :=
  q_met (Qc := fun A => q_M_isTrue1 D cy A o q z g_thing g_size res) (by decide) rfl rfl (Nat.le_of_ble_eq_true rfl) (fun p e s m below meth c ls F hP hD hS hl => we_M_isTrue1 (fu := fu) F a1 res hf _ _ _ hP hD hS hl) sz
abbrev b_M_has : ByteArray := prog_14_method_49_code
theorem d_M_has_0 : decode b_M_has 0 = .ok (.aload_n 0, 1) := by decide +kernel
theorem d_M_has_1 : decode b_M_has 1 = .ok (.getfield 439, 3) := by decide +kernel
theorem d_M_has_4 : decode b_M_has 4 = .ok (.iload_n 1, 1) := by decide +kernel
theorem d_M_has_5 : decode b_M_has 5 = .ok (.if_icmp .lt 7, 3) := by decide +kernel
theorem d_M_has_8 : decode b_M_has 8 = .ok (.iconst 1, 1) := by decide +kernel
theorem d_M_has_9 : decode b_M_has 9 = .ok (.goto 4, 3) := by decide +kernel
theorem d_M_has_12 : decode b_M_has 12 = .ok (.iconst 0, 1) := by decide +kernel
theorem d_M_has_13 : decode b_M_has 13 = .ok (.ireturn, 1) := by decide +kernel
abbrev rm_M_has : Room := { frames := 0, cells := 0, slots := 0, locals := 0 }
abbrev q_M_has (D : va_G) (cy : Nat → ClassId) (A : Nat → Prop) (o : Nat) (q : Nat → Nat) (z : Nat → Int32) (res : Int32) : Array Value → State → Outcome → State → Prop := va_Qi (fun r' (_ : Unit) => r' = res) (fun _ t => Po D cy A [(o, .inr (12, mo q z))] t) A
def I_M_has_e (p : Program) (l : Launch) (e : Env) (s : State) (m : MethodId) (args : Array Value) (below : List Frame) (meth : Method) (c : Code) (D : va_G) (cy : Nat → ClassId) (A : Nat → Prop) (ad : Nat → Nat) (o : Nat) (q : Nat → Nat) (z : Nat → Int32) (k : Int32 → Option (Int32)) : Prop :=
  ∀ (a1 : Int32) (res : Int32), k a1 = some res → ∀ (H : Heap) (locs : List Loc) (ls : Array Slot), va_P D classes [(o, .inr (12, mo q z))] H → va_D A [(o, .inr (12, mo q z))] → va_S A s.heap H locs → lv_has ls 2 [(0, .ref o), (1, .int a1)] → W p l e rm_M_has s m args below meth c H locs 0 0 (MQ below (q_M_has D cy A o q z res) args s 0 0 A) (F0 m 0 ls [])
set_option maxHeartbeats 8000000 in
set_option maxRecDepth 100000 in
theorem we_M_has {p : Program} {l : Launch} {e : Env} {s : State} {m : MethodId} {args : Array Value} {below : List Frame} {meth : Method} {c : Code} {D : va_G} {cy : Nat → ClassId} {A : Nat → Prop} {ad : Nat → Nat} {o : Nat} {q : Nat → Nat} {z : Nat → Int32} {fu : Nat} (F : Fx p s m args meth c b_M_has 2 "CoinKeeperModel" "has" (some .boolean) D cy ad A) : I_M_has_e p l e s m args below meth c D cy A ad o q z (x_M_has fu z) := by
  obtain ⟨hx, hb, hr, hml, hown, hts, hlocks, hK, hA, hSt, hnm, hex⟩ := id F
  intro a1 res hf H locs ls hP hD hS hl
  unfold x_M_has at hf
  refine lv_aload_n hx hb d_M_has_0 rfl (lv_at hl 0 rfl) ?_
  refine va_get (D := D) (ci := 12) (v := .int (z 9)) (C := "CoinKeeperModel") (T := F_12) (N := 98) hx hb hts i_12 hown hK hP 0 rfl rfl 79 (by decide) (hts _ gw_1498) (fun _ h9 => h9) rfl d_M_has_1 ?_
  refine lv_iload_n hx hb d_M_has_4 rfl (lv_at hl 1 rfl) ?_
  refine lv_icmp_lt (tgt := 12) hx hb d_M_has_5 (by decide) (fun cx => ?_) (fun cx => ?_)
  · have hf := ifp cx hf
    refine lv_iconst (v := 0) hx hb d_M_has_12 (by decide) ?_
    obtain rfl := Option.some.inj hf
    exact q_rz hx hb hr hlocks hK hP hD hS (isb_n (v := 0) (by decide)) d_M_has_13
  · have hf := ifn cx hf
    refine lv_iconst (v := 1) hx hb d_M_has_8 (by decide) ?_
    refine lv_goto (tgt := 13) hx hb d_M_has_9 (by decide) ?_
    obtain rfl := Option.some.inj hf
    exact q_rz hx hb hr hlocks hK hP hD hS (isb_n (v := 1) (by decide)) d_M_has_13
theorem c_M_has (l : Launch) (D : va_G) (cy : Nat → ClassId) (ad : Nat → Nat) (fu : Nat) (o : Nat) (q : Nat → Nat) (z : Nat → Int32) (a1 : Int32) (res : Int32) (hf : x_M_has fu z a1 = some res) (sz : Nat) : Met l ({ cls := "CoinKeeperModel", name := "has", desc := "(I)Z" } : Jvm.MethodName) (.code ({ cls := "CoinKeeperModel", name := "has", desc := "(I)Z" } : Jvm.MethodName) b_M_has 2 (some .boolean) :: gw) rm_M_has (va_Pc [.ref o, .int a1] (Pr D cy ad [(o, .inr (12, mo q z))] sz)) (q_M_has D cy (va_A [(o, .inr (12, mo q z))] sz) o q z res) 0 0 (va_A [(o, .inr (12, mo q z))] sz) :=
  q_met (Qc := fun A => q_M_has D cy A o q z res) (by decide) rfl rfl (Nat.le_of_ble_eq_true rfl) (fun p e s m below meth c ls F hP hD hS hl => we_M_has (fu := fu) F a1 res hf _ _ _ hP hD hS hl) sz
abbrev b_M_numberAt : ByteArray := prog_14_method_46_code
theorem d_M_numberAt_0 : decode b_M_numberAt 0 = .ok (.lconst 0, 1) := by decide +kernel
theorem d_M_numberAt_1 : decode b_M_numberAt 1 = .ok (.lstore_n 2, 1) := by decide +kernel
theorem d_M_numberAt_2 : decode b_M_numberAt 2 = .ok (.aload_n 0, 1) := by decide +kernel
theorem d_M_numberAt_3 : decode b_M_numberAt 3 = .ok (.getfield 224, 3) := by decide +kernel
theorem d_M_numberAt_6 : decode b_M_numberAt 6 = .ok (.iload_n 1, 1) := by decide +kernel
theorem d_M_numberAt_7 : decode b_M_numberAt 7 = .ok (.iaload, 1) := by decide +kernel
theorem d_M_numberAt_8 : decode b_M_numberAt 8 = .ok (.istore 4, 2) := by decide +kernel
theorem d_M_numberAt_10 : decode b_M_numberAt 10 = .ok (.iload 4, 2) := by decide +kernel
theorem d_M_numberAt_12 : decode b_M_numberAt 12 = .ok (.ifCond .ne 5, 3) := by decide +kernel
theorem d_M_numberAt_15 : decode b_M_numberAt 15 = .ok (.lconst 0, 1) := by decide +kernel
theorem d_M_numberAt_16 : decode b_M_numberAt 16 = .ok (.lreturn, 1) := by decide +kernel
theorem d_M_numberAt_17 : decode b_M_numberAt 17 = .ok (.iconst 0, 1) := by decide +kernel
theorem d_M_numberAt_18 : decode b_M_numberAt 18 = .ok (.istore 5, 2) := by decide +kernel
theorem d_M_numberAt_20 : decode b_M_numberAt 20 = .ok (.iload 5, 2) := by decide +kernel
theorem d_M_numberAt_22 : decode b_M_numberAt 22 = .ok (.iload 4, 2) := by decide +kernel
theorem d_M_numberAt_24 : decode b_M_numberAt 24 = .ok (.if_icmp .ge 36, 3) := by decide +kernel
theorem d_M_numberAt_27 : decode b_M_numberAt 27 = .ok (.lload_n 2, 1) := by decide +kernel
theorem d_M_numberAt_28 : decode b_M_numberAt 28 = .ok (.aload_n 0, 1) := by decide +kernel
theorem d_M_numberAt_29 : decode b_M_numberAt 29 = .ok (.getfield 221, 3) := by decide +kernel
theorem d_M_numberAt_32 : decode b_M_numberAt 32 = .ok (.sipush 256, 3) := by decide +kernel
theorem d_M_numberAt_35 : decode b_M_numberAt 35 = .ok (.iload_n 1, 1) := by decide +kernel
theorem d_M_numberAt_36 : decode b_M_numberAt 36 = .ok (.imul, 1) := by decide +kernel
theorem d_M_numberAt_37 : decode b_M_numberAt 37 = .ok (.iload 5, 2) := by decide +kernel
theorem d_M_numberAt_39 : decode b_M_numberAt 39 = .ok (.iadd, 1) := by decide +kernel
theorem d_M_numberAt_40 : decode b_M_numberAt 40 = .ok (.baload, 1) := by decide +kernel
theorem d_M_numberAt_41 : decode b_M_numberAt 41 = .ok (.i2l, 1) := by decide +kernel
theorem d_M_numberAt_42 : decode b_M_numberAt 42 = .ok (.ldc2_w 446, 3) := by decide +kernel
theorem d_M_numberAt_45 : decode b_M_numberAt 45 = .ok (.land, 1) := by decide +kernel
theorem d_M_numberAt_46 : decode b_M_numberAt 46 = .ok (.bipush 8, 2) := by decide +kernel
theorem d_M_numberAt_48 : decode b_M_numberAt 48 = .ok (.iload 5, 2) := by decide +kernel
theorem d_M_numberAt_50 : decode b_M_numberAt 50 = .ok (.imul, 1) := by decide +kernel
theorem d_M_numberAt_51 : decode b_M_numberAt 51 = .ok (.lshl, 1) := by decide +kernel
theorem d_M_numberAt_52 : decode b_M_numberAt 52 = .ok (.lor, 1) := by decide +kernel
theorem d_M_numberAt_53 : decode b_M_numberAt 53 = .ok (.lstore_n 2, 1) := by decide +kernel
theorem d_M_numberAt_54 : decode b_M_numberAt 54 = .ok (.iinc 5 1, 3) := by decide +kernel
theorem d_M_numberAt_57 : decode b_M_numberAt 57 = .ok (.goto (-37), 3) := by decide +kernel
theorem d_M_numberAt_60 : decode b_M_numberAt 60 = .ok (.lload_n 2, 1) := by decide +kernel
theorem d_M_numberAt_61 : decode b_M_numberAt 61 = .ok (.bipush 8, 2) := by decide +kernel
theorem d_M_numberAt_63 : decode b_M_numberAt 63 = .ok (.iload 4, 2) := by decide +kernel
theorem d_M_numberAt_65 : decode b_M_numberAt 65 = .ok (.imul, 1) := by decide +kernel
theorem d_M_numberAt_66 : decode b_M_numberAt 66 = .ok (.iconst 1, 1) := by decide +kernel
theorem d_M_numberAt_67 : decode b_M_numberAt 67 = .ok (.isub, 1) := by decide +kernel
theorem d_M_numberAt_68 : decode b_M_numberAt 68 = .ok (.lshr, 1) := by decide +kernel
theorem d_M_numberAt_69 : decode b_M_numberAt 69 = .ok (.lconst 1, 1) := by decide +kernel
theorem d_M_numberAt_70 : decode b_M_numberAt 70 = .ok (.land, 1) := by decide +kernel
theorem d_M_numberAt_71 : decode b_M_numberAt 71 = .ok (.lconst 1, 1) := by decide +kernel
theorem d_M_numberAt_72 : decode b_M_numberAt 72 = .ok (.lcmp, 1) := by decide +kernel
theorem d_M_numberAt_73 : decode b_M_numberAt 73 = .ok (.ifCond .ne 22, 3) := by decide +kernel
theorem d_M_numberAt_76 : decode b_M_numberAt 76 = .ok (.lload_n 2, 1) := by decide +kernel
theorem d_M_numberAt_77 : decode b_M_numberAt 77 = .ok (.lconst 1, 1) := by decide +kernel
theorem d_M_numberAt_78 : decode b_M_numberAt 78 = .ok (.bipush 8, 2) := by decide +kernel
theorem d_M_numberAt_80 : decode b_M_numberAt 80 = .ok (.iload 4, 2) := by decide +kernel
theorem d_M_numberAt_82 : decode b_M_numberAt 82 = .ok (.imul, 1) := by decide +kernel
theorem d_M_numberAt_83 : decode b_M_numberAt 83 = .ok (.iconst 1, 1) := by decide +kernel
theorem d_M_numberAt_84 : decode b_M_numberAt 84 = .ok (.isub, 1) := by decide +kernel
theorem d_M_numberAt_85 : decode b_M_numberAt 85 = .ok (.lshl, 1) := by decide +kernel
theorem d_M_numberAt_86 : decode b_M_numberAt 86 = .ok (.ldc2_w 448, 3) := by decide +kernel
theorem d_M_numberAt_89 : decode b_M_numberAt 89 = .ok (.lxor, 1) := by decide +kernel
theorem d_M_numberAt_90 : decode b_M_numberAt 90 = .ok (.land, 1) := by decide +kernel
theorem d_M_numberAt_91 : decode b_M_numberAt 91 = .ok (.lneg, 1) := by decide +kernel
theorem d_M_numberAt_92 : decode b_M_numberAt 92 = .ok (.goto 4, 3) := by decide +kernel
theorem d_M_numberAt_95 : decode b_M_numberAt 95 = .ok (.lload_n 2, 1) := by decide +kernel
theorem d_M_numberAt_96 : decode b_M_numberAt 96 = .ok (.lreturn, 1) := by decide +kernel
abbrev rm_M_numberAt : Room := { frames := 0, cells := 0, slots := 0, locals := 0 }
abbrev q_M_numberAt (D : va_G) (cy : Nat → ClassId) (A : Nat → Prop) (o : Nat) (q : Nat → Nat) (z : Nat → Int32) (g_thing : Nat → Int32) (g_size : Nat → Int32) (res : Int64) : Array Value → State → Outcome → State → Prop := va_Ql (fun r' (_ : Unit) => r' = res) (fun _ t => Po D cy A [(o, .inr (12, mo q z)), ((q 68), .inl (cy 0, 104448, .inl g_thing)), ((q 69), .inl (cy 1, 408, .inl g_size))] t) A
def I_M_numberAt_20 (p : Program) (l : Launch) (e : Env) (s : State) (m : MethodId) (args : Array Value) (below : List Frame) (meth : Method) (c : Code) (D : va_G) (cy : Nat → ClassId) (A : Nat → Prop) (ad : Nat → Nat) (o : Nat) (q : Nat → Nat) (z : Nat → Int32) (g_thing : Nat → Int32) (g_size : Nat → Int32) (k : Int32 → Int64 → Int32 → Int32 → Option (Int64)) : Prop :=
  ∀ (x1 : Int32) (x2 : Int64) (x4 : Int32) (x5 : Int32) (res : Int64), k x1 x2 x4 x5 = some res → ∀ (H : Heap) (locs : List Loc) (ls : Array Slot), va_P D classes [(o, .inr (12, mo q z)), ((q 68), .inl (cy 0, 104448, .inl g_thing)), ((q 69), .inl (cy 1, 408, .inl g_size))] H → va_D A [(o, .inr (12, mo q z)), ((q 68), .inl (cy 0, 104448, .inl g_thing)), ((q 69), .inl (cy 1, 408, .inl g_size))] → va_S A s.heap H locs → lv_has ls 6 [(0, .ref o), (1, .int x1), (2, .long x2), (4, .int x4), (5, .int x5)] → W p l e rm_M_numberAt s m args below meth c H locs 0 0 (MQ below (q_M_numberAt D cy A o q z g_thing g_size res) args s 0 0 A) (F0 m 20 ls [])
def I_M_numberAt_e (p : Program) (l : Launch) (e : Env) (s : State) (m : MethodId) (args : Array Value) (below : List Frame) (meth : Method) (c : Code) (D : va_G) (cy : Nat → ClassId) (A : Nat → Prop) (ad : Nat → Nat) (o : Nat) (q : Nat → Nat) (z : Nat → Int32) (g_thing : Nat → Int32) (g_size : Nat → Int32) (k : Int32 → Option (Int64)) : Prop :=
  ∀ (a1 : Int32) (res : Int64), k a1 = some res → ∀ (H : Heap) (locs : List Loc) (ls : Array Slot), va_P D classes [(o, .inr (12, mo q z)), ((q 68), .inl (cy 0, 104448, .inl g_thing)), ((q 69), .inl (cy 1, 408, .inl g_size))] H → va_D A [(o, .inr (12, mo q z)), ((q 68), .inl (cy 0, 104448, .inl g_thing)), ((q 69), .inl (cy 1, 408, .inl g_size))] → va_S A s.heap H locs → lv_has ls 6 [(0, .ref o), (1, .int a1)] → W p l e rm_M_numberAt s m args below meth c H locs 0 0 (MQ below (q_M_numberAt D cy A o q z g_thing g_size res) args s 0 0 A) (F0 m 0 ls [])
set_option maxHeartbeats 8000000 in
set_option maxRecDepth 100000 in
theorem wb_M_numberAt_20 {p : Program} {l : Launch} {e : Env} {s : State} {m : MethodId} {args : Array Value} {below : List Frame} {meth : Method} {c : Code} {D : va_G} {cy : Nat → ClassId} {A : Nat → Prop} {ad : Nat → Nat} {o : Nat} {q : Nat → Nat} {z : Nat → Int32} {g_thing : Nat → Int32} {g_size : Nat → Int32} {fu : Nat} {k_20 : Int32 → Int64 → Int32 → Int32 → Option (Int64)} (F : Fx p s m args meth c b_M_numberAt 6 "CoinKeeperModel" "numberAt" (some .long) D cy ad A) (hk_20 : I_M_numberAt_20 p l e s m args below meth c D cy A ad o q z g_thing g_size k_20) : I_M_numberAt_20 p l e s m args below meth c D cy A ad o q z g_thing g_size (xb_M_numberAt_20 fu z g_thing g_size k_20) := by
  obtain ⟨hx, hb, hr, hml, hown, hts, hlocks, hK, hA, hSt, hnm, hex⟩ := id F
  intro x1 x2 x4 x5 res hf H locs ls hP hD hS hl
  unfold xb_M_numberAt_20 at hf
  refine lv_iload hx hb d_M_numberAt_20 (lv_at hl 4 rfl) ?_
  refine lv_iload hx hb d_M_numberAt_22 (lv_at hl 3 rfl) ?_
  refine lv_icmp_ge (tgt := 60) hx hb d_M_numberAt_24 (by decide) (fun cx => ?_) (fun cx => ?_)
  · have hf := ifp cx hf
    refine lv_lload_n hx hb d_M_numberAt_60 rfl (lv_at hl 2 rfl) ?_
    refine lv_bipush (v := 8) hx hb d_M_numberAt_61 (by decide) ?_
    refine lv_iload hx hb d_M_numberAt_63 (lv_at hl 3 rfl) ?_
    refine lv_imul hx hb d_M_numberAt_65 ?_
    refine lv_topi (fun v1 ev => ?_)
    have hf := bn ev hf
    clear ev
    refine lv_iconst (v := 1) hx hb d_M_numberAt_66 (by decide) ?_
    refine lv_isub hx hb d_M_numberAt_67 ?_
    refine lv_lshr hx hb d_M_numberAt_68 rfl ?_
    refine lv_topl (fun v2 ev => ?_)
    have hf := bn ev hf
    clear ev
    refine lv_lconst (v := 1) hx hb d_M_numberAt_69 (by decide) ?_
    refine lv_land hx hb d_M_numberAt_70 ?_
    refine lv_topl (fun v3 ev => ?_)
    have hf := bn ev hf
    clear ev
    refine lv_lconst (v := 1) hx hb d_M_numberAt_71 (by decide) ?_
    refine W.lcmp hx hb d_M_numberAt_72 ?_
    refine lv_if_ne (tgt := 95) hx hb d_M_numberAt_73 (by decide) (fun cx => ?_) (fun cx => ?_)
    · have hf := ifn cx hf
      refine lv_lload_n hx hb d_M_numberAt_95 rfl (lv_at hl 2 rfl) ?_
      obtain rfl := Option.some.inj hf
      exact q_rl hx hb hr hlocks hK hP hD hS d_M_numberAt_96
    · have hf := ifp cx hf
      refine lv_lload_n hx hb d_M_numberAt_76 rfl (lv_at hl 2 rfl) ?_
      refine lv_lconst (v := 1) hx hb d_M_numberAt_77 (by decide) ?_
      refine lv_bipush (v := 8) hx hb d_M_numberAt_78 (by decide) ?_
      refine lv_iload hx hb d_M_numberAt_80 (lv_at hl 3 rfl) ?_
      refine lv_imul hx hb d_M_numberAt_82 ?_
      refine lv_topi (fun v4 ev => ?_)
      have hf := bn ev hf
      clear ev
      refine lv_iconst (v := 1) hx hb d_M_numberAt_83 (by decide) ?_
      refine lv_isub hx hb d_M_numberAt_84 ?_
      refine lv_lshl hx hb d_M_numberAt_85 rfl ?_
      refine lv_topl (fun v5 ev => ?_)
      have hf := bn ev hf
      clear ev
      refine lv_ldc2 (v := (-1)) hx hb hown (hts _ gw_1899) d_M_numberAt_86 ?_
      refine lv_lxor hx hb d_M_numberAt_89 ?_
      refine lv_land hx hb d_M_numberAt_90 ?_
      refine lv_lneg hx hb d_M_numberAt_91 ?_
      refine lv_goto (tgt := 96) hx hb d_M_numberAt_92 (by decide) ?_
      refine lv_topl (fun v6 ev => ?_)
      have hf := bn ev hf
      clear ev
      obtain rfl := Option.some.inj hf
      exact q_rl hx hb hr hlocks hK hP hD hS d_M_numberAt_96
  · have hf := ifn cx hf
    refine lv_lload_n hx hb d_M_numberAt_27 rfl (lv_at hl 2 rfl) ?_
    refine lv_aload_n hx hb d_M_numberAt_28 rfl (lv_at hl 0 rfl) ?_
    refine va_get (D := D) (ci := 12) (v := .ref (q 68)) (C := "CoinKeeperModel") (T := F_12) (N := 98) hx hb hts i_12 hown hK hP 0 rfl rfl 77 (by decide) (hts _ gw_1496) (fun _ h9 => h9) rfl d_M_numberAt_29 ?_
    refine lv_sipush (v := 256) hx hb d_M_numberAt_32 (by decide) ?_
    refine lv_iload_n hx hb d_M_numberAt_35 rfl (lv_at hl 1 rfl) ?_
    refine lv_imul hx hb d_M_numberAt_36 ?_
    refine lv_topi (fun v7 ev => ?_)
    have hf := bn ev hf
    clear ev
    refine lv_iload hx hb d_M_numberAt_37 (lv_at hl 4 rfl) ?_
    refine lv_iadd hx hb d_M_numberAt_39 ?_
    refine lv_topi (fun v8 ev => ?_)
    have hf := bn ev hf
    clear ev
    obtain ⟨hg, hf⟩ := gdp hf
    refine va_bald hx hb hK hP 1 0 rfl rfl (inb_in hg) d_M_numberAt_40 ?_
    refine lv_topi (fun v9 ev => ?_)
    have hf := bn ev hf
    clear ev
    refine lv_i2l hx hb d_M_numberAt_41 rfl ?_
    refine lv_topl (fun v10 ev => ?_)
    have hf := bn ev hf
    clear ev
    refine lv_ldc2 (v := 255) hx hb hown (hts _ gw_1898) d_M_numberAt_42 ?_
    refine lv_land hx hb d_M_numberAt_45 ?_
    refine lv_topl (fun v11 ev => ?_)
    have hf := bn ev hf
    clear ev
    refine lv_bipush (v := 8) hx hb d_M_numberAt_46 (by decide) ?_
    refine lv_iload hx hb d_M_numberAt_48 (lv_at hl 4 rfl) ?_
    refine lv_imul hx hb d_M_numberAt_50 ?_
    refine lv_lshl hx hb d_M_numberAt_51 rfl ?_
    refine lv_lor hx hb d_M_numberAt_52 ?_
    refine lv_topl (fun v12 ev => ?_)
    have hf := bn ev hf
    clear ev
    refine lv_lstore_n (lv' := [(2, .long v12), (0, .ref o), (1, .int x1), (4, .int x4), (5, .int x5)]) hx hb d_M_numberAt_53 rfl hl (by decide) rfl (fun ls hl => ?_)
    obtain ⟨v13, ev, hf⟩ := bne hf
    refine lv_iinc (v := v13) (lv' := [(5, .int v13), (2, .long v12), (0, .ref o), (1, .int x1), (4, .int x4)]) hx hb d_M_numberAt_54 hl (k := 4) rfl (by rw [ev]; rfl) (by decide) rfl (fun ls hl => ?_)
    clear ev
    refine lv_goto (tgt := 20) hx hb d_M_numberAt_57 (by decide) ?_
    exact hk_20 _ _ _ _ _ hf _ _ _ hP hD hS (lv_sub hl [2, 3, 1, 4, 0] rfl)
theorem w_M_numberAt_20 {p : Program} {l : Launch} {e : Env} {s : State} {m : MethodId} {args : Array Value} {below : List Frame} {meth : Method} {c : Code} {D : va_G} {cy : Nat → ClassId} {A : Nat → Prop} {ad : Nat → Nat} {o : Nat} {q : Nat → Nat} {z : Nat → Int32} {g_thing : Nat → Int32} {g_size : Nat → Int32} {fu : Nat} (F : Fx p s m args meth c b_M_numberAt 6 "CoinKeeperModel" "numberAt" (some .long) D cy ad A) : ∀ n : Nat, I_M_numberAt_20 p l e s m args below meth c D cy A ad o q z g_thing g_size (x_M_numberAt_20 fu z g_thing g_size n)
  | 0 => fun _ _ _ _ _ hf => nomatch (show (none : Option (Int64)) = some _ from hf)
  | n + 1 => wb_M_numberAt_20 F (w_M_numberAt_20 F n)
set_option maxHeartbeats 8000000 in
set_option maxRecDepth 100000 in
theorem we_M_numberAt {p : Program} {l : Launch} {e : Env} {s : State} {m : MethodId} {args : Array Value} {below : List Frame} {meth : Method} {c : Code} {D : va_G} {cy : Nat → ClassId} {A : Nat → Prop} {ad : Nat → Nat} {o : Nat} {q : Nat → Nat} {z : Nat → Int32} {g_thing : Nat → Int32} {g_size : Nat → Int32} {fu : Nat} (F : Fx p s m args meth c b_M_numberAt 6 "CoinKeeperModel" "numberAt" (some .long) D cy ad A) : I_M_numberAt_e p l e s m args below meth c D cy A ad o q z g_thing g_size (x_M_numberAt fu z g_thing g_size) := by
  obtain ⟨hx, hb, hr, hml, hown, hts, hlocks, hK, hA, hSt, hnm, hex⟩ := id F
  intro a1 res hf H locs ls hP hD hS hl
  unfold x_M_numberAt at hf
  refine lv_lconst (v := 0) hx hb d_M_numberAt_0 (by decide) ?_
  refine lv_lstore_n (lv' := [(2, .long (0 : Int64)), (0, .ref o), (1, .int a1)]) hx hb d_M_numberAt_1 rfl hl (by decide) rfl (fun ls hl => ?_)
  refine lv_aload_n hx hb d_M_numberAt_2 rfl (lv_at hl 1 rfl) ?_
  refine va_get (D := D) (ci := 12) (v := .ref (q 69)) (C := "CoinKeeperModel") (T := F_12) (N := 98) hx hb hts i_12 hown hK hP 0 rfl rfl 78 (by decide) (hts _ gw_1497) (fun _ h9 => h9) rfl d_M_numberAt_3 ?_
  refine lv_iload_n hx hb d_M_numberAt_6 rfl (lv_at hl 2 rfl) ?_
  obtain ⟨hg, hf⟩ := gdp hf
  refine va_iald hx hb hK hP 2 1 rfl rfl (inb_in hg) d_M_numberAt_7 ?_
  refine lv_topi (fun v1 ev => ?_)
  have hf := bn ev hf
  clear ev
  refine lv_istore (lv' := [(4, .int v1), (2, .long (0 : Int64)), (0, .ref o), (1, .int a1)]) hx hb d_M_numberAt_8 hl (by decide) rfl (fun ls hl => ?_)
  refine lv_iload hx hb d_M_numberAt_10 (lv_at hl 0 rfl) ?_
  refine lv_if_ne (tgt := 17) hx hb d_M_numberAt_12 (by decide) (fun cx => ?_) (fun cx => ?_)
  · have hf := ifn cx hf
    refine lv_iconst (v := 0) hx hb d_M_numberAt_17 (by decide) ?_
    refine lv_istore (lv' := [(5, .int (0 : Int32)), (4, .int v1), (2, .long (0 : Int64)), (0, .ref o), (1, .int a1)]) hx hb d_M_numberAt_18 hl (by decide) rfl (fun ls hl => ?_)
    exact w_M_numberAt_20 F fu _ _ _ _ _ hf _ _ _ hP hD hS (lv_sub hl [3, 4, 2, 1, 0] rfl)
  · have hf := ifp cx hf
    refine lv_lconst (v := 0) hx hb d_M_numberAt_15 (by decide) ?_
    obtain rfl := Option.some.inj hf
    exact q_rl hx hb hr hlocks hK hP hD hS d_M_numberAt_16
theorem c_M_numberAt (l : Launch) (D : va_G) (cy : Nat → ClassId) (ad : Nat → Nat) (fu : Nat) (o : Nat) (q : Nat → Nat) (z : Nat → Int32) (g_thing : Nat → Int32) (g_size : Nat → Int32) (a1 : Int32) (res : Int64) (hf : x_M_numberAt fu z g_thing g_size a1 = some res) (sz : Nat) : Met l ({ cls := "CoinKeeperModel", name := "numberAt", desc := "(I)J" } : Jvm.MethodName) (.code ({ cls := "CoinKeeperModel", name := "numberAt", desc := "(I)J" } : Jvm.MethodName) b_M_numberAt 6 (some .long) :: gw) rm_M_numberAt (va_Pc [.ref o, .int a1] (Pr D cy ad [(o, .inr (12, mo q z)), ((q 68), .inl (cy 0, 104448, .inl g_thing)), ((q 69), .inl (cy 1, 408, .inl g_size))] sz)) (q_M_numberAt D cy (va_A [(o, .inr (12, mo q z)), ((q 68), .inl (cy 0, 104448, .inl g_thing)), ((q 69), .inl (cy 1, 408, .inl g_size))] sz) o q z g_thing g_size res) 0 0 (va_A [(o, .inr (12, mo q z)), ((q 68), .inl (cy 0, 104448, .inl g_thing)), ((q 69), .inl (cy 1, 408, .inl g_size))] sz) :=
  q_met (Qc := fun A => q_M_numberAt D cy A o q z g_thing g_size res) (by decide) rfl rfl (Nat.le_of_ble_eq_true rfl) (fun p e s m below meth c ls F hP hD hS hl => we_M_numberAt (fu := fu) F a1 res hf _ _ _ hP hD hS hl) sz
abbrev b_M_isNumber : ByteArray := prog_14_method_45_code
theorem d_M_isNumber_0 : decode b_M_isNumber 0 = .ok (.aload_n 0, 1) := by decide +kernel
theorem d_M_isNumber_1 : decode b_M_isNumber 1 = .ok (.getfield 224, 3) := by decide +kernel
theorem d_M_isNumber_4 : decode b_M_isNumber 4 = .ok (.iload_n 1, 1) := by decide +kernel
theorem d_M_isNumber_5 : decode b_M_isNumber 5 = .ok (.iaload, 1) := by decide +kernel
theorem d_M_isNumber_6 : decode b_M_isNumber 6 = .ok (.iconst 4, 1) := by decide +kernel
theorem d_M_isNumber_7 : decode b_M_isNumber 7 = .ok (.if_icmp .gt 7, 3) := by decide +kernel
theorem d_M_isNumber_10 : decode b_M_isNumber 10 = .ok (.iconst 1, 1) := by decide +kernel
theorem d_M_isNumber_11 : decode b_M_isNumber 11 = .ok (.goto 4, 3) := by decide +kernel
theorem d_M_isNumber_14 : decode b_M_isNumber 14 = .ok (.iconst 0, 1) := by decide +kernel
theorem d_M_isNumber_15 : decode b_M_isNumber 15 = .ok (.ireturn, 1) := by decide +kernel
abbrev rm_M_isNumber : Room := { frames := 0, cells := 0, slots := 0, locals := 0 }
abbrev q_M_isNumber (D : va_G) (cy : Nat → ClassId) (A : Nat → Prop) (o : Nat) (q : Nat → Nat) (z : Nat → Int32) (g_size : Nat → Int32) (res : Int32) : Array Value → State → Outcome → State → Prop := va_Qi (fun r' (_ : Unit) => r' = res) (fun _ t => Po D cy A [(o, .inr (12, mo q z)), ((q 69), .inl (cy 1, 408, .inl g_size))] t) A
def I_M_isNumber_e (p : Program) (l : Launch) (e : Env) (s : State) (m : MethodId) (args : Array Value) (below : List Frame) (meth : Method) (c : Code) (D : va_G) (cy : Nat → ClassId) (A : Nat → Prop) (ad : Nat → Nat) (o : Nat) (q : Nat → Nat) (z : Nat → Int32) (g_size : Nat → Int32) (k : Int32 → Option (Int32)) : Prop :=
  ∀ (a1 : Int32) (res : Int32), k a1 = some res → ∀ (H : Heap) (locs : List Loc) (ls : Array Slot), va_P D classes [(o, .inr (12, mo q z)), ((q 69), .inl (cy 1, 408, .inl g_size))] H → va_D A [(o, .inr (12, mo q z)), ((q 69), .inl (cy 1, 408, .inl g_size))] → va_S A s.heap H locs → lv_has ls 2 [(0, .ref o), (1, .int a1)] → W p l e rm_M_isNumber s m args below meth c H locs 0 0 (MQ below (q_M_isNumber D cy A o q z g_size res) args s 0 0 A) (F0 m 0 ls [])
set_option maxHeartbeats 8000000 in
set_option maxRecDepth 100000 in
theorem we_M_isNumber {p : Program} {l : Launch} {e : Env} {s : State} {m : MethodId} {args : Array Value} {below : List Frame} {meth : Method} {c : Code} {D : va_G} {cy : Nat → ClassId} {A : Nat → Prop} {ad : Nat → Nat} {o : Nat} {q : Nat → Nat} {z : Nat → Int32} {g_size : Nat → Int32} {fu : Nat} (F : Fx p s m args meth c b_M_isNumber 2 "CoinKeeperModel" "isNumber" (some .boolean) D cy ad A) : I_M_isNumber_e p l e s m args below meth c D cy A ad o q z g_size (x_M_isNumber fu z g_size) := by
  obtain ⟨hx, hb, hr, hml, hown, hts, hlocks, hK, hA, hSt, hnm, hex⟩ := id F
  intro a1 res hf H locs ls hP hD hS hl
  unfold x_M_isNumber at hf
  refine lv_aload_n hx hb d_M_isNumber_0 rfl (lv_at hl 0 rfl) ?_
  refine va_get (D := D) (ci := 12) (v := .ref (q 69)) (C := "CoinKeeperModel") (T := F_12) (N := 98) hx hb hts i_12 hown hK hP 0 rfl rfl 78 (by decide) (hts _ gw_1497) (fun _ h9 => h9) rfl d_M_isNumber_1 ?_
  refine lv_iload_n hx hb d_M_isNumber_4 rfl (lv_at hl 1 rfl) ?_
  obtain ⟨hg, hf⟩ := gdp hf
  refine va_iald hx hb hK hP 1 1 rfl rfl (inb_in hg) d_M_isNumber_5 ?_
  refine lv_topi (fun v1 ev => ?_)
  have hf := bn ev hf
  clear ev
  refine lv_iconst (v := 4) hx hb d_M_isNumber_6 (by decide) ?_
  refine lv_icmp_gt (tgt := 14) hx hb d_M_isNumber_7 (by decide) (fun cx => ?_) (fun cx => ?_)
  · have hf := ifp cx hf
    refine lv_iconst (v := 0) hx hb d_M_isNumber_14 (by decide) ?_
    obtain rfl := Option.some.inj hf
    exact q_rz hx hb hr hlocks hK hP hD hS (isb_n (v := 0) (by decide)) d_M_isNumber_15
  · have hf := ifn cx hf
    refine lv_iconst (v := 1) hx hb d_M_isNumber_10 (by decide) ?_
    refine lv_goto (tgt := 15) hx hb d_M_isNumber_11 (by decide) ?_
    obtain rfl := Option.some.inj hf
    exact q_rz hx hb hr hlocks hK hP hD hS (isb_n (v := 1) (by decide)) d_M_isNumber_15
theorem c_M_isNumber (l : Launch) (D : va_G) (cy : Nat → ClassId) (ad : Nat → Nat) (fu : Nat) (o : Nat) (q : Nat → Nat) (z : Nat → Int32) (g_size : Nat → Int32) (a1 : Int32) (res : Int32) (hf : x_M_isNumber fu z g_size a1 = some res) (sz : Nat) : Met l ({ cls := "CoinKeeperModel", name := "isNumber", desc := "(I)Z" } : Jvm.MethodName) (.code ({ cls := "CoinKeeperModel", name := "isNumber", desc := "(I)Z" } : Jvm.MethodName) b_M_isNumber 2 (some .boolean) :: gw) rm_M_isNumber (va_Pc [.ref o, .int a1] (Pr D cy ad [(o, .inr (12, mo q z)), ((q 69), .inl (cy 1, 408, .inl g_size))] sz)) (q_M_isNumber D cy (va_A [(o, .inr (12, mo q z)), ((q 69), .inl (cy 1, 408, .inl g_size))] sz) o q z g_size res) 0 0 (va_A [(o, .inr (12, mo q z)), ((q 69), .inl (cy 1, 408, .inl g_size))] sz) :=
  q_met (Qc := fun A => q_M_isNumber D cy A o q z g_size res) (by decide) rfl rfl (Nat.le_of_ble_eq_true rfl) (fun p e s m below meth c ls F hP hD hS hl => we_M_isNumber (fu := fu) F a1 res hf _ _ _ hP hD hS hl) sz
abbrev b_M_pushNumber : ByteArray := prog_14_method_42_code
theorem d_M_pushNumber_0 : decode b_M_pushNumber 0 = .ok (.lload_n 1, 1) := by decide +kernel
theorem d_M_pushNumber_1 : decode b_M_pushNumber 1 = .ok (.lconst 0, 1) := by decide +kernel
theorem d_M_pushNumber_2 : decode b_M_pushNumber 2 = .ok (.lcmp, 1) := by decide +kernel
theorem d_M_pushNumber_3 : decode b_M_pushNumber 3 = .ok (.ifCond .ge 8, 3) := by decide +kernel
theorem d_M_pushNumber_6 : decode b_M_pushNumber 6 = .ok (.lload_n 1, 1) := by decide +kernel
theorem d_M_pushNumber_7 : decode b_M_pushNumber 7 = .ok (.lneg, 1) := by decide +kernel
theorem d_M_pushNumber_8 : decode b_M_pushNumber 8 = .ok (.goto 4, 3) := by decide +kernel
theorem d_M_pushNumber_11 : decode b_M_pushNumber 11 = .ok (.lload_n 1, 1) := by decide +kernel
theorem d_M_pushNumber_12 : decode b_M_pushNumber 12 = .ok (.lstore_n 3, 1) := by decide +kernel
theorem d_M_pushNumber_13 : decode b_M_pushNumber 13 = .ok (.iconst 0, 1) := by decide +kernel
theorem d_M_pushNumber_14 : decode b_M_pushNumber 14 = .ok (.istore 5, 2) := by decide +kernel
theorem d_M_pushNumber_16 : decode b_M_pushNumber 16 = .ok (.sipush 256, 3) := by decide +kernel
theorem d_M_pushNumber_19 : decode b_M_pushNumber 19 = .ok (.aload_n 0, 1) := by decide +kernel
theorem d_M_pushNumber_20 : decode b_M_pushNumber 20 = .ok (.getfield 439, 3) := by decide +kernel
theorem d_M_pushNumber_23 : decode b_M_pushNumber 23 = .ok (.imul, 1) := by decide +kernel
theorem d_M_pushNumber_24 : decode b_M_pushNumber 24 = .ok (.istore 6, 2) := by decide +kernel
theorem d_M_pushNumber_26 : decode b_M_pushNumber 26 = .ok (.lload_n 3, 1) := by decide +kernel
theorem d_M_pushNumber_27 : decode b_M_pushNumber 27 = .ok (.lconst 0, 1) := by decide +kernel
theorem d_M_pushNumber_28 : decode b_M_pushNumber 28 = .ok (.lcmp, 1) := by decide +kernel
theorem d_M_pushNumber_29 : decode b_M_pushNumber 29 = .ok (.ifCond .le 27, 3) := by decide +kernel
theorem d_M_pushNumber_32 : decode b_M_pushNumber 32 = .ok (.aload_n 0, 1) := by decide +kernel
theorem d_M_pushNumber_33 : decode b_M_pushNumber 33 = .ok (.getfield 221, 3) := by decide +kernel
theorem d_M_pushNumber_36 : decode b_M_pushNumber 36 = .ok (.iload 6, 2) := by decide +kernel
theorem d_M_pushNumber_38 : decode b_M_pushNumber 38 = .ok (.iload 5, 2) := by decide +kernel
theorem d_M_pushNumber_40 : decode b_M_pushNumber 40 = .ok (.iinc 5 1, 3) := by decide +kernel
theorem d_M_pushNumber_43 : decode b_M_pushNumber 43 = .ok (.iadd, 1) := by decide +kernel
theorem d_M_pushNumber_44 : decode b_M_pushNumber 44 = .ok (.lload_n 3, 1) := by decide +kernel
theorem d_M_pushNumber_45 : decode b_M_pushNumber 45 = .ok (.l2i, 1) := by decide +kernel
theorem d_M_pushNumber_46 : decode b_M_pushNumber 46 = .ok (.i2b, 1) := by decide +kernel
theorem d_M_pushNumber_47 : decode b_M_pushNumber 47 = .ok (.bastore, 1) := by decide +kernel
theorem d_M_pushNumber_48 : decode b_M_pushNumber 48 = .ok (.lload_n 3, 1) := by decide +kernel
theorem d_M_pushNumber_49 : decode b_M_pushNumber 49 = .ok (.bipush 8, 2) := by decide +kernel
theorem d_M_pushNumber_51 : decode b_M_pushNumber 51 = .ok (.lshr, 1) := by decide +kernel
theorem d_M_pushNumber_52 : decode b_M_pushNumber 52 = .ok (.lstore_n 3, 1) := by decide +kernel
theorem d_M_pushNumber_53 : decode b_M_pushNumber 53 = .ok (.goto (-27), 3) := by decide +kernel
theorem d_M_pushNumber_56 : decode b_M_pushNumber 56 = .ok (.iload 5, 2) := by decide +kernel
theorem d_M_pushNumber_58 : decode b_M_pushNumber 58 = .ok (.ifCond .le 32, 3) := by decide +kernel
theorem d_M_pushNumber_61 : decode b_M_pushNumber 61 = .ok (.aload_n 0, 1) := by decide +kernel
theorem d_M_pushNumber_62 : decode b_M_pushNumber 62 = .ok (.getfield 221, 3) := by decide +kernel
theorem d_M_pushNumber_65 : decode b_M_pushNumber 65 = .ok (.iload 6, 2) := by decide +kernel
theorem d_M_pushNumber_67 : decode b_M_pushNumber 67 = .ok (.iload 5, 2) := by decide +kernel
theorem d_M_pushNumber_69 : decode b_M_pushNumber 69 = .ok (.iadd, 1) := by decide +kernel
theorem d_M_pushNumber_70 : decode b_M_pushNumber 70 = .ok (.iconst 1, 1) := by decide +kernel
theorem d_M_pushNumber_71 : decode b_M_pushNumber 71 = .ok (.isub, 1) := by decide +kernel
theorem d_M_pushNumber_72 : decode b_M_pushNumber 72 = .ok (.baload, 1) := by decide +kernel
theorem d_M_pushNumber_73 : decode b_M_pushNumber 73 = .ok (.ifCond .ge 17, 3) := by decide +kernel
theorem d_M_pushNumber_76 : decode b_M_pushNumber 76 = .ok (.aload_n 0, 1) := by decide +kernel
theorem d_M_pushNumber_77 : decode b_M_pushNumber 77 = .ok (.getfield 221, 3) := by decide +kernel
theorem d_M_pushNumber_80 : decode b_M_pushNumber 80 = .ok (.iload 6, 2) := by decide +kernel
theorem d_M_pushNumber_82 : decode b_M_pushNumber 82 = .ok (.iload 5, 2) := by decide +kernel
theorem d_M_pushNumber_84 : decode b_M_pushNumber 84 = .ok (.iinc 5 1, 3) := by decide +kernel
theorem d_M_pushNumber_87 : decode b_M_pushNumber 87 = .ok (.iadd, 1) := by decide +kernel
theorem d_M_pushNumber_88 : decode b_M_pushNumber 88 = .ok (.iconst 0, 1) := by decide +kernel
theorem d_M_pushNumber_89 : decode b_M_pushNumber 89 = .ok (.bastore, 1) := by decide +kernel
theorem d_M_pushNumber_90 : decode b_M_pushNumber 90 = .ok (.lload_n 1, 1) := by decide +kernel
theorem d_M_pushNumber_91 : decode b_M_pushNumber 91 = .ok (.lconst 0, 1) := by decide +kernel
theorem d_M_pushNumber_92 : decode b_M_pushNumber 92 = .ok (.lcmp, 1) := by decide +kernel
theorem d_M_pushNumber_93 : decode b_M_pushNumber 93 = .ok (.ifCond .ge 21, 3) := by decide +kernel
theorem d_M_pushNumber_96 : decode b_M_pushNumber 96 = .ok (.aload_n 0, 1) := by decide +kernel
theorem d_M_pushNumber_97 : decode b_M_pushNumber 97 = .ok (.getfield 221, 3) := by decide +kernel
theorem d_M_pushNumber_100 : decode b_M_pushNumber 100 = .ok (.iload 6, 2) := by decide +kernel
theorem d_M_pushNumber_102 : decode b_M_pushNumber 102 = .ok (.iload 5, 2) := by decide +kernel
theorem d_M_pushNumber_104 : decode b_M_pushNumber 104 = .ok (.iadd, 1) := by decide +kernel
theorem d_M_pushNumber_105 : decode b_M_pushNumber 105 = .ok (.iconst 1, 1) := by decide +kernel
theorem d_M_pushNumber_106 : decode b_M_pushNumber 106 = .ok (.isub, 1) := by decide +kernel
theorem d_M_pushNumber_107 : decode b_M_pushNumber 107 = .ok (.dup2, 1) := by decide +kernel
theorem d_M_pushNumber_108 : decode b_M_pushNumber 108 = .ok (.baload, 1) := by decide +kernel
theorem d_M_pushNumber_109 : decode b_M_pushNumber 109 = .ok (.bipush (-128), 2) := by decide +kernel
theorem d_M_pushNumber_111 : decode b_M_pushNumber 111 = .ok (.ior, 1) := by decide +kernel
theorem d_M_pushNumber_112 : decode b_M_pushNumber 112 = .ok (.i2b, 1) := by decide +kernel
theorem d_M_pushNumber_113 : decode b_M_pushNumber 113 = .ok (.bastore, 1) := by decide +kernel
theorem d_M_pushNumber_114 : decode b_M_pushNumber 114 = .ok (.aload_n 0, 1) := by decide +kernel
theorem d_M_pushNumber_115 : decode b_M_pushNumber 115 = .ok (.getfield 224, 3) := by decide +kernel
theorem d_M_pushNumber_118 : decode b_M_pushNumber 118 = .ok (.aload_n 0, 1) := by decide +kernel
theorem d_M_pushNumber_119 : decode b_M_pushNumber 119 = .ok (.getfield 439, 3) := by decide +kernel
theorem d_M_pushNumber_122 : decode b_M_pushNumber 122 = .ok (.iload 5, 2) := by decide +kernel
theorem d_M_pushNumber_124 : decode b_M_pushNumber 124 = .ok (.iastore, 1) := by decide +kernel
theorem d_M_pushNumber_125 : decode b_M_pushNumber 125 = .ok (.aload_n 0, 1) := by decide +kernel
theorem d_M_pushNumber_126 : decode b_M_pushNumber 126 = .ok (.dup, 1) := by decide +kernel
theorem d_M_pushNumber_127 : decode b_M_pushNumber 127 = .ok (.getfield 439, 3) := by decide +kernel
theorem d_M_pushNumber_130 : decode b_M_pushNumber 130 = .ok (.iconst 1, 1) := by decide +kernel
theorem d_M_pushNumber_131 : decode b_M_pushNumber 131 = .ok (.iadd, 1) := by decide +kernel
theorem d_M_pushNumber_132 : decode b_M_pushNumber 132 = .ok (.putfield 439, 3) := by decide +kernel
theorem d_M_pushNumber_135 : decode b_M_pushNumber 135 = .ok (.return_, 1) := by decide +kernel
abbrev rm_M_pushNumber : Room := { frames := 0, cells := 0, slots := 0, locals := 0 }
abbrev q_M_pushNumber (D : va_G) (cy : Nat → ClassId) (A : Nat → Prop) (o : Nat) (q : Nat → Nat) (res : (Nat → Int32) × (Nat → Int32) × (Nat → Int32)) : Array Value → State → Outcome → State → Prop := va_Qv (fun (_ : Unit) => True) (fun _ t => Po D cy A [(o, .inr (12, mo q res.1)), ((q 68), .inl (cy 0, 104448, .inl res.2.1)), ((q 69), .inl (cy 1, 408, .inl res.2.2))] t) A
def I_M_pushNumber_114 (p : Program) (l : Launch) (e : Env) (s : State) (m : MethodId) (args : Array Value) (below : List Frame) (meth : Method) (c : Code) (D : va_G) (cy : Nat → ClassId) (A : Nat → Prop) (ad : Nat → Nat) (o : Nat) (q : Nat → Nat) (k : Int32 → (Nat → Int32) → (Nat → Int32) → (Nat → Int32) → Option ((Nat → Int32) × (Nat → Int32) × (Nat → Int32))) : Prop :=
  ∀ (x5 : Int32) (u0 : Nat → Int32) (u1 : Nat → Int32) (u2 : Nat → Int32) (res : (Nat → Int32) × (Nat → Int32) × (Nat → Int32)), k x5 u0 u1 u2 = some res → ∀ (H : Heap) (locs : List Loc) (ls : Array Slot), va_P D classes [(o, .inr (12, mo q u0)), ((q 68), .inl (cy 0, 104448, .inl u1)), ((q 69), .inl (cy 1, 408, .inl u2))] H → va_D A [(o, .inr (12, mo q u0)), ((q 68), .inl (cy 0, 104448, .inl u1)), ((q 69), .inl (cy 1, 408, .inl u2))] → va_S A s.heap H locs → lv_has ls 7 [(0, .ref o), (5, .int x5)] → W p l e rm_M_pushNumber s m args below meth c H locs 0 0 (MQ below (q_M_pushNumber D cy A o q res) args s 0 0 A) (F0 m 114 ls [])
def I_M_pushNumber_90 (p : Program) (l : Launch) (e : Env) (s : State) (m : MethodId) (args : Array Value) (below : List Frame) (meth : Method) (c : Code) (D : va_G) (cy : Nat → ClassId) (A : Nat → Prop) (ad : Nat → Nat) (o : Nat) (q : Nat → Nat) (k : Int64 → Int32 → Int32 → (Nat → Int32) → (Nat → Int32) → (Nat → Int32) → Option ((Nat → Int32) × (Nat → Int32) × (Nat → Int32))) : Prop :=
  ∀ (x1 : Int64) (x5 : Int32) (x6 : Int32) (u0 : Nat → Int32) (u1 : Nat → Int32) (u2 : Nat → Int32) (res : (Nat → Int32) × (Nat → Int32) × (Nat → Int32)), k x1 x5 x6 u0 u1 u2 = some res → ∀ (H : Heap) (locs : List Loc) (ls : Array Slot), va_P D classes [(o, .inr (12, mo q u0)), ((q 68), .inl (cy 0, 104448, .inl u1)), ((q 69), .inl (cy 1, 408, .inl u2))] H → va_D A [(o, .inr (12, mo q u0)), ((q 68), .inl (cy 0, 104448, .inl u1)), ((q 69), .inl (cy 1, 408, .inl u2))] → va_S A s.heap H locs → lv_has ls 7 [(0, .ref o), (1, .long x1), (5, .int x5), (6, .int x6)] → W p l e rm_M_pushNumber s m args below meth c H locs 0 0 (MQ below (q_M_pushNumber D cy A o q res) args s 0 0 A) (F0 m 90 ls [])
def I_M_pushNumber_26 (p : Program) (l : Launch) (e : Env) (s : State) (m : MethodId) (args : Array Value) (below : List Frame) (meth : Method) (c : Code) (D : va_G) (cy : Nat → ClassId) (A : Nat → Prop) (ad : Nat → Nat) (o : Nat) (q : Nat → Nat) (k : Int64 → Int64 → Int32 → Int32 → (Nat → Int32) → (Nat → Int32) → (Nat → Int32) → Option ((Nat → Int32) × (Nat → Int32) × (Nat → Int32))) : Prop :=
  ∀ (x1 : Int64) (x3 : Int64) (x5 : Int32) (x6 : Int32) (u0 : Nat → Int32) (u1 : Nat → Int32) (u2 : Nat → Int32) (res : (Nat → Int32) × (Nat → Int32) × (Nat → Int32)), k x1 x3 x5 x6 u0 u1 u2 = some res → ∀ (H : Heap) (locs : List Loc) (ls : Array Slot), va_P D classes [(o, .inr (12, mo q u0)), ((q 68), .inl (cy 0, 104448, .inl u1)), ((q 69), .inl (cy 1, 408, .inl u2))] H → va_D A [(o, .inr (12, mo q u0)), ((q 68), .inl (cy 0, 104448, .inl u1)), ((q 69), .inl (cy 1, 408, .inl u2))] → va_S A s.heap H locs → lv_has ls 7 [(0, .ref o), (1, .long x1), (3, .long x3), (5, .int x5), (6, .int x6)] → W p l e rm_M_pushNumber s m args below meth c H locs 0 0 (MQ below (q_M_pushNumber D cy A o q res) args s 0 0 A) (F0 m 26 ls [])
def I_M_pushNumber_12 (p : Program) (l : Launch) (e : Env) (s : State) (m : MethodId) (args : Array Value) (below : List Frame) (meth : Method) (c : Code) (D : va_G) (cy : Nat → ClassId) (A : Nat → Prop) (ad : Nat → Nat) (o : Nat) (q : Nat → Nat) (k : Int64 → Int64 → (Nat → Int32) → (Nat → Int32) → (Nat → Int32) → Option ((Nat → Int32) × (Nat → Int32) × (Nat → Int32))) : Prop :=
  ∀ (x1 : Int64) (y0 : Int64) (u0 : Nat → Int32) (u1 : Nat → Int32) (u2 : Nat → Int32) (res : (Nat → Int32) × (Nat → Int32) × (Nat → Int32)), k x1 y0 u0 u1 u2 = some res → ∀ (H : Heap) (locs : List Loc) (ls : Array Slot), va_P D classes [(o, .inr (12, mo q u0)), ((q 68), .inl (cy 0, 104448, .inl u1)), ((q 69), .inl (cy 1, 408, .inl u2))] H → va_D A [(o, .inr (12, mo q u0)), ((q 68), .inl (cy 0, 104448, .inl u1)), ((q 69), .inl (cy 1, 408, .inl u2))] → va_S A s.heap H locs → lv_has ls 7 [(0, .ref o), (1, .long x1)] → W p l e rm_M_pushNumber s m args below meth c H locs 0 0 (MQ below (q_M_pushNumber D cy A o q res) args s 0 0 A) (F0 m 12 ls [.long y0])
def I_M_pushNumber_e (p : Program) (l : Launch) (e : Env) (s : State) (m : MethodId) (args : Array Value) (below : List Frame) (meth : Method) (c : Code) (D : va_G) (cy : Nat → ClassId) (A : Nat → Prop) (ad : Nat → Nat) (o : Nat) (q : Nat → Nat) (k : Int64 → (Nat → Int32) → (Nat → Int32) → (Nat → Int32) → Option ((Nat → Int32) × (Nat → Int32) × (Nat → Int32))) : Prop :=
  ∀ (a1 : Int64) (u0 : Nat → Int32) (u1 : Nat → Int32) (u2 : Nat → Int32) (res : (Nat → Int32) × (Nat → Int32) × (Nat → Int32)), k a1 u0 u1 u2 = some res → ∀ (H : Heap) (locs : List Loc) (ls : Array Slot), va_P D classes [(o, .inr (12, mo q u0)), ((q 68), .inl (cy 0, 104448, .inl u1)), ((q 69), .inl (cy 1, 408, .inl u2))] H → va_D A [(o, .inr (12, mo q u0)), ((q 68), .inl (cy 0, 104448, .inl u1)), ((q 69), .inl (cy 1, 408, .inl u2))] → va_S A s.heap H locs → lv_has ls 7 [(0, .ref o), (1, .long a1)] → W p l e rm_M_pushNumber s m args below meth c H locs 0 0 (MQ below (q_M_pushNumber D cy A o q res) args s 0 0 A) (F0 m 0 ls [])
set_option maxHeartbeats 8000000 in
set_option maxRecDepth 100000 in
theorem wb_M_pushNumber_114 {p : Program} {l : Launch} {e : Env} {s : State} {m : MethodId} {args : Array Value} {below : List Frame} {meth : Method} {c : Code} {D : va_G} {cy : Nat → ClassId} {A : Nat → Prop} {ad : Nat → Nat} {o : Nat} {q : Nat → Nat} {fu : Nat} (F : Fx p s m args meth c b_M_pushNumber 7 "CoinKeeperModel" "pushNumber" none D cy ad A) : I_M_pushNumber_114 p l e s m args below meth c D cy A ad o q (xb_M_pushNumber_114 fu) := by
  obtain ⟨hx, hb, hr, hml, hown, hts, hlocks, hK, hA, hSt, hnm, hex⟩ := id F
  intro x5 u0 u1 u2 res hf H locs ls hP hD hS hl
  unfold xb_M_pushNumber_114 at hf
  refine lv_aload_n hx hb d_M_pushNumber_114 rfl (lv_at hl 0 rfl) ?_
  refine va_get (D := D) (ci := 12) (v := .ref (q 69)) (C := "CoinKeeperModel") (T := F_12) (N := 98) hx hb hts i_12 hown hK hP 0 rfl rfl 78 (by decide) (hts _ gw_1497) (fun _ h9 => h9) rfl d_M_pushNumber_115 ?_
  refine lv_aload_n hx hb d_M_pushNumber_118 rfl (lv_at hl 0 rfl) ?_
  refine va_get (D := D) (ci := 12) (v := .int (u0 9)) (C := "CoinKeeperModel") (T := F_12) (N := 98) hx hb hts i_12 hown hK hP 0 rfl rfl 79 (by decide) (hts _ gw_1498) (fun _ h9 => h9) rfl d_M_pushNumber_119 ?_
  refine lv_iload hx hb d_M_pushNumber_122 (lv_at hl 1 rfl) ?_
  obtain ⟨hg, hf⟩ := gdp hf
  refine va_iast hx hb hK hP hD hS 2 1 rfl rfl (inb_in hg) d_M_pushNumber_124 (fun H locs hP hD hS => ?_)
  obtain ⟨f1, ev, hf⟩ := bne hf
  have hP : va_P D classes [(o, .inr (12, mo q u0)), ((q 68), .inl (cy 0, 104448, .inl u1)), ((q 69), .inl (cy 1, 408, .inl f1))] H := by rw [ev]; exact hP
  have hD : va_D A [(o, .inr (12, mo q u0)), ((q 68), .inl (cy 0, 104448, .inl u1)), ((q 69), .inl (cy 1, 408, .inl f1))] := by rw [ev]; exact hD
  clear ev
  refine lv_aload_n hx hb d_M_pushNumber_125 rfl (lv_at hl 0 rfl) ?_
  refine lv_dup hx hb d_M_pushNumber_126 rfl ?_
  refine va_get (D := D) (ci := 12) (v := .int (u0 9)) (C := "CoinKeeperModel") (T := F_12) (N := 98) hx hb hts i_12 hown hK hP 0 rfl rfl 79 (by decide) (hts _ gw_1498) (fun _ h9 => h9) rfl d_M_pushNumber_127 ?_
  refine lv_iconst (v := 1) hx hb d_M_pushNumber_130 (by decide) ?_
  refine lv_iadd hx hb d_M_pushNumber_131 ?_
  refine lv_topi (fun v2 ev => ?_)
  have hf := bn ev hf
  clear ev
  refine va_put (D := D) (ci := 12) (v := .int v2) (ty := .int) (C := "CoinKeeperModel") (T := F_12) (N := 98) hx hb hts i_12 t_12 t_12_ok n_12 hown hK hP hD hS 0 rfl rfl 79 (by decide) (hts _ gw_1498) (fun _ h9 => h9) rfl (by decide +kernel) rfl rfl (Nat.le_of_ble_eq_true rfl) d_M_pushNumber_132 (fun H locs hP hD hS => ?_)
  obtain ⟨z3, ev, hf⟩ := bne hf
  have hP : va_P D classes [(o, .inr (12, mo q z3)), ((q 68), .inl (cy 0, 104448, .inl u1)), ((q 69), .inl (cy 1, 408, .inl f1))] H := by rw [ev]; exact hP
  have hD : va_D A [(o, .inr (12, mo q z3)), ((q 68), .inl (cy 0, 104448, .inl u1)), ((q 69), .inl (cy 1, 408, .inl f1))] := by rw [ev]; exact hD
  clear ev
  obtain rfl := Option.some.inj hf
  exact q_rv hx hb hr hlocks hK hP hD hS d_M_pushNumber_135
set_option maxHeartbeats 8000000 in
set_option maxRecDepth 100000 in
theorem wb_M_pushNumber_90 {p : Program} {l : Launch} {e : Env} {s : State} {m : MethodId} {args : Array Value} {below : List Frame} {meth : Method} {c : Code} {D : va_G} {cy : Nat → ClassId} {A : Nat → Prop} {ad : Nat → Nat} {o : Nat} {q : Nat → Nat} {fu : Nat} (F : Fx p s m args meth c b_M_pushNumber 7 "CoinKeeperModel" "pushNumber" none D cy ad A) : I_M_pushNumber_90 p l e s m args below meth c D cy A ad o q (xb_M_pushNumber_90 fu) := by
  obtain ⟨hx, hb, hr, hml, hown, hts, hlocks, hK, hA, hSt, hnm, hex⟩ := id F
  intro x1 x5 x6 u0 u1 u2 res hf H locs ls hP hD hS hl
  unfold xb_M_pushNumber_90 at hf
  refine lv_lload_n hx hb d_M_pushNumber_90 rfl (lv_at hl 1 rfl) ?_
  refine lv_lconst (v := 0) hx hb d_M_pushNumber_91 (by decide) ?_
  refine W.lcmp hx hb d_M_pushNumber_92 ?_
  refine lv_if_ge (tgt := 114) hx hb d_M_pushNumber_93 (by decide) (fun cx => ?_) (fun cx => ?_)
  · have hf := ifp cx hf
    exact wb_M_pushNumber_114 (fu := fu) F _ _ _ _ _ hf _ _ _ hP hD hS (lv_sub hl [0, 2] rfl)
  · have hf := ifn cx hf
    refine lv_aload_n hx hb d_M_pushNumber_96 rfl (lv_at hl 0 rfl) ?_
    refine va_get (D := D) (ci := 12) (v := .ref (q 68)) (C := "CoinKeeperModel") (T := F_12) (N := 98) hx hb hts i_12 hown hK hP 0 rfl rfl 77 (by decide) (hts _ gw_1496) (fun _ h9 => h9) rfl d_M_pushNumber_97 ?_
    refine lv_iload hx hb d_M_pushNumber_100 (lv_at hl 3 rfl) ?_
    refine lv_iload hx hb d_M_pushNumber_102 (lv_at hl 2 rfl) ?_
    refine lv_iadd hx hb d_M_pushNumber_104 ?_
    refine lv_topi (fun v1 ev => ?_)
    have hf := bn ev hf
    clear ev
    refine lv_iconst (v := 1) hx hb d_M_pushNumber_105 (by decide) ?_
    refine lv_isub hx hb d_M_pushNumber_106 ?_
    refine lv_topi (fun v2 ev => ?_)
    have hf := bn ev hf
    clear ev
    refine lv_dup2_11 hx hb d_M_pushNumber_107 rfl rfl ?_
    obtain ⟨hg, hf⟩ := gdp hf
    refine va_bald hx hb hK hP 1 0 rfl rfl (inb_in hg) d_M_pushNumber_108 ?_
    refine lv_topi (fun v3 ev => ?_)
    have hf := bn ev hf
    clear ev
    refine lv_bipush (v := (-128)) hx hb d_M_pushNumber_109 (by decide) ?_
    refine lv_ior hx hb d_M_pushNumber_111 ?_
    refine lv_i2b hx hb d_M_pushNumber_112 rfl ?_
    refine lv_topi (fun v4 ev => ?_)
    have hf := bn ev hf
    clear ev
    obtain ⟨hg, hf⟩ := gdp hf
    refine va_bast hx hb hK hP hD hS 1 0 rfl rfl (inb_in hg) d_M_pushNumber_113 (fun H locs hP hD hS => ?_)
    obtain ⟨f5, ev, hf⟩ := bne hf
    have hP : va_P D classes [(o, .inr (12, mo q u0)), ((q 68), .inl (cy 0, 104448, .inl f5)), ((q 69), .inl (cy 1, 408, .inl u2))] H := by rw [ev]; exact hP
    have hD : va_D A [(o, .inr (12, mo q u0)), ((q 68), .inl (cy 0, 104448, .inl f5)), ((q 69), .inl (cy 1, 408, .inl u2))] := by rw [ev]; exact hD
    clear ev
    exact wb_M_pushNumber_114 (fu := fu) F _ _ _ _ _ hf _ _ _ hP hD hS (lv_sub hl [0, 2] rfl)
set_option maxHeartbeats 8000000 in
set_option maxRecDepth 100000 in
theorem wb_M_pushNumber_26 {p : Program} {l : Launch} {e : Env} {s : State} {m : MethodId} {args : Array Value} {below : List Frame} {meth : Method} {c : Code} {D : va_G} {cy : Nat → ClassId} {A : Nat → Prop} {ad : Nat → Nat} {o : Nat} {q : Nat → Nat} {fu : Nat} {k_26 : Int64 → Int64 → Int32 → Int32 → (Nat → Int32) → (Nat → Int32) → (Nat → Int32) → Option ((Nat → Int32) × (Nat → Int32) × (Nat → Int32))} (F : Fx p s m args meth c b_M_pushNumber 7 "CoinKeeperModel" "pushNumber" none D cy ad A) (hk_26 : I_M_pushNumber_26 p l e s m args below meth c D cy A ad o q k_26) : I_M_pushNumber_26 p l e s m args below meth c D cy A ad o q (xb_M_pushNumber_26 fu k_26) := by
  obtain ⟨hx, hb, hr, hml, hown, hts, hlocks, hK, hA, hSt, hnm, hex⟩ := id F
  intro x1 x3 x5 x6 u0 u1 u2 res hf H locs ls hP hD hS hl
  unfold xb_M_pushNumber_26 at hf
  refine lv_lload_n hx hb d_M_pushNumber_26 rfl (lv_at hl 2 rfl) ?_
  refine lv_lconst (v := 0) hx hb d_M_pushNumber_27 (by decide) ?_
  refine W.lcmp hx hb d_M_pushNumber_28 ?_
  refine lv_if_le (tgt := 56) hx hb d_M_pushNumber_29 (by decide) (fun cx => ?_) (fun cx => ?_)
  · have hf := ifp cx hf
    refine lv_iload hx hb d_M_pushNumber_56 (lv_at hl 3 rfl) ?_
    refine lv_if_le (tgt := 90) hx hb d_M_pushNumber_58 (by decide) (fun cx => ?_) (fun cx => ?_)
    · have hf := ifp cx hf
      exact wb_M_pushNumber_90 (fu := fu) F _ _ _ _ _ _ _ hf _ _ _ hP hD hS (lv_sub hl [0, 1, 3, 4] rfl)
    · have hf := ifn cx hf
      refine lv_aload_n hx hb d_M_pushNumber_61 rfl (lv_at hl 0 rfl) ?_
      refine va_get (D := D) (ci := 12) (v := .ref (q 68)) (C := "CoinKeeperModel") (T := F_12) (N := 98) hx hb hts i_12 hown hK hP 0 rfl rfl 77 (by decide) (hts _ gw_1496) (fun _ h9 => h9) rfl d_M_pushNumber_62 ?_
      refine lv_iload hx hb d_M_pushNumber_65 (lv_at hl 4 rfl) ?_
      refine lv_iload hx hb d_M_pushNumber_67 (lv_at hl 3 rfl) ?_
      refine lv_iadd hx hb d_M_pushNumber_69 ?_
      refine lv_topi (fun v1 ev => ?_)
      have hf := bn ev hf
      clear ev
      refine lv_iconst (v := 1) hx hb d_M_pushNumber_70 (by decide) ?_
      refine lv_isub hx hb d_M_pushNumber_71 ?_
      refine lv_topi (fun v2 ev => ?_)
      have hf := bn ev hf
      clear ev
      obtain ⟨hg, hf⟩ := gdp hf
      refine va_bald hx hb hK hP 1 0 rfl rfl (inb_in hg) d_M_pushNumber_72 ?_
      refine lv_topi (fun v3 ev => ?_)
      have hf := bn ev hf
      clear ev
      refine lv_if_ge (tgt := 90) hx hb d_M_pushNumber_73 (by decide) (fun cx => ?_) (fun cx => ?_)
      · have hf := ifp cx hf
        exact wb_M_pushNumber_90 (fu := fu) F _ _ _ _ _ _ _ hf _ _ _ hP hD hS (lv_sub hl [0, 1, 3, 4] rfl)
      · have hf := ifn cx hf
        refine lv_aload_n hx hb d_M_pushNumber_76 rfl (lv_at hl 0 rfl) ?_
        refine va_get (D := D) (ci := 12) (v := .ref (q 68)) (C := "CoinKeeperModel") (T := F_12) (N := 98) hx hb hts i_12 hown hK hP 0 rfl rfl 77 (by decide) (hts _ gw_1496) (fun _ h9 => h9) rfl d_M_pushNumber_77 ?_
        refine lv_iload hx hb d_M_pushNumber_80 (lv_at hl 4 rfl) ?_
        refine lv_iload hx hb d_M_pushNumber_82 (lv_at hl 3 rfl) ?_
        obtain ⟨v4, ev, hf⟩ := bne hf
        refine lv_iinc (v := v4) (lv' := [(5, .int v4), (0, .ref o), (1, .long x1), (3, .long x3), (6, .int x6)]) hx hb d_M_pushNumber_84 hl (k := 3) rfl (by rw [ev]; rfl) (by decide) rfl (fun ls hl => ?_)
        clear ev
        refine lv_iadd hx hb d_M_pushNumber_87 ?_
        refine lv_topi (fun v5 ev => ?_)
        have hf := bn ev hf
        clear ev
        refine lv_iconst (v := 0) hx hb d_M_pushNumber_88 (by decide) ?_
        obtain ⟨hg, hf⟩ := gdp hf
        refine va_bast hx hb hK hP hD hS 1 0 rfl rfl (inb_in hg) d_M_pushNumber_89 (fun H locs hP hD hS => ?_)
        obtain ⟨f6, ev, hf⟩ := bne hf
        have hP : va_P D classes [(o, .inr (12, mo q u0)), ((q 68), .inl (cy 0, 104448, .inl f6)), ((q 69), .inl (cy 1, 408, .inl u2))] H := by rw [ev]; exact hP
        have hD : va_D A [(o, .inr (12, mo q u0)), ((q 68), .inl (cy 0, 104448, .inl f6)), ((q 69), .inl (cy 1, 408, .inl u2))] := by rw [ev]; exact hD
        clear ev
        exact wb_M_pushNumber_90 (fu := fu) F _ _ _ _ _ _ _ hf _ _ _ hP hD hS (lv_sub hl [1, 2, 0, 4] rfl)
  · have hf := ifn cx hf
    refine lv_aload_n hx hb d_M_pushNumber_32 rfl (lv_at hl 0 rfl) ?_
    refine va_get (D := D) (ci := 12) (v := .ref (q 68)) (C := "CoinKeeperModel") (T := F_12) (N := 98) hx hb hts i_12 hown hK hP 0 rfl rfl 77 (by decide) (hts _ gw_1496) (fun _ h9 => h9) rfl d_M_pushNumber_33 ?_
    refine lv_iload hx hb d_M_pushNumber_36 (lv_at hl 4 rfl) ?_
    refine lv_iload hx hb d_M_pushNumber_38 (lv_at hl 3 rfl) ?_
    obtain ⟨v7, ev, hf⟩ := bne hf
    refine lv_iinc (v := v7) (lv' := [(5, .int v7), (0, .ref o), (1, .long x1), (3, .long x3), (6, .int x6)]) hx hb d_M_pushNumber_40 hl (k := 3) rfl (by rw [ev]; rfl) (by decide) rfl (fun ls hl => ?_)
    clear ev
    refine lv_iadd hx hb d_M_pushNumber_43 ?_
    refine lv_topi (fun v8 ev => ?_)
    have hf := bn ev hf
    clear ev
    refine lv_lload_n hx hb d_M_pushNumber_44 rfl (lv_at hl 3 rfl) ?_
    refine lv_l2i hx hb d_M_pushNumber_45 rfl ?_
    refine lv_i2b hx hb d_M_pushNumber_46 rfl ?_
    refine lv_topi (fun v9 ev => ?_)
    have hf := bn ev hf
    clear ev
    obtain ⟨hg, hf⟩ := gdp hf
    refine va_bast hx hb hK hP hD hS 1 0 rfl rfl (inb_in hg) d_M_pushNumber_47 (fun H locs hP hD hS => ?_)
    obtain ⟨f10, ev, hf⟩ := bne hf
    have hP : va_P D classes [(o, .inr (12, mo q u0)), ((q 68), .inl (cy 0, 104448, .inl f10)), ((q 69), .inl (cy 1, 408, .inl u2))] H := by rw [ev]; exact hP
    have hD : va_D A [(o, .inr (12, mo q u0)), ((q 68), .inl (cy 0, 104448, .inl f10)), ((q 69), .inl (cy 1, 408, .inl u2))] := by rw [ev]; exact hD
    clear ev
    refine lv_lload_n hx hb d_M_pushNumber_48 rfl (lv_at hl 3 rfl) ?_
    refine lv_bipush (v := 8) hx hb d_M_pushNumber_49 (by decide) ?_
    refine lv_lshr hx hb d_M_pushNumber_51 rfl ?_
    refine lv_topl (fun v11 ev => ?_)
    have hf := bn ev hf
    clear ev
    refine lv_lstore_n (lv' := [(3, .long v11), (5, .int v7), (0, .ref o), (1, .long x1), (6, .int x6)]) hx hb d_M_pushNumber_52 rfl hl (by decide) rfl (fun ls hl => ?_)
    refine lv_goto (tgt := 26) hx hb d_M_pushNumber_53 (by decide) ?_
    exact hk_26 _ _ _ _ _ _ _ _ hf _ _ _ hP hD hS (lv_sub hl [2, 3, 0, 1, 4] rfl)
theorem w_M_pushNumber_26 {p : Program} {l : Launch} {e : Env} {s : State} {m : MethodId} {args : Array Value} {below : List Frame} {meth : Method} {c : Code} {D : va_G} {cy : Nat → ClassId} {A : Nat → Prop} {ad : Nat → Nat} {o : Nat} {q : Nat → Nat} {fu : Nat} (F : Fx p s m args meth c b_M_pushNumber 7 "CoinKeeperModel" "pushNumber" none D cy ad A) : ∀ n : Nat, I_M_pushNumber_26 p l e s m args below meth c D cy A ad o q (x_M_pushNumber_26 fu n)
  | 0 => fun _ _ _ _ _ _ _ _ hf => nomatch (show (none : Option ((Nat → Int32) × (Nat → Int32) × (Nat → Int32))) = some _ from hf)
  | n + 1 => wb_M_pushNumber_26 F (w_M_pushNumber_26 F n)
set_option maxHeartbeats 8000000 in
set_option maxRecDepth 100000 in
theorem wb_M_pushNumber_12 {p : Program} {l : Launch} {e : Env} {s : State} {m : MethodId} {args : Array Value} {below : List Frame} {meth : Method} {c : Code} {D : va_G} {cy : Nat → ClassId} {A : Nat → Prop} {ad : Nat → Nat} {o : Nat} {q : Nat → Nat} {fu : Nat} (F : Fx p s m args meth c b_M_pushNumber 7 "CoinKeeperModel" "pushNumber" none D cy ad A) : I_M_pushNumber_12 p l e s m args below meth c D cy A ad o q (xb_M_pushNumber_12 fu) := by
  obtain ⟨hx, hb, hr, hml, hown, hts, hlocks, hK, hA, hSt, hnm, hex⟩ := id F
  intro x1 y0 u0 u1 u2 res hf H locs ls hP hD hS hl
  unfold xb_M_pushNumber_12 at hf
  refine lv_lstore_n (lv' := [(3, .long y0), (0, .ref o), (1, .long x1)]) hx hb d_M_pushNumber_12 rfl hl (by decide) rfl (fun ls hl => ?_)
  refine lv_iconst (v := 0) hx hb d_M_pushNumber_13 (by decide) ?_
  refine lv_istore (lv' := [(5, .int (0 : Int32)), (3, .long y0), (0, .ref o), (1, .long x1)]) hx hb d_M_pushNumber_14 hl (by decide) rfl (fun ls hl => ?_)
  refine lv_sipush (v := 256) hx hb d_M_pushNumber_16 (by decide) ?_
  refine lv_aload_n hx hb d_M_pushNumber_19 rfl (lv_at hl 2 rfl) ?_
  refine va_get (D := D) (ci := 12) (v := .int (u0 9)) (C := "CoinKeeperModel") (T := F_12) (N := 98) hx hb hts i_12 hown hK hP 0 rfl rfl 79 (by decide) (hts _ gw_1498) (fun _ h9 => h9) rfl d_M_pushNumber_20 ?_
  refine lv_imul hx hb d_M_pushNumber_23 ?_
  refine lv_topi (fun v1 ev => ?_)
  have hf := bn ev hf
  clear ev
  refine lv_istore (lv' := [(6, .int v1), (5, .int (0 : Int32)), (3, .long y0), (0, .ref o), (1, .long x1)]) hx hb d_M_pushNumber_24 hl (by decide) rfl (fun ls hl => ?_)
  exact w_M_pushNumber_26 F fu _ _ _ _ _ _ _ _ hf _ _ _ hP hD hS (lv_sub hl [3, 4, 2, 1, 0] rfl)
set_option maxHeartbeats 8000000 in
set_option maxRecDepth 100000 in
theorem we_M_pushNumber {p : Program} {l : Launch} {e : Env} {s : State} {m : MethodId} {args : Array Value} {below : List Frame} {meth : Method} {c : Code} {D : va_G} {cy : Nat → ClassId} {A : Nat → Prop} {ad : Nat → Nat} {o : Nat} {q : Nat → Nat} {fu : Nat} (F : Fx p s m args meth c b_M_pushNumber 7 "CoinKeeperModel" "pushNumber" none D cy ad A) : I_M_pushNumber_e p l e s m args below meth c D cy A ad o q (x_M_pushNumber fu) := by
  obtain ⟨hx, hb, hr, hml, hown, hts, hlocks, hK, hA, hSt, hnm, hex⟩ := id F
  intro a1 u0 u1 u2 res hf H locs ls hP hD hS hl
  unfold x_M_pushNumber at hf
  refine lv_lload_n hx hb d_M_pushNumber_0 rfl (lv_at hl 1 rfl) ?_
  refine lv_lconst (v := 0) hx hb d_M_pushNumber_1 (by decide) ?_
  refine W.lcmp hx hb d_M_pushNumber_2 ?_
  refine lv_if_ge (tgt := 11) hx hb d_M_pushNumber_3 (by decide) (fun cx => ?_) (fun cx => ?_)
  · have hf := ifp cx hf
    refine lv_lload_n hx hb d_M_pushNumber_11 rfl (lv_at hl 1 rfl) ?_
    exact wb_M_pushNumber_12 (fu := fu) F _ _ _ _ _ _ hf _ _ _ hP hD hS (lv_sub hl [0, 1] rfl)
  · have hf := ifn cx hf
    refine lv_lload_n hx hb d_M_pushNumber_6 rfl (lv_at hl 1 rfl) ?_
    refine lv_lneg hx hb d_M_pushNumber_7 ?_
    refine lv_goto (tgt := 12) hx hb d_M_pushNumber_8 (by decide) ?_
    exact wb_M_pushNumber_12 (fu := fu) F _ _ _ _ _ _ hf _ _ _ hP hD hS (lv_sub hl [0, 1] rfl)
theorem c_M_pushNumber (l : Launch) (D : va_G) (cy : Nat → ClassId) (ad : Nat → Nat) (fu : Nat) (o : Nat) (q : Nat → Nat) (a1 : Int64) (u0 : Nat → Int32) (u1 : Nat → Int32) (u2 : Nat → Int32) (res : (Nat → Int32) × (Nat → Int32) × (Nat → Int32)) (hf : x_M_pushNumber fu a1 u0 u1 u2 = some res) (sz : Nat) : Met l ({ cls := "CoinKeeperModel", name := "pushNumber", desc := "(J)V" } : Jvm.MethodName) (.code ({ cls := "CoinKeeperModel", name := "pushNumber", desc := "(J)V" } : Jvm.MethodName) b_M_pushNumber 7 none :: gw) rm_M_pushNumber (va_Pc [.ref o, .long a1] (Pr D cy ad [(o, .inr (12, mo q u0)), ((q 68), .inl (cy 0, 104448, .inl u1)), ((q 69), .inl (cy 1, 408, .inl u2))] sz)) (q_M_pushNumber D cy (va_A [(o, .inr (12, mo q u0)), ((q 68), .inl (cy 0, 104448, .inl u1)), ((q 69), .inl (cy 1, 408, .inl u2))] sz) o q res) 0 0 (va_A [(o, .inr (12, mo q u0)), ((q 68), .inl (cy 0, 104448, .inl u1)), ((q 69), .inl (cy 1, 408, .inl u2))] sz) :=
  q_met (Qc := fun A => q_M_pushNumber D cy A o q res) (by decide) rfl rfl (Nat.le_of_ble_eq_true rfl) (fun p e s m below meth c ls F hP hD hS hl => we_M_pushNumber (fu := fu) F a1 u0 u1 u2 res hf _ _ _ hP hD hS hl) sz
