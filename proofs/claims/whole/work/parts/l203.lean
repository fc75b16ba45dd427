abbrev b_Ri_turn : ByteArray := prog_9_method_4_code
theorem d_Ri_turn_0 : decode b_Ri_turn 0 = .ok (.aload_n 0, 1) := by decide +kernel
theorem d_Ri_turn_1 : decode b_Ri_turn 1 = .ok (.getfield 7, 3) := by decide +kernel
theorem d_Ri_turn_4 : decode b_Ri_turn 4 = .ok (.iconst 0, 1) := by decide +kernel
theorem d_Ri_turn_5 : decode b_Ri_turn 5 = .ok (.iaload, 1) := by decide +kernel
theorem d_Ri_turn_6 : decode b_Ri_turn 6 = .ok (.istore 6, 2) := by decide +kernel
theorem d_Ri_turn_8 : decode b_Ri_turn 8 = .ok (.aload_n 0, 1) := by decide +kernel
theorem d_Ri_turn_9 : decode b_Ri_turn 9 = .ok (.getfield 7, 3) := by decide +kernel
theorem d_Ri_turn_12 : decode b_Ri_turn 12 = .ok (.iconst 1, 1) := by decide +kernel
theorem d_Ri_turn_13 : decode b_Ri_turn 13 = .ok (.iaload, 1) := by decide +kernel
theorem d_Ri_turn_14 : decode b_Ri_turn 14 = .ok (.istore 7, 2) := by decide +kernel
theorem d_Ri_turn_16 : decode b_Ri_turn 16 = .ok (.aload_n 0, 1) := by decide +kernel
theorem d_Ri_turn_17 : decode b_Ri_turn 17 = .ok (.getfield 7, 3) := by decide +kernel
theorem d_Ri_turn_20 : decode b_Ri_turn 20 = .ok (.iconst 2, 1) := by decide +kernel
theorem d_Ri_turn_21 : decode b_Ri_turn 21 = .ok (.iaload, 1) := by decide +kernel
theorem d_Ri_turn_22 : decode b_Ri_turn 22 = .ok (.istore 8, 2) := by decide +kernel
theorem d_Ri_turn_24 : decode b_Ri_turn 24 = .ok (.aload_n 0, 1) := by decide +kernel
theorem d_Ri_turn_25 : decode b_Ri_turn 25 = .ok (.getfield 7, 3) := by decide +kernel
theorem d_Ri_turn_28 : decode b_Ri_turn 28 = .ok (.iconst 3, 1) := by decide +kernel
theorem d_Ri_turn_29 : decode b_Ri_turn 29 = .ok (.iaload, 1) := by decide +kernel
theorem d_Ri_turn_30 : decode b_Ri_turn 30 = .ok (.istore 9, 2) := by decide +kernel
theorem d_Ri_turn_32 : decode b_Ri_turn 32 = .ok (.aload_n 0, 1) := by decide +kernel
theorem d_Ri_turn_33 : decode b_Ri_turn 33 = .ok (.getfield 7, 3) := by decide +kernel
theorem d_Ri_turn_36 : decode b_Ri_turn 36 = .ok (.iconst 4, 1) := by decide +kernel
theorem d_Ri_turn_37 : decode b_Ri_turn 37 = .ok (.iaload, 1) := by decide +kernel
theorem d_Ri_turn_38 : decode b_Ri_turn 38 = .ok (.istore 10, 2) := by decide +kernel
theorem d_Ri_turn_40 : decode b_Ri_turn 40 = .ok (.iconst 0, 1) := by decide +kernel
theorem d_Ri_turn_41 : decode b_Ri_turn 41 = .ok (.istore 11, 2) := by decide +kernel
theorem d_Ri_turn_43 : decode b_Ri_turn 43 = .ok (.iload 11, 2) := by decide +kernel
theorem d_Ri_turn_45 : decode b_Ri_turn 45 = .ok (.bipush 80, 2) := by decide +kernel
theorem d_Ri_turn_47 : decode b_Ri_turn 47 = .ok (.if_icmp .ge 105, 3) := by decide +kernel
theorem d_Ri_turn_50 : decode b_Ri_turn 50 = .ok (.iload 11, 2) := by decide +kernel
theorem d_Ri_turn_52 : decode b_Ri_turn 52 = .ok (.iconst 4, 1) := by decide +kernel
theorem d_Ri_turn_53 : decode b_Ri_turn 53 = .ok (.ishr, 1) := by decide +kernel
theorem d_Ri_turn_54 : decode b_Ri_turn 54 = .ok (.istore 12, 2) := by decide +kernel
theorem d_Ri_turn_56 : decode b_Ri_turn 56 = .ok (.iload 6, 2) := by decide +kernel
theorem d_Ri_turn_58 : decode b_Ri_turn 58 = .ok (.iload 5, 2) := by decide +kernel
theorem d_Ri_turn_60 : decode b_Ri_turn 60 = .ok (.iload 12, 2) := by decide +kernel
theorem d_Ri_turn_62 : decode b_Ri_turn 62 = .ok (.isub, 1) := by decide +kernel
theorem d_Ri_turn_63 : decode b_Ri_turn 63 = .ok (.invokestatic 58, 3) := by decide +kernel
theorem d_Ri_turn_66 : decode b_Ri_turn 66 = .ok (.iload 7, 2) := by decide +kernel
theorem d_Ri_turn_68 : decode b_Ri_turn 68 = .ok (.iload 8, 2) := by decide +kernel
theorem d_Ri_turn_70 : decode b_Ri_turn 70 = .ok (.iload 9, 2) := by decide +kernel
theorem d_Ri_turn_72 : decode b_Ri_turn 72 = .ok (.invokestatic 64, 3) := by decide +kernel
theorem d_Ri_turn_75 : decode b_Ri_turn 75 = .ok (.iadd, 1) := by decide +kernel
theorem d_Ri_turn_76 : decode b_Ri_turn 76 = .ok (.aload_n 0, 1) := by decide +kernel
theorem d_Ri_turn_77 : decode b_Ri_turn 77 = .ok (.getfield 19, 3) := by decide +kernel
theorem d_Ri_turn_80 : decode b_Ri_turn 80 = .ok (.aload_n 2, 1) := by decide +kernel
theorem d_Ri_turn_81 : decode b_Ri_turn 81 = .ok (.iload 11, 2) := by decide +kernel
theorem d_Ri_turn_83 : decode b_Ri_turn 83 = .ok (.baload, 1) := by decide +kernel
theorem d_Ri_turn_84 : decode b_Ri_turn 84 = .ok (.iaload, 1) := by decide +kernel
theorem d_Ri_turn_85 : decode b_Ri_turn 85 = .ok (.iadd, 1) := by decide +kernel
theorem d_Ri_turn_86 : decode b_Ri_turn 86 = .ok (.aload 4, 2) := by decide +kernel
theorem d_Ri_turn_88 : decode b_Ri_turn 88 = .ok (.iload 12, 2) := by decide +kernel
theorem d_Ri_turn_90 : decode b_Ri_turn 90 = .ok (.iaload, 1) := by decide +kernel
theorem d_Ri_turn_91 : decode b_Ri_turn 91 = .ok (.iadd, 1) := by decide +kernel
theorem d_Ri_turn_92 : decode b_Ri_turn 92 = .ok (.istore 13, 2) := by decide +kernel
theorem d_Ri_turn_94 : decode b_Ri_turn 94 = .ok (.iload 13, 2) := by decide +kernel
theorem d_Ri_turn_96 : decode b_Ri_turn 96 = .ok (.aload_n 3, 1) := by decide +kernel
theorem d_Ri_turn_97 : decode b_Ri_turn 97 = .ok (.iload 11, 2) := by decide +kernel
theorem d_Ri_turn_99 : decode b_Ri_turn 99 = .ok (.baload, 1) := by decide +kernel
theorem d_Ri_turn_100 : decode b_Ri_turn 100 = .ok (.ishl, 1) := by decide +kernel
theorem d_Ri_turn_101 : decode b_Ri_turn 101 = .ok (.iload 13, 2) := by decide +kernel
theorem d_Ri_turn_103 : decode b_Ri_turn 103 = .ok (.bipush 32, 2) := by decide +kernel
theorem d_Ri_turn_105 : decode b_Ri_turn 105 = .ok (.aload_n 3, 1) := by decide +kernel
theorem d_Ri_turn_106 : decode b_Ri_turn 106 = .ok (.iload 11, 2) := by decide +kernel
theorem d_Ri_turn_108 : decode b_Ri_turn 108 = .ok (.baload, 1) := by decide +kernel
theorem d_Ri_turn_109 : decode b_Ri_turn 109 = .ok (.isub, 1) := by decide +kernel
theorem d_Ri_turn_110 : decode b_Ri_turn 110 = .ok (.iushr, 1) := by decide +kernel
theorem d_Ri_turn_111 : decode b_Ri_turn 111 = .ok (.ior, 1) := by decide +kernel
theorem d_Ri_turn_112 : decode b_Ri_turn 112 = .ok (.iload 10, 2) := by decide +kernel
theorem d_Ri_turn_114 : decode b_Ri_turn 114 = .ok (.iadd, 1) := by decide +kernel
theorem d_Ri_turn_115 : decode b_Ri_turn 115 = .ok (.istore 14, 2) := by decide +kernel
theorem d_Ri_turn_117 : decode b_Ri_turn 117 = .ok (.iload 10, 2) := by decide +kernel
theorem d_Ri_turn_119 : decode b_Ri_turn 119 = .ok (.istore 6, 2) := by decide +kernel
theorem d_Ri_turn_121 : decode b_Ri_turn 121 = .ok (.iload 9, 2) := by decide +kernel
theorem d_Ri_turn_123 : decode b_Ri_turn 123 = .ok (.istore 10, 2) := by decide +kernel
theorem d_Ri_turn_125 : decode b_Ri_turn 125 = .ok (.iload 8, 2) := by decide +kernel
theorem d_Ri_turn_127 : decode b_Ri_turn 127 = .ok (.bipush 10, 2) := by decide +kernel
theorem d_Ri_turn_129 : decode b_Ri_turn 129 = .ok (.ishl, 1) := by decide +kernel
theorem d_Ri_turn_130 : decode b_Ri_turn 130 = .ok (.iload 8, 2) := by decide +kernel
theorem d_Ri_turn_132 : decode b_Ri_turn 132 = .ok (.bipush 22, 2) := by decide +kernel
theorem d_Ri_turn_134 : decode b_Ri_turn 134 = .ok (.iushr, 1) := by decide +kernel
theorem d_Ri_turn_135 : decode b_Ri_turn 135 = .ok (.ior, 1) := by decide +kernel
theorem d_Ri_turn_136 : decode b_Ri_turn 136 = .ok (.istore 9, 2) := by decide +kernel
theorem d_Ri_turn_138 : decode b_Ri_turn 138 = .ok (.iload 7, 2) := by decide +kernel
theorem d_Ri_turn_140 : decode b_Ri_turn 140 = .ok (.istore 8, 2) := by decide +kernel
theorem d_Ri_turn_142 : decode b_Ri_turn 142 = .ok (.iload 14, 2) := by decide +kernel
theorem d_Ri_turn_144 : decode b_Ri_turn 144 = .ok (.istore 7, 2) := by decide +kernel
theorem d_Ri_turn_146 : decode b_Ri_turn 146 = .ok (.iinc 11 1, 3) := by decide +kernel
theorem d_Ri_turn_149 : decode b_Ri_turn 149 = .ok (.goto (-106), 3) := by decide +kernel
theorem d_Ri_turn_152 : decode b_Ri_turn 152 = .ok (.aload_n 1, 1) := by decide +kernel
theorem d_Ri_turn_153 : decode b_Ri_turn 153 = .ok (.iconst 0, 1) := by decide +kernel
theorem d_Ri_turn_154 : decode b_Ri_turn 154 = .ok (.iload 6, 2) := by decide +kernel
theorem d_Ri_turn_156 : decode b_Ri_turn 156 = .ok (.iastore, 1) := by decide +kernel
theorem d_Ri_turn_157 : decode b_Ri_turn 157 = .ok (.aload_n 1, 1) := by decide +kernel
theorem d_Ri_turn_158 : decode b_Ri_turn 158 = .ok (.iconst 1, 1) := by decide +kernel
theorem d_Ri_turn_159 : decode b_Ri_turn 159 = .ok (.iload 7, 2) := by decide +kernel
theorem d_Ri_turn_161 : decode b_Ri_turn 161 = .ok (.iastore, 1) := by decide +kernel
theorem d_Ri_turn_162 : decode b_Ri_turn 162 = .ok (.aload_n 1, 1) := by decide +kernel
theorem d_Ri_turn_163 : decode b_Ri_turn 163 = .ok (.iconst 2, 1) := by decide +kernel
theorem d_Ri_turn_164 : decode b_Ri_turn 164 = .ok (.iload 8, 2) := by decide +kernel
theorem d_Ri_turn_166 : decode b_Ri_turn 166 = .ok (.iastore, 1) := by decide +kernel
theorem d_Ri_turn_167 : decode b_Ri_turn 167 = .ok (.aload_n 1, 1) := by decide +kernel
theorem d_Ri_turn_168 : decode b_Ri_turn 168 = .ok (.iconst 3, 1) := by decide +kernel
theorem d_Ri_turn_169 : decode b_Ri_turn 169 = .ok (.iload 9, 2) := by decide +kernel
theorem d_Ri_turn_171 : decode b_Ri_turn 171 = .ok (.iastore, 1) := by decide +kernel
theorem d_Ri_turn_172 : decode b_Ri_turn 172 = .ok (.aload_n 1, 1) := by decide +kernel
theorem d_Ri_turn_173 : decode b_Ri_turn 173 = .ok (.iconst 4, 1) := by decide +kernel
theorem d_Ri_turn_174 : decode b_Ri_turn 174 = .ok (.iload 10, 2) := by decide +kernel
theorem d_Ri_turn_176 : decode b_Ri_turn 176 = .ok (.iastore, 1) := by decide +kernel
theorem d_Ri_turn_177 : decode b_Ri_turn 177 = .ok (.return_, 1) := by decide +kernel
abbrev rm_Ri_turn_s2x8s3x9s4x10 : Room := { frames := 1, cells := 0, slots := 0, locals := 26 }
abbrev q_Ri_turn_s2x8s3x9s4x10 (D : va_G) (cy : Nat → ClassId) (A : Nat → Prop) (o : Nat) (v_a_left : Value) (v_a_right : Value) (a_state : Nat) (a_x : Nat) (b1 : Nat) (g_state : Nat → Int32) (g_x : Nat → Int32) (res : (Nat → Int32)) : Array Value → State → Outcome → State → Prop := va_Qv (fun (_ : Unit) => True) (fun _ t => Po D cy A [(o, .inr (8, [.ref a_state, v_a_left, v_a_right, .ref a_x])), (a_state, .inl (cy 1, 5, .inl g_state)), (a_x, .inl (cy 1, 16, .inl g_x)), (b1, .inl (cy 1, 5, .inl res))] t) A
def I_Ri_turn_s2x8s3x9s4x10_43 (p : Program) (l : Launch) (e : Env) (s : State) (m : MethodId) (args : Array Value) (below : List Frame) (meth : Method) (c : Code) (D : va_G) (cy : Nat → ClassId) (A : Nat → Prop) (ad : Nat → Nat) (o : Nat) (v_a_left : Value) (v_a_right : Value) (a_state : Nat) (a_x : Nat) (b1 : Nat) (g_state : Nat → Int32) (g_x : Nat → Int32) (k : Int32 → Int32 → Int32 → Int32 → Int32 → Int32 → Int32 → (Nat → Int32) → Option ((Nat → Int32))) : Prop :=
  ∀ (x5 : Int32) (x6 : Int32) (x7 : Int32) (x8 : Int32) (x9 : Int32) (x10 : Int32) (x11 : Int32) (u0 : Nat → Int32) (res : (Nat → Int32)), k x5 x6 x7 x8 x9 x10 x11 u0 = some res → ∀ (H : Heap) (locs : List Loc) (ls : Array Slot), va_P D classes [(o, .inr (8, [.ref a_state, v_a_left, v_a_right, .ref a_x])), (a_state, .inl (cy 1, 5, .inl g_state)), (a_x, .inl (cy 1, 16, .inl g_x)), (b1, .inl (cy 1, 5, .inl u0))] H → va_D A [(o, .inr (8, [.ref a_state, v_a_left, v_a_right, .ref a_x])), (a_state, .inl (cy 1, 5, .inl g_state)), (a_x, .inl (cy 1, 16, .inl g_x)), (b1, .inl (cy 1, 5, .inl u0))] → va_S A s.heap H locs → lv_has ls 15 [(0, .ref o), (1, .ref b1), (2, .ref (ad 8)), (3, .ref (ad 9)), (4, .ref (ad 10)), (5, .int x5), (6, .int x6), (7, .int x7), (8, .int x8), (9, .int x9), (10, .int x10), (11, .int x11)] → W p l e rm_Ri_turn_s2x8s3x9s4x10 s m args below meth c H locs 0 0 (MQ below (q_Ri_turn_s2x8s3x9s4x10 D cy A o v_a_left v_a_right a_state a_x b1 g_state g_x res) args s 0 0 A) (F0 m 43 ls [])
def I_Ri_turn_s2x8s3x9s4x10_e (p : Program) (l : Launch) (e : Env) (s : State) (m : MethodId) (args : Array Value) (below : List Frame) (meth : Method) (c : Code) (D : va_G) (cy : Nat → ClassId) (A : Nat → Prop) (ad : Nat → Nat) (o : Nat) (v_a_left : Value) (v_a_right : Value) (a_state : Nat) (a_x : Nat) (b1 : Nat) (g_state : Nat → Int32) (g_x : Nat → Int32) (k : Int32 → (Nat → Int32) → Option ((Nat → Int32))) : Prop :=
  ∀ (a5 : Int32) (u0 : Nat → Int32) (res : (Nat → Int32)), k a5 u0 = some res → ∀ (H : Heap) (locs : List Loc) (ls : Array Slot), va_P D classes [(o, .inr (8, [.ref a_state, v_a_left, v_a_right, .ref a_x])), (a_state, .inl (cy 1, 5, .inl g_state)), (a_x, .inl (cy 1, 16, .inl g_x)), (b1, .inl (cy 1, 5, .inl u0))] H → va_D A [(o, .inr (8, [.ref a_state, v_a_left, v_a_right, .ref a_x])), (a_state, .inl (cy 1, 5, .inl g_state)), (a_x, .inl (cy 1, 16, .inl g_x)), (b1, .inl (cy 1, 5, .inl u0))] → va_S A s.heap H locs → lv_has ls 15 [(0, .ref o), (1, .ref b1), (2, .ref (ad 8)), (3, .ref (ad 9)), (4, .ref (ad 10)), (5, .int a5)] → W p l e rm_Ri_turn_s2x8s3x9s4x10 s m args below meth c H locs 0 0 (MQ below (q_Ri_turn_s2x8s3x9s4x10 D cy A o v_a_left v_a_right a_state a_x b1 g_state g_x res) args s 0 0 A) (F0 m 0 ls [])
theorem hdc_9 : ({ cls := "CoinKeeper$Ripemd160", name := "mixed", desc := "(IIII)I" } : Jvm.MethodName).cls ≠ "java/lang/invoke/MethodHandle" ∧ ({ cls := "CoinKeeper$Ripemd160", name := "mixed", desc := "(IIII)I" } : Jvm.MethodName).cls ≠ "java/lang/invoke/VarHandle" ∧ (parseMethodDescriptor ({ cls := "CoinKeeper$Ripemd160", name := "mixed", desc := "(IIII)I" } : Jvm.MethodName).desc).map (fun d => d.parameters.length) = some 4 := by decide +kernel
set_option maxHeartbeats 8000000 in
set_option maxRecDepth 100000 in
theorem wb_Ri_turn_s2x8s3x9s4x10_43 {p : Program} {l : Launch} {e : Env} {s : State} {m : MethodId} {args : Array Value} {below : List Frame} {meth : Method} {c : Code} {D : va_G} {cy : Nat → ClassId} {A : Nat → Prop} {ad : Nat → Nat} {o : Nat} {v_a_left : Value} {v_a_right : Value} {a_state : Nat} {a_x : Nat} {b1 : Nat} {g_state : Nat → Int32} {g_x : Nat → Int32} {fu : Nat} {k_43 : Int32 → Int32 → Int32 → Int32 → Int32 → Int32 → Int32 → (Nat → Int32) → Option ((Nat → Int32))} (F : Fx p s m args meth c b_Ri_turn 15 "CoinKeeper$Ripemd160" "turn" none D cy ad A) (hk_43 : I_Ri_turn_s2x8s3x9s4x10_43 p l e s m args below meth c D cy A ad o v_a_left v_a_right a_state a_x b1 g_state g_x k_43) : I_Ri_turn_s2x8s3x9s4x10_43 p l e s m args below meth c D cy A ad o v_a_left v_a_right a_state a_x b1 g_state g_x (xb_Ri_turn_s2x8s3x9s4x10_43 fu g_state g_x k_43) := by
  obtain ⟨hx, hb, hr, hml, hown, hts, hlocks, hK, hA, hSt, hnm, hex⟩ := id F
  intro x5 x6 x7 x8 x9 x10 x11 u0 res hf H locs ls hP hD hS hl
  unfold xb_Ri_turn_s2x8s3x9s4x10_43 at hf
  refine lv_iload hx hb d_Ri_turn_43 (lv_at hl 11 rfl) ?_
  refine lv_bipush (v := 80) hx hb d_Ri_turn_45 (by decide) ?_
  refine lv_icmp_ge (tgt := 152) hx hb d_Ri_turn_47 (by decide) (fun cx => ?_) (fun cx => ?_)
  · have hf := ifp cx hf
    refine lv_aload_n hx hb d_Ri_turn_152 rfl (lv_at hl 1 rfl) ?_
    refine lv_iconst (v := 0) hx hb d_Ri_turn_153 (by decide) ?_
    refine lv_iload hx hb d_Ri_turn_154 (lv_at hl 6 rfl) ?_
    refine va_iast hx hb hK hP hD hS 3 1 rfl rfl (inb_in (by decide)) d_Ri_turn_156 (fun H locs hP hD hS => ?_)
    obtain ⟨f1, ev, hf⟩ := bne hf
    have hP : va_P D classes [(o, .inr (8, [.ref a_state, v_a_left, v_a_right, .ref a_x])), (a_state, .inl (cy 1, 5, .inl g_state)), (a_x, .inl (cy 1, 16, .inl g_x)), (b1, .inl (cy 1, 5, .inl f1))] H := by rw [ev]; exact hP
    have hD : va_D A [(o, .inr (8, [.ref a_state, v_a_left, v_a_right, .ref a_x])), (a_state, .inl (cy 1, 5, .inl g_state)), (a_x, .inl (cy 1, 16, .inl g_x)), (b1, .inl (cy 1, 5, .inl f1))] := by rw [ev]; exact hD
    clear ev
    refine lv_aload_n hx hb d_Ri_turn_157 rfl (lv_at hl 1 rfl) ?_
    refine lv_iconst (v := 1) hx hb d_Ri_turn_158 (by decide) ?_
    refine lv_iload hx hb d_Ri_turn_159 (lv_at hl 7 rfl) ?_
    refine va_iast hx hb hK hP hD hS 3 1 rfl rfl (inb_in (by decide)) d_Ri_turn_161 (fun H locs hP hD hS => ?_)
    obtain ⟨f2, ev, hf⟩ := bne hf
    have hP : va_P D classes [(o, .inr (8, [.ref a_state, v_a_left, v_a_right, .ref a_x])), (a_state, .inl (cy 1, 5, .inl g_state)), (a_x, .inl (cy 1, 16, .inl g_x)), (b1, .inl (cy 1, 5, .inl f2))] H := by rw [ev]; exact hP
    have hD : va_D A [(o, .inr (8, [.ref a_state, v_a_left, v_a_right, .ref a_x])), (a_state, .inl (cy 1, 5, .inl g_state)), (a_x, .inl (cy 1, 16, .inl g_x)), (b1, .inl (cy 1, 5, .inl f2))] := by rw [ev]; exact hD
    clear ev
    refine lv_aload_n hx hb d_Ri_turn_162 rfl (lv_at hl 1 rfl) ?_
    refine lv_iconst (v := 2) hx hb d_Ri_turn_163 (by decide) ?_
    refine lv_iload hx hb d_Ri_turn_164 (lv_at hl 8 rfl) ?_
    refine va_iast hx hb hK hP hD hS 3 1 rfl rfl (inb_in (by decide)) d_Ri_turn_166 (fun H locs hP hD hS => ?_)
    obtain ⟨f3, ev, hf⟩ := bne hf
    have hP : va_P D classes [(o, .inr (8, [.ref a_state, v_a_left, v_a_right, .ref a_x])), (a_state, .inl (cy 1, 5, .inl g_state)), (a_x, .inl (cy 1, 16, .inl g_x)), (b1, .inl (cy 1, 5, .inl f3))] H := by rw [ev]; exact hP
    have hD : va_D A [(o, .inr (8, [.ref a_state, v_a_left, v_a_right, .ref a_x])), (a_state, .inl (cy 1, 5, .inl g_state)), (a_x, .inl (cy 1, 16, .inl g_x)), (b1, .inl (cy 1, 5, .inl f3))] := by rw [ev]; exact hD
    clear ev
    refine lv_aload_n hx hb d_Ri_turn_167 rfl (lv_at hl 1 rfl) ?_
    refine lv_iconst (v := 3) hx hb d_Ri_turn_168 (by decide) ?_
    refine lv_iload hx hb d_Ri_turn_169 (lv_at hl 9 rfl) ?_
    refine va_iast hx hb hK hP hD hS 3 1 rfl rfl (inb_in (by decide)) d_Ri_turn_171 (fun H locs hP hD hS => ?_)
    obtain ⟨f4, ev, hf⟩ := bne hf
    have hP : va_P D classes [(o, .inr (8, [.ref a_state, v_a_left, v_a_right, .ref a_x])), (a_state, .inl (cy 1, 5, .inl g_state)), (a_x, .inl (cy 1, 16, .inl g_x)), (b1, .inl (cy 1, 5, .inl f4))] H := by rw [ev]; exact hP
    have hD : va_D A [(o, .inr (8, [.ref a_state, v_a_left, v_a_right, .ref a_x])), (a_state, .inl (cy 1, 5, .inl g_state)), (a_x, .inl (cy 1, 16, .inl g_x)), (b1, .inl (cy 1, 5, .inl f4))] := by rw [ev]; exact hD
    clear ev
    refine lv_aload_n hx hb d_Ri_turn_172 rfl (lv_at hl 1 rfl) ?_
    refine lv_iconst (v := 4) hx hb d_Ri_turn_173 (by decide) ?_
    refine lv_iload hx hb d_Ri_turn_174 (lv_at hl 10 rfl) ?_
    refine va_iast hx hb hK hP hD hS 3 1 rfl rfl (inb_in (by decide)) d_Ri_turn_176 (fun H locs hP hD hS => ?_)
    obtain ⟨f5, ev, hf⟩ := bne hf
    have hP : va_P D classes [(o, .inr (8, [.ref a_state, v_a_left, v_a_right, .ref a_x])), (a_state, .inl (cy 1, 5, .inl g_state)), (a_x, .inl (cy 1, 16, .inl g_x)), (b1, .inl (cy 1, 5, .inl f5))] H := by rw [ev]; exact hP
    have hD : va_D A [(o, .inr (8, [.ref a_state, v_a_left, v_a_right, .ref a_x])), (a_state, .inl (cy 1, 5, .inl g_state)), (a_x, .inl (cy 1, 16, .inl g_x)), (b1, .inl (cy 1, 5, .inl f5))] := by rw [ev]; exact hD
    clear ev
    obtain rfl := Option.some.inj hf
    exact q_rv hx hb hr hlocks hK hP hD hS d_Ri_turn_177
  · have hf := ifn cx hf
    refine lv_iload hx hb d_Ri_turn_50 (lv_at hl 11 rfl) ?_
    refine lv_iconst (v := 4) hx hb d_Ri_turn_52 (by decide) ?_
    refine lv_ishr hx hb d_Ri_turn_53 ?_
    refine lv_topi (fun v6 ev => ?_)
    have hf := bn ev hf
    clear ev
    refine lv_istore (lv' := [(12, .int v6), (0, .ref o), (1, .ref b1), (2, .ref (ad 8)), (3, .ref (ad 9)), (4, .ref (ad 10)), (5, .int x5), (6, .int x6), (7, .int x7), (8, .int x8), (9, .int x9), (10, .int x10), (11, .int x11)]) hx hb d_Ri_turn_54 hl (by decide) rfl (fun ls hl => ?_)
    refine lv_iload hx hb d_Ri_turn_56 (lv_at hl 7 rfl) ?_
    refine lv_iload hx hb d_Ri_turn_58 (lv_at hl 6 rfl) ?_
    refine lv_iload hx hb d_Ri_turn_60 (lv_at hl 0 rfl) ?_
    refine lv_isub hx hb d_Ri_turn_62 ?_
    refine lv_topi (fun v7 ev => ?_)
    have hf := bn ev hf
    clear ev
    refine va_mabs (rest := [.int x6]) hx hb (hml.trans hl.1.symm) hown (hts _ gw_1257) (hts _ gw_1156) (hts _ gw_15) (hts _ gw_1157) (by decide) (Nat.le_of_ble_eq_true rfl) (Nat.zero_le _) (Nat.zero_le _) d_Ri_turn_63 ?_
    refine lv_topi (fun v8 ev => ?_)
    have hf := bn ev hf
    clear ev
    refine lv_iload hx hb d_Ri_turn_66 (lv_at hl 8 rfl) ?_
    refine lv_iload hx hb d_Ri_turn_68 (lv_at hl 9 rfl) ?_
    refine lv_iload hx hb d_Ri_turn_70 (lv_at hl 10 rfl) ?_
    obtain ⟨v9, hc, hf⟩ := bdp1 hf
    refine q_ai (wr := [(o, .inr (8, [.ref a_state, v_a_left, v_a_right, .ref a_x])), (a_state, .inl (cy 1, 5, .inl g_state)), (a_x, .inl (cy 1, 16, .inl g_x)), (b1, .inl (cy 1, 5, .inl u0))]) (va_runS (As := [.int v8, .int x7, .int x8, .int x9]) (rest := [.int x6]) ⟨hx, hb, hml, hown, hts⟩ (c_Ri_mixed l D cy ad fu v8 x7 x8 x9 _ hc H.size) ⟨q_cB hts gw_1260 gw_7 gw_1258 hdc_9 ⟨by decide, by decide⟩, hts _ gw_1259⟩ (q_pre (hP.sub [] rfl) (hD.sub [] (by decide) rfl) hK hSt hS (va_free hD hS hA [] rfl) _) rfl rfl hl.1 rfl (lv_room (Nat.le_of_ble_eq_true rfl)) d_Ri_turn_72 ⟨Nat.le_of_ble_eq_true rfl, Nat.le_of_ble_eq_true rfl⟩) hP hD hS hA [] [0, 1, 2, 3] rfl rfl (by decide) (by decide) (fun H locs hP hD hS => ?_)
    clear hc
    have hP : va_P D classes [(o, .inr (8, [.ref a_state, v_a_left, v_a_right, .ref a_x])), (a_state, .inl (cy 1, 5, .inl g_state)), (a_x, .inl (cy 1, 16, .inl g_x)), (b1, .inl (cy 1, 5, .inl u0))] H := hP
    have hD : va_D A [(o, .inr (8, [.ref a_state, v_a_left, v_a_right, .ref a_x])), (a_state, .inl (cy 1, 5, .inl g_state)), (a_x, .inl (cy 1, 16, .inl g_x)), (b1, .inl (cy 1, 5, .inl u0))] := hD
    refine lv_iadd hx hb d_Ri_turn_75 ?_
    refine lv_topi (fun v10 ev => ?_)
    have hf := bn ev hf
    clear ev
    refine lv_aload_n hx hb d_Ri_turn_76 rfl (lv_at hl 1 rfl) ?_
    refine va_get (D := D) (ci := 8) (v := .ref a_x) (C := "CoinKeeper$Ripemd160") (T := F_8) (N := 4) hx hb hts i_8 hown hK hP 0 rfl rfl 3 (by decide) (hts _ gw_194) (fun _ h9 => h9) rfl d_Ri_turn_77 ?_
    refine lv_aload_n hx hb d_Ri_turn_80 rfl (lv_at hl 3 rfl) ?_
    refine lv_iload hx hb d_Ri_turn_81 (lv_at hl 12 rfl) ?_
    obtain ⟨hg, hf⟩ := gdp hf
    refine va_tb (v := .int (tb_8.getD x11.toNatClampNeg 0)) hx hb (hSt.1 8 _ rfl).2 hS (inb_in hg) rfl d_Ri_turn_83 ?_
    refine lv_topi (fun v11 ev => ?_)
    have hf := bn ev hf
    clear ev
    obtain ⟨hg, hf⟩ := gdp hf
    refine va_iald hx hb hK hP 2 1 rfl rfl (inb_in hg) d_Ri_turn_84 ?_
    refine lv_topi (fun v12 ev => ?_)
    have hf := bn ev hf
    clear ev
    refine lv_iadd hx hb d_Ri_turn_85 ?_
    refine lv_topi (fun v13 ev => ?_)
    have hf := bn ev hf
    clear ev
    refine lv_aload hx hb d_Ri_turn_86 (lv_at hl 5 rfl) ?_
    refine lv_iload hx hb d_Ri_turn_88 (lv_at hl 0 rfl) ?_
    obtain ⟨hg, hf⟩ := gdp hf
    refine va_ti (v := .int (tb_10.getD v6.toNatClampNeg 0)) hx hb (hSt.1 10 _ rfl).2 hS (inb_in hg) rfl d_Ri_turn_90 ?_
    refine lv_topi (fun v14 ev => ?_)
    have hf := bn ev hf
    clear ev
    refine lv_iadd hx hb d_Ri_turn_91 ?_
    refine lv_topi (fun v15 ev => ?_)
    have hf := bn ev hf
    clear ev
    refine lv_istore (lv' := [(13, .int v15), (12, .int v6), (0, .ref o), (1, .ref b1), (2, .ref (ad 8)), (3, .ref (ad 9)), (4, .ref (ad 10)), (5, .int x5), (6, .int x6), (7, .int x7), (8, .int x8), (9, .int x9), (10, .int x10), (11, .int x11)]) hx hb d_Ri_turn_92 hl (by decide) rfl (fun ls hl => ?_)
    refine lv_iload hx hb d_Ri_turn_94 (lv_at hl 0 rfl) ?_
    refine lv_aload_n hx hb d_Ri_turn_96 rfl (lv_at hl 5 rfl) ?_
    refine lv_iload hx hb d_Ri_turn_97 (lv_at hl 13 rfl) ?_
    obtain ⟨hg, hf⟩ := gdp hf
    refine va_tb (v := .int (tb_9.getD x11.toNatClampNeg 0)) hx hb (hSt.1 9 _ rfl).2 hS (inb_in hg) rfl d_Ri_turn_99 ?_
    refine lv_topi (fun v16 ev => ?_)
    have hf := bn ev hf
    clear ev
    refine lv_ishl hx hb d_Ri_turn_100 ?_
    refine lv_topi (fun v17 ev => ?_)
    have hf := bn ev hf
    clear ev
    refine lv_iload hx hb d_Ri_turn_101 (lv_at hl 0 rfl) ?_
    refine lv_bipush (v := 32) hx hb d_Ri_turn_103 (by decide) ?_
    refine lv_aload_n hx hb d_Ri_turn_105 rfl (lv_at hl 5 rfl) ?_
    refine lv_iload hx hb d_Ri_turn_106 (lv_at hl 13 rfl) ?_
    obtain ⟨hg, hf⟩ := gdp hf
    refine va_tb (v := .int (tb_9.getD x11.toNatClampNeg 0)) hx hb (hSt.1 9 _ rfl).2 hS (inb_in hg) rfl d_Ri_turn_108 ?_
    refine lv_topi (fun v18 ev => ?_)
    have hf := bn ev hf
    clear ev
    refine lv_isub hx hb d_Ri_turn_109 ?_
    refine lv_iushr hx hb d_Ri_turn_110 rfl ?_
    refine lv_ior hx hb d_Ri_turn_111 ?_
    refine lv_topi (fun v19 ev => ?_)
    have hf := bn ev hf
    clear ev
    refine lv_iload hx hb d_Ri_turn_112 (lv_at hl 12 rfl) ?_
    refine lv_iadd hx hb d_Ri_turn_114 ?_
    refine lv_topi (fun v20 ev => ?_)
    have hf := bn ev hf
    clear ev
    refine lv_istore (lv' := [(14, .int v20), (13, .int v15), (12, .int v6), (0, .ref o), (1, .ref b1), (2, .ref (ad 8)), (3, .ref (ad 9)), (4, .ref (ad 10)), (5, .int x5), (6, .int x6), (7, .int x7), (8, .int x8), (9, .int x9), (10, .int x10), (11, .int x11)]) hx hb d_Ri_turn_115 hl (by decide) rfl (fun ls hl => ?_)
    refine lv_iload hx hb d_Ri_turn_117 (lv_at hl 13 rfl) ?_
    refine lv_istore (lv' := [(6, .int x10), (14, .int v20), (13, .int v15), (12, .int v6), (0, .ref o), (1, .ref b1), (2, .ref (ad 8)), (3, .ref (ad 9)), (4, .ref (ad 10)), (5, .int x5), (7, .int x7), (8, .int x8), (9, .int x9), (10, .int x10), (11, .int x11)]) hx hb d_Ri_turn_119 hl (by decide) rfl (fun ls hl => ?_)
    refine lv_iload hx hb d_Ri_turn_121 (lv_at hl 12 rfl) ?_
    refine lv_istore (lv' := [(10, .int x9), (6, .int x10), (14, .int v20), (13, .int v15), (12, .int v6), (0, .ref o), (1, .ref b1), (2, .ref (ad 8)), (3, .ref (ad 9)), (4, .ref (ad 10)), (5, .int x5), (7, .int x7), (8, .int x8), (9, .int x9), (11, .int x11)]) hx hb d_Ri_turn_123 hl (by decide) rfl (fun ls hl => ?_)
    refine lv_iload hx hb d_Ri_turn_125 (lv_at hl 12 rfl) ?_
    refine lv_bipush (v := 10) hx hb d_Ri_turn_127 (by decide) ?_
    refine lv_ishl hx hb d_Ri_turn_129 ?_
    refine lv_topi (fun v21 ev => ?_)
    have hf := bn ev hf
    clear ev
    refine lv_iload hx hb d_Ri_turn_130 (lv_at hl 12 rfl) ?_
    refine lv_bipush (v := 22) hx hb d_Ri_turn_132 (by decide) ?_
    refine lv_iushr hx hb d_Ri_turn_134 rfl ?_
    refine lv_ior hx hb d_Ri_turn_135 ?_
    refine lv_topi (fun v22 ev => ?_)
    have hf := bn ev hf
    clear ev
    refine lv_istore (lv' := [(9, .int v22), (10, .int x9), (6, .int x10), (14, .int v20), (13, .int v15), (12, .int v6), (0, .ref o), (1, .ref b1), (2, .ref (ad 8)), (3, .ref (ad 9)), (4, .ref (ad 10)), (5, .int x5), (7, .int x7), (8, .int x8), (11, .int x11)]) hx hb d_Ri_turn_136 hl (by decide) rfl (fun ls hl => ?_)
    refine lv_iload hx hb d_Ri_turn_138 (lv_at hl 12 rfl) ?_
    refine lv_istore (lv' := [(8, .int x7), (9, .int v22), (10, .int x9), (6, .int x10), (14, .int v20), (13, .int v15), (12, .int v6), (0, .ref o), (1, .ref b1), (2, .ref (ad 8)), (3, .ref (ad 9)), (4, .ref (ad 10)), (5, .int x5), (7, .int x7), (11, .int x11)]) hx hb d_Ri_turn_140 hl (by decide) rfl (fun ls hl => ?_)
    refine lv_iload hx hb d_Ri_turn_142 (lv_at hl 4 rfl) ?_
    refine lv_istore (lv' := [(7, .int v20), (8, .int x7), (9, .int v22), (10, .int x9), (6, .int x10), (14, .int v20), (13, .int v15), (12, .int v6), (0, .ref o), (1, .ref b1), (2, .ref (ad 8)), (3, .ref (ad 9)), (4, .ref (ad 10)), (5, .int x5), (11, .int x11)]) hx hb d_Ri_turn_144 hl (by decide) rfl (fun ls hl => ?_)
    obtain ⟨v23, ev, hf⟩ := bne hf
    refine lv_iinc (v := v23) (lv' := [(11, .int v23), (7, .int v20), (8, .int x7), (9, .int v22), (10, .int x9), (6, .int x10), (14, .int v20), (13, .int v15), (12, .int v6), (0, .ref o), (1, .ref b1), (2, .ref (ad 8)), (3, .ref (ad 9)), (4, .ref (ad 10)), (5, .int x5)]) hx hb d_Ri_turn_146 hl (k := 14) rfl (by rw [ev]; rfl) (by decide) rfl (fun ls hl => ?_)
    clear ev
    refine lv_goto (tgt := 43) hx hb d_Ri_turn_149 (by decide) ?_
    exact hk_43 _ _ _ _ _ _ _ _ _ hf _ _ _ hP hD hS (lv_sub hl [9, 10, 11, 12, 13, 14, 5, 1, 2, 3, 4, 0] rfl)
theorem w_Ri_turn_s2x8s3x9s4x10_43 {p : Program} {l : Launch} {e : Env} {s : State} {m : MethodId} {args : Array Value} {below : List Frame} {meth : Method} {c : Code} {D : va_G} {cy : Nat → ClassId} {A : Nat → Prop} {ad : Nat → Nat} {o : Nat} {v_a_left : Value} {v_a_right : Value} {a_state : Nat} {a_x : Nat} {b1 : Nat} {g_state : Nat → Int32} {g_x : Nat → Int32} {fu : Nat} (F : Fx p s m args meth c b_Ri_turn 15 "CoinKeeper$Ripemd160" "turn" none D cy ad A) : ∀ n : Nat, I_Ri_turn_s2x8s3x9s4x10_43 p l e s m args below meth c D cy A ad o v_a_left v_a_right a_state a_x b1 g_state g_x (x_Ri_turn_s2x8s3x9s4x10_43 fu g_state g_x n)
  | 0 => fun _ _ _ _ _ _ _ _ _ hf => nomatch (show (none : Option ((Nat → Int32))) = some _ from hf)
  | n + 1 => wb_Ri_turn_s2x8s3x9s4x10_43 F (w_Ri_turn_s2x8s3x9s4x10_43 F n)
set_option maxHeartbeats 8000000 in
set_option maxRecDepth 100000 in
theorem we_Ri_turn_s2x8s3x9s4x10 {p : Program} {l : Launch} {e : Env} {s : State} {m : MethodId} {args : Array Value} {below : List Frame} {meth : Method} {c : Code} {D : va_G} {cy : Nat → ClassId} {A : Nat → Prop} {ad : Nat → Nat} {o : Nat} {v_a_left : Value} {v_a_right : Value} {a_state : Nat} {a_x : Nat} {b1 : Nat} {g_state : Nat → Int32} {g_x : Nat → Int32} {fu : Nat} (F : Fx p s m args meth c b_Ri_turn 15 "CoinKeeper$Ripemd160" "turn" none D cy ad A) : I_Ri_turn_s2x8s3x9s4x10_e p l e s m args below meth c D cy A ad o v_a_left v_a_right a_state a_x b1 g_state g_x (x_Ri_turn_s2x8s3x9s4x10 fu g_state g_x) := by
  obtain ⟨hx, hb, hr, hml, hown, hts, hlocks, hK, hA, hSt, hnm, hex⟩ := id F
  intro a5 u0 res hf H locs ls hP hD hS hl
  unfold x_Ri_turn_s2x8s3x9s4x10 at hf
  refine lv_aload_n hx hb d_Ri_turn_0 rfl (lv_at hl 0 rfl) ?_
  refine va_get (D := D) (ci := 8) (v := .ref a_state) (C := "CoinKeeper$Ripemd160") (T := F_8) (N := 4) hx hb hts i_8 hown hK hP 0 rfl rfl 0 (by decide) (hts _ gw_191) (fun _ h9 => h9) rfl d_Ri_turn_1 ?_
  refine lv_iconst (v := 0) hx hb d_Ri_turn_4 (by decide) ?_
  refine va_iald hx hb hK hP 1 1 rfl rfl (inb_in (by decide)) d_Ri_turn_5 ?_
  refine lv_topi (fun v1 ev => ?_)
  have hf := bn ev hf
  clear ev
  refine lv_istore (lv' := [(6, .int v1), (0, .ref o), (1, .ref b1), (2, .ref (ad 8)), (3, .ref (ad 9)), (4, .ref (ad 10)), (5, .int a5)]) hx hb d_Ri_turn_6 hl (by decide) rfl (fun ls hl => ?_)
  refine lv_aload_n hx hb d_Ri_turn_8 rfl (lv_at hl 1 rfl) ?_
  refine va_get (D := D) (ci := 8) (v := .ref a_state) (C := "CoinKeeper$Ripemd160") (T := F_8) (N := 4) hx hb hts i_8 hown hK hP 0 rfl rfl 0 (by decide) (hts _ gw_191) (fun _ h9 => h9) rfl d_Ri_turn_9 ?_
  refine lv_iconst (v := 1) hx hb d_Ri_turn_12 (by decide) ?_
  refine va_iald hx hb hK hP 1 1 rfl rfl (inb_in (by decide)) d_Ri_turn_13 ?_
  refine lv_topi (fun v2 ev => ?_)
  have hf := bn ev hf
  clear ev
  refine lv_istore (lv' := [(7, .int v2), (6, .int v1), (0, .ref o), (1, .ref b1), (2, .ref (ad 8)), (3, .ref (ad 9)), (4, .ref (ad 10)), (5, .int a5)]) hx hb d_Ri_turn_14 hl (by decide) rfl (fun ls hl => ?_)
  refine lv_aload_n hx hb d_Ri_turn_16 rfl (lv_at hl 2 rfl) ?_
  refine va_get (D := D) (ci := 8) (v := .ref a_state) (C := "CoinKeeper$Ripemd160") (T := F_8) (N := 4) hx hb hts i_8 hown hK hP 0 rfl rfl 0 (by decide) (hts _ gw_191) (fun _ h9 => h9) rfl d_Ri_turn_17 ?_
  refine lv_iconst (v := 2) hx hb d_Ri_turn_20 (by decide) ?_
  refine va_iald hx hb hK hP 1 1 rfl rfl (inb_in (by decide)) d_Ri_turn_21 ?_
  refine lv_topi (fun v3 ev => ?_)
  have hf := bn ev hf
  clear ev
  refine lv_istore (lv' := [(8, .int v3), (7, .int v2), (6, .int v1), (0, .ref o), (1, .ref b1), (2, .ref (ad 8)), (3, .ref (ad 9)), (4, .ref (ad 10)), (5, .int a5)]) hx hb d_Ri_turn_22 hl (by decide) rfl (fun ls hl => ?_)
  refine lv_aload_n hx hb d_Ri_turn_24 rfl (lv_at hl 3 rfl) ?_
  refine va_get (D := D) (ci := 8) (v := .ref a_state) (C := "CoinKeeper$Ripemd160") (T := F_8) (N := 4) hx hb hts i_8 hown hK hP 0 rfl rfl 0 (by decide) (hts _ gw_191) (fun _ h9 => h9) rfl d_Ri_turn_25 ?_
  refine lv_iconst (v := 3) hx hb d_Ri_turn_28 (by decide) ?_
  refine va_iald hx hb hK hP 1 1 rfl rfl (inb_in (by decide)) d_Ri_turn_29 ?_
  refine lv_topi (fun v4 ev => ?_)
  have hf := bn ev hf
  clear ev
  refine lv_istore (lv' := [(9, .int v4), (8, .int v3), (7, .int v2), (6, .int v1), (0, .ref o), (1, .ref b1), (2, .ref (ad 8)), (3, .ref (ad 9)), (4, .ref (ad 10)), (5, .int a5)]) hx hb d_Ri_turn_30 hl (by decide) rfl (fun ls hl => ?_)
  refine lv_aload_n hx hb d_Ri_turn_32 rfl (lv_at hl 4 rfl) ?_
  refine va_get (D := D) (ci := 8) (v := .ref a_state) (C := "CoinKeeper$Ripemd160") (T := F_8) (N := 4) hx hb hts i_8 hown hK hP 0 rfl rfl 0 (by decide) (hts _ gw_191) (fun _ h9 => h9) rfl d_Ri_turn_33 ?_
  refine lv_iconst (v := 4) hx hb d_Ri_turn_36 (by decide) ?_
  refine va_iald hx hb hK hP 1 1 rfl rfl (inb_in (by decide)) d_Ri_turn_37 ?_
  refine lv_topi (fun v5 ev => ?_)
  have hf := bn ev hf
  clear ev
  refine lv_istore (lv' := [(10, .int v5), (9, .int v4), (8, .int v3), (7, .int v2), (6, .int v1), (0, .ref o), (1, .ref b1), (2, .ref (ad 8)), (3, .ref (ad 9)), (4, .ref (ad 10)), (5, .int a5)]) hx hb d_Ri_turn_38 hl (by decide) rfl (fun ls hl => ?_)
  refine lv_iconst (v := 0) hx hb d_Ri_turn_40 (by decide) ?_
  refine lv_istore (lv' := [(11, .int (0 : Int32)), (10, .int v5), (9, .int v4), (8, .int v3), (7, .int v2), (6, .int v1), (0, .ref o), (1, .ref b1), (2, .ref (ad 8)), (3, .ref (ad 9)), (4, .ref (ad 10)), (5, .int a5)]) hx hb d_Ri_turn_41 hl (by decide) rfl (fun ls hl => ?_)
  exact w_Ri_turn_s2x8s3x9s4x10_43 F fu _ _ _ _ _ _ _ _ _ hf _ _ _ hP hD hS (lv_sub hl [6, 7, 8, 9, 10, 11, 5, 4, 3, 2, 1, 0] rfl)
theorem c_Ri_turn_s2x8s3x9s4x10 (l : Launch) (D : va_G) (cy : Nat → ClassId) (ad : Nat → Nat) (fu : Nat) (o : Nat) (v_a_left : Value) (v_a_right : Value) (a_state : Nat) (a_x : Nat) (b1 : Nat) (g_state : Nat → Int32) (g_x : Nat → Int32) (a5 : Int32) (u0 : Nat → Int32) (res : (Nat → Int32)) (hf : x_Ri_turn_s2x8s3x9s4x10 fu g_state g_x a5 u0 = some res) (sz : Nat) : Met l ({ cls := "CoinKeeper$Ripemd160", name := "turn", desc := "([I[B[B[II)V" } : Jvm.MethodName) (.code ({ cls := "CoinKeeper$Ripemd160", name := "turn", desc := "([I[B[B[II)V" } : Jvm.MethodName) b_Ri_turn 15 none :: gw) rm_Ri_turn_s2x8s3x9s4x10 (va_Pc [.ref o, .ref b1, .ref (ad 8), .ref (ad 9), .ref (ad 10), .int a5] (Pr D cy ad [(o, .inr (8, [.ref a_state, v_a_left, v_a_right, .ref a_x])), (a_state, .inl (cy 1, 5, .inl g_state)), (a_x, .inl (cy 1, 16, .inl g_x)), (b1, .inl (cy 1, 5, .inl u0))] sz)) (q_Ri_turn_s2x8s3x9s4x10 D cy (va_A [(o, .inr (8, [.ref a_state, v_a_left, v_a_right, .ref a_x])), (a_state, .inl (cy 1, 5, .inl g_state)), (a_x, .inl (cy 1, 16, .inl g_x)), (b1, .inl (cy 1, 5, .inl u0))] sz) o v_a_left v_a_right a_state a_x b1 g_state g_x res) 0 0 (va_A [(o, .inr (8, [.ref a_state, v_a_left, v_a_right, .ref a_x])), (a_state, .inl (cy 1, 5, .inl g_state)), (a_x, .inl (cy 1, 16, .inl g_x)), (b1, .inl (cy 1, 5, .inl u0))] sz) :=
  q_met (Qc := fun A => q_Ri_turn_s2x8s3x9s4x10 D cy A o v_a_left v_a_right a_state a_x b1 g_state g_x res) (by decide) rfl rfl (Nat.le_of_ble_eq_true rfl) (fun p e s m below meth c ls F hP hD hS hl => we_Ri_turn_s2x8s3x9s4x10 (fu := fu) F a5 u0 res hf _ _ _ hP hD hS hl) sz
abbrev rm_Ri_turn_s2x11s3x12s4x13 : Room := { frames := 1, cells := 0, slots := 0, locals := 26 }
abbrev q_Ri_turn_s2x11s3x12s4x13 (D : va_G) (cy : Nat → ClassId) (A : Nat → Prop) (o : Nat) (v_a_left : Value) (v_a_right : Value) (a_state : Nat) (a_x : Nat) (b1 : Nat) (g_state : Nat → Int32) (g_x : Nat → Int32) (res : (Nat → Int32)) : Array Value → State → Outcome → State → Prop := va_Qv (fun (_ : Unit) => True) (fun _ t => Po D cy A [(o, .inr (8, [.ref a_state, v_a_left, v_a_right, .ref a_x])), (a_state, .inl (cy 1, 5, .inl g_state)), (a_x, .inl (cy 1, 16, .inl g_x)), (b1, .inl (cy 1, 5, .inl res))] t) A
def I_Ri_turn_s2x11s3x12s4x13_43 (p : Program) (l : Launch) (e : Env) (s : State) (m : MethodId) (args : Array Value) (below : List Frame) (meth : Method) (c : Code) (D : va_G) (cy : Nat → ClassId) (A : Nat → Prop) (ad : Nat → Nat) (o : Nat) (v_a_left : Value) (v_a_right : Value) (a_state : Nat) (a_x : Nat) (b1 : Nat) (g_state : Nat → Int32) (g_x : Nat → Int32) (k : Int32 → Int32 → Int32 → Int32 → Int32 → Int32 → Int32 → (Nat → Int32) → Option ((Nat → Int32))) : Prop :=
  ∀ (x5 : Int32) (x6 : Int32) (x7 : Int32) (x8 : Int32) (x9 : Int32) (x10 : Int32) (x11 : Int32) (u0 : Nat → Int32) (res : (Nat → Int32)), k x5 x6 x7 x8 x9 x10 x11 u0 = some res → ∀ (H : Heap) (locs : List Loc) (ls : Array Slot), va_P D classes [(o, .inr (8, [.ref a_state, v_a_left, v_a_right, .ref a_x])), (a_state, .inl (cy 1, 5, .inl g_state)), (a_x, .inl (cy 1, 16, .inl g_x)), (b1, .inl (cy 1, 5, .inl u0))] H → va_D A [(o, .inr (8, [.ref a_state, v_a_left, v_a_right, .ref a_x])), (a_state, .inl (cy 1, 5, .inl g_state)), (a_x, .inl (cy 1, 16, .inl g_x)), (b1, .inl (cy 1, 5, .inl u0))] → va_S A s.heap H locs → lv_has ls 15 [(0, .ref o), (1, .ref b1), (2, .ref (ad 11)), (3, .ref (ad 12)), (4, .ref (ad 13)), (5, .int x5), (6, .int x6), (7, .int x7), (8, .int x8), (9, .int x9), (10, .int x10), (11, .int x11)] → W p l e rm_Ri_turn_s2x11s3x12s4x13 s m args below meth c H locs 0 0 (MQ below (q_Ri_turn_s2x11s3x12s4x13 D cy A o v_a_left v_a_right a_state a_x b1 g_state g_x res) args s 0 0 A) (F0 m 43 ls [])
def I_Ri_turn_s2x11s3x12s4x13_e (p : Program) (l : Launch) (e : Env) (s : State) (m : MethodId) (args : Array Value) (below : List Frame) (meth : Method) (c : Code) (D : va_G) (cy : Nat → ClassId) (A : Nat → Prop) (ad : Nat → Nat) (o : Nat) (v_a_left : Value) (v_a_right : Value) (a_state : Nat) (a_x : Nat) (b1 : Nat) (g_state : Nat → Int32) (g_x : Nat → Int32) (k : Int32 → (Nat → Int32) → Option ((Nat → Int32))) : Prop :=
  ∀ (a5 : Int32) (u0 : Nat → Int32) (res : (Nat → Int32)), k a5 u0 = some res → ∀ (H : Heap) (locs : List Loc) (ls : Array Slot), va_P D classes [(o, .inr (8, [.ref a_state, v_a_left, v_a_right, .ref a_x])), (a_state, .inl (cy 1, 5, .inl g_state)), (a_x, .inl (cy 1, 16, .inl g_x)), (b1, .inl (cy 1, 5, .inl u0))] H → va_D A [(o, .inr (8, [.ref a_state, v_a_left, v_a_right, .ref a_x])), (a_state, .inl (cy 1, 5, .inl g_state)), (a_x, .inl (cy 1, 16, .inl g_x)), (b1, .inl (cy 1, 5, .inl u0))] → va_S A s.heap H locs → lv_has ls 15 [(0, .ref o), (1, .ref b1), (2, .ref (ad 11)), (3, .ref (ad 12)), (4, .ref (ad 13)), (5, .int a5)] → W p l e rm_Ri_turn_s2x11s3x12s4x13 s m args below meth c H locs 0 0 (MQ below (q_Ri_turn_s2x11s3x12s4x13 D cy A o v_a_left v_a_right a_state a_x b1 g_state g_x res) args s 0 0 A) (F0 m 0 ls [])
set_option maxHeartbeats 8000000 in
set_option maxRecDepth 100000 in
theorem wb_Ri_turn_s2x11s3x12s4x13_43 {p : Program} {l : Launch} {e : Env} {s : State} {m : MethodId} {args : Array Value} {below : List Frame} {meth : Method} {c : Code} {D : va_G} {cy : Nat → ClassId} {A : Nat → Prop} {ad : Nat → Nat} {o : Nat} {v_a_left : Value} {v_a_right : Value} {a_state : Nat} {a_x : Nat} {b1 : Nat} {g_state : Nat → Int32} {g_x : Nat → Int32} {fu : Nat} {k_43 : Int32 → Int32 → Int32 → Int32 → Int32 → Int32 → Int32 → (Nat → Int32) → Option ((Nat → Int32))} (F : Fx p s m args meth c b_Ri_turn 15 "CoinKeeper$Ripemd160" "turn" none D cy ad A) (hk_43 : I_Ri_turn_s2x11s3x12s4x13_43 p l e s m args below meth c D cy A ad o v_a_left v_a_right a_state a_x b1 g_state g_x k_43) : I_Ri_turn_s2x11s3x12s4x13_43 p l e s m args below meth c D cy A ad o v_a_left v_a_right a_state a_x b1 g_state g_x (xb_Ri_turn_s2x11s3x12s4x13_43 fu g_state g_x k_43) := by
  obtain ⟨hx, hb, hr, hml, hown, hts, hlocks, hK, hA, hSt, hnm, hex⟩ := id F
  intro x5 x6 x7 x8 x9 x10 x11 u0 res hf H locs ls hP hD hS hl
  unfold xb_Ri_turn_s2x11s3x12s4x13_43 at hf
  refine lv_iload hx hb d_Ri_turn_43 (lv_at hl 11 rfl) ?_
  refine lv_bipush (v := 80) hx hb d_Ri_turn_45 (by decide) ?_
  refine lv_icmp_ge (tgt := 152) hx hb d_Ri_turn_47 (by decide) (fun cx => ?_) (fun cx => ?_)
  · have hf := ifp cx hf
    refine lv_aload_n hx hb d_Ri_turn_152 rfl (lv_at hl 1 rfl) ?_
    refine lv_iconst (v := 0) hx hb d_Ri_turn_153 (by decide) ?_
    refine lv_iload hx hb d_Ri_turn_154 (lv_at hl 6 rfl) ?_
    refine va_iast hx hb hK hP hD hS 3 1 rfl rfl (inb_in (by decide)) d_Ri_turn_156 (fun H locs hP hD hS => ?_)
    obtain ⟨f1, ev, hf⟩ := bne hf
    have hP : va_P D classes [(o, .inr (8, [.ref a_state, v_a_left, v_a_right, .ref a_x])), (a_state, .inl (cy 1, 5, .inl g_state)), (a_x, .inl (cy 1, 16, .inl g_x)), (b1, .inl (cy 1, 5, .inl f1))] H := by rw [ev]; exact hP
    have hD : va_D A [(o, .inr (8, [.ref a_state, v_a_left, v_a_right, .ref a_x])), (a_state, .inl (cy 1, 5, .inl g_state)), (a_x, .inl (cy 1, 16, .inl g_x)), (b1, .inl (cy 1, 5, .inl f1))] := by rw [ev]; exact hD
    clear ev
    refine lv_aload_n hx hb d_Ri_turn_157 rfl (lv_at hl 1 rfl) ?_
    refine lv_iconst (v := 1) hx hb d_Ri_turn_158 (by decide) ?_
    refine lv_iload hx hb d_Ri_turn_159 (lv_at hl 7 rfl) ?_
    refine va_iast hx hb hK hP hD hS 3 1 rfl rfl (inb_in (by decide)) d_Ri_turn_161 (fun H locs hP hD hS => ?_)
    obtain ⟨f2, ev, hf⟩ := bne hf
    have hP : va_P D classes [(o, .inr (8, [.ref a_state, v_a_left, v_a_right, .ref a_x])), (a_state, .inl (cy 1, 5, .inl g_state)), (a_x, .inl (cy 1, 16, .inl g_x)), (b1, .inl (cy 1, 5, .inl f2))] H := by rw [ev]; exact hP
    have hD : va_D A [(o, .inr (8, [.ref a_state, v_a_left, v_a_right, .ref a_x])), (a_state, .inl (cy 1, 5, .inl g_state)), (a_x, .inl (cy 1, 16, .inl g_x)), (b1, .inl (cy 1, 5, .inl f2))] := by rw [ev]; exact hD
    clear ev
    refine lv_aload_n hx hb d_Ri_turn_162 rfl (lv_at hl 1 rfl) ?_
    refine lv_iconst (v := 2) hx hb d_Ri_turn_163 (by decide) ?_
    refine lv_iload hx hb d_Ri_turn_164 (lv_at hl 8 rfl) ?_
    refine va_iast hx hb hK hP hD hS 3 1 rfl rfl (inb_in (by decide)) d_Ri_turn_166 (fun H locs hP hD hS => ?_)
    obtain ⟨f3, ev, hf⟩ := bne hf
    have hP : va_P D classes [(o, .inr (8, [.ref a_state, v_a_left, v_a_right, .ref a_x])), (a_state, .inl (cy 1, 5, .inl g_state)), (a_x, .inl (cy 1, 16, .inl g_x)), (b1, .inl (cy 1, 5, .inl f3))] H := by rw [ev]; exact hP
    have hD : va_D A [(o, .inr (8, [.ref a_state, v_a_left, v_a_right, .ref a_x])), (a_state, .inl (cy 1, 5, .inl g_state)), (a_x, .inl (cy 1, 16, .inl g_x)), (b1, .inl (cy 1, 5, .inl f3))] := by rw [ev]; exact hD
    clear ev
    refine lv_aload_n hx hb d_Ri_turn_167 rfl (lv_at hl 1 rfl) ?_
    refine lv_iconst (v := 3) hx hb d_Ri_turn_168 (by decide) ?_
    refine lv_iload hx hb d_Ri_turn_169 (lv_at hl 9 rfl) ?_
    refine va_iast hx hb hK hP hD hS 3 1 rfl rfl (inb_in (by decide)) d_Ri_turn_171 (fun H locs hP hD hS => ?_)
    obtain ⟨f4, ev, hf⟩ := bne hf
    have hP : va_P D classes [(o, .inr (8, [.ref a_state, v_a_left, v_a_right, .ref a_x])), (a_state, .inl (cy 1, 5, .inl g_state)), (a_x, .inl (cy 1, 16, .inl g_x)), (b1, .inl (cy 1, 5, .inl f4))] H := by rw [ev]; exact hP
    have hD : va_D A [(o, .inr (8, [.ref a_state, v_a_left, v_a_right, .ref a_x])), (a_state, .inl (cy 1, 5, .inl g_state)), (a_x, .inl (cy 1, 16, .inl g_x)), (b1, .inl (cy 1, 5, .inl f4))] := by rw [ev]; exact hD
    clear ev
    refine lv_aload_n hx hb d_Ri_turn_172 rfl (lv_at hl 1 rfl) ?_
    refine lv_iconst (v := 4) hx hb d_Ri_turn_173 (by decide) ?_
    refine lv_iload hx hb d_Ri_turn_174 (lv_at hl 10 rfl) ?_
    refine va_iast hx hb hK hP hD hS 3 1 rfl rfl (inb_in (by decide)) d_Ri_turn_176 (fun H locs hP hD hS => ?_)
    obtain ⟨f5, ev, hf⟩ := bne hf
    have hP : va_P D classes [(o, .inr (8, [.ref a_state, v_a_left, v_a_right, .ref a_x])), (a_state, .inl (cy 1, 5, .inl g_state)), (a_x, .inl (cy 1, 16, .inl g_x)), (b1, .inl (cy 1, 5, .inl f5))] H := by rw [ev]; exact hP
    have hD : va_D A [(o, .inr (8, [.ref a_state, v_a_left, v_a_right, .ref a_x])), (a_state, .inl (cy 1, 5, .inl g_state)), (a_x, .inl (cy 1, 16, .inl g_x)), (b1, .inl (cy 1, 5, .inl f5))] := by rw [ev]; exact hD
    clear ev
    obtain rfl := Option.some.inj hf
    exact q_rv hx hb hr hlocks hK hP hD hS d_Ri_turn_177
  · have hf := ifn cx hf
    refine lv_iload hx hb d_Ri_turn_50 (lv_at hl 11 rfl) ?_
    refine lv_iconst (v := 4) hx hb d_Ri_turn_52 (by decide) ?_
    refine lv_ishr hx hb d_Ri_turn_53 ?_
    refine lv_topi (fun v6 ev => ?_)
    have hf := bn ev hf
    clear ev
    refine lv_istore (lv' := [(12, .int v6), (0, .ref o), (1, .ref b1), (2, .ref (ad 11)), (3, .ref (ad 12)), (4, .ref (ad 13)), (5, .int x5), (6, .int x6), (7, .int x7), (8, .int x8), (9, .int x9), (10, .int x10), (11, .int x11)]) hx hb d_Ri_turn_54 hl (by decide) rfl (fun ls hl => ?_)
    refine lv_iload hx hb d_Ri_turn_56 (lv_at hl 7 rfl) ?_
    refine lv_iload hx hb d_Ri_turn_58 (lv_at hl 6 rfl) ?_
    refine lv_iload hx hb d_Ri_turn_60 (lv_at hl 0 rfl) ?_
    refine lv_isub hx hb d_Ri_turn_62 ?_
    refine lv_topi (fun v7 ev => ?_)
    have hf := bn ev hf
    clear ev
    refine va_mabs (rest := [.int x6]) hx hb (hml.trans hl.1.symm) hown (hts _ gw_1257) (hts _ gw_1156) (hts _ gw_15) (hts _ gw_1157) (by decide) (Nat.le_of_ble_eq_true rfl) (Nat.zero_le _) (Nat.zero_le _) d_Ri_turn_63 ?_
    refine lv_topi (fun v8 ev => ?_)
    have hf := bn ev hf
    clear ev
    refine lv_iload hx hb d_Ri_turn_66 (lv_at hl 8 rfl) ?_
    refine lv_iload hx hb d_Ri_turn_68 (lv_at hl 9 rfl) ?_
    refine lv_iload hx hb d_Ri_turn_70 (lv_at hl 10 rfl) ?_
    obtain ⟨v9, hc, hf⟩ := bdp1 hf
    refine q_ai (wr := [(o, .inr (8, [.ref a_state, v_a_left, v_a_right, .ref a_x])), (a_state, .inl (cy 1, 5, .inl g_state)), (a_x, .inl (cy 1, 16, .inl g_x)), (b1, .inl (cy 1, 5, .inl u0))]) (va_runS (As := [.int v8, .int x7, .int x8, .int x9]) (rest := [.int x6]) ⟨hx, hb, hml, hown, hts⟩ (c_Ri_mixed l D cy ad fu v8 x7 x8 x9 _ hc H.size) ⟨q_cB hts gw_1260 gw_7 gw_1258 hdc_9 ⟨by decide, by decide⟩, hts _ gw_1259⟩ (q_pre (hP.sub [] rfl) (hD.sub [] (by decide) rfl) hK hSt hS (va_free hD hS hA [] rfl) _) rfl rfl hl.1 rfl (lv_room (Nat.le_of_ble_eq_true rfl)) d_Ri_turn_72 ⟨Nat.le_of_ble_eq_true rfl, Nat.le_of_ble_eq_true rfl⟩) hP hD hS hA [] [0, 1, 2, 3] rfl rfl (by decide) (by decide) (fun H locs hP hD hS => ?_)
    clear hc
    have hP : va_P D classes [(o, .inr (8, [.ref a_state, v_a_left, v_a_right, .ref a_x])), (a_state, .inl (cy 1, 5, .inl g_state)), (a_x, .inl (cy 1, 16, .inl g_x)), (b1, .inl (cy 1, 5, .inl u0))] H := hP
    have hD : va_D A [(o, .inr (8, [.ref a_state, v_a_left, v_a_right, .ref a_x])), (a_state, .inl (cy 1, 5, .inl g_state)), (a_x, .inl (cy 1, 16, .inl g_x)), (b1, .inl (cy 1, 5, .inl u0))] := hD
    refine lv_iadd hx hb d_Ri_turn_75 ?_
    refine lv_topi (fun v10 ev => ?_)
    have hf := bn ev hf
    clear ev
    refine lv_aload_n hx hb d_Ri_turn_76 rfl (lv_at hl 1 rfl) ?_
    refine va_get (D := D) (ci := 8) (v := .ref a_x) (C := "CoinKeeper$Ripemd160") (T := F_8) (N := 4) hx hb hts i_8 hown hK hP 0 rfl rfl 3 (by decide) (hts _ gw_194) (fun _ h9 => h9) rfl d_Ri_turn_77 ?_
    refine lv_aload_n hx hb d_Ri_turn_80 rfl (lv_at hl 3 rfl) ?_
    refine lv_iload hx hb d_Ri_turn_81 (lv_at hl 12 rfl) ?_
    obtain ⟨hg, hf⟩ := gdp hf
    refine va_tb (v := .int (tb_11.getD x11.toNatClampNeg 0)) hx hb (hSt.1 11 _ rfl).2 hS (inb_in hg) rfl d_Ri_turn_83 ?_
    refine lv_topi (fun v11 ev => ?_)
    have hf := bn ev hf
    clear ev
    obtain ⟨hg, hf⟩ := gdp hf
    refine va_iald hx hb hK hP 2 1 rfl rfl (inb_in hg) d_Ri_turn_84 ?_
    refine lv_topi (fun v12 ev => ?_)
    have hf := bn ev hf
    clear ev
    refine lv_iadd hx hb d_Ri_turn_85 ?_
    refine lv_topi (fun v13 ev => ?_)
    have hf := bn ev hf
    clear ev
    refine lv_aload hx hb d_Ri_turn_86 (lv_at hl 5 rfl) ?_
    refine lv_iload hx hb d_Ri_turn_88 (lv_at hl 0 rfl) ?_
    obtain ⟨hg, hf⟩ := gdp hf
    refine va_ti (v := .int (tb_13.getD v6.toNatClampNeg 0)) hx hb (hSt.1 13 _ rfl).2 hS (inb_in hg) rfl d_Ri_turn_90 ?_
    refine lv_topi (fun v14 ev => ?_)
    have hf := bn ev hf
    clear ev
    refine lv_iadd hx hb d_Ri_turn_91 ?_
    refine lv_topi (fun v15 ev => ?_)
    have hf := bn ev hf
    clear ev
    refine lv_istore (lv' := [(13, .int v15), (12, .int v6), (0, .ref o), (1, .ref b1), (2, .ref (ad 11)), (3, .ref (ad 12)), (4, .ref (ad 13)), (5, .int x5), (6, .int x6), (7, .int x7), (8, .int x8), (9, .int x9), (10, .int x10), (11, .int x11)]) hx hb d_Ri_turn_92 hl (by decide) rfl (fun ls hl => ?_)
    refine lv_iload hx hb d_Ri_turn_94 (lv_at hl 0 rfl) ?_
    refine lv_aload_n hx hb d_Ri_turn_96 rfl (lv_at hl 5 rfl) ?_
    refine lv_iload hx hb d_Ri_turn_97 (lv_at hl 13 rfl) ?_
    obtain ⟨hg, hf⟩ := gdp hf
    refine va_tb (v := .int (tb_12.getD x11.toNatClampNeg 0)) hx hb (hSt.1 12 _ rfl).2 hS (inb_in hg) rfl d_Ri_turn_99 ?_
    refine lv_topi (fun v16 ev => ?_)
    have hf := bn ev hf
    clear ev
    refine lv_ishl hx hb d_Ri_turn_100 ?_
    refine lv_topi (fun v17 ev => ?_)
    have hf := bn ev hf
    clear ev
    refine lv_iload hx hb d_Ri_turn_101 (lv_at hl 0 rfl) ?_
    refine lv_bipush (v := 32) hx hb d_Ri_turn_103 (by decide) ?_
    refine lv_aload_n hx hb d_Ri_turn_105 rfl (lv_at hl 5 rfl) ?_
    refine lv_iload hx hb d_Ri_turn_106 (lv_at hl 13 rfl) ?_
    obtain ⟨hg, hf⟩ := gdp hf
    refine va_tb (v := .int (tb_12.getD x11.toNatClampNeg 0)) hx hb (hSt.1 12 _ rfl).2 hS (inb_in hg) rfl d_Ri_turn_108 ?_
    refine lv_topi (fun v18 ev => ?_)
    have hf := bn ev hf
    clear ev
    refine lv_isub hx hb d_Ri_turn_109 ?_
    refine lv_iushr hx hb d_Ri_turn_110 rfl ?_
    refine lv_ior hx hb d_Ri_turn_111 ?_
    refine lv_topi (fun v19 ev => ?_)
    have hf := bn ev hf
    clear ev
    refine lv_iload hx hb d_Ri_turn_112 (lv_at hl 12 rfl) ?_
    refine lv_iadd hx hb d_Ri_turn_114 ?_
    refine lv_topi (fun v20 ev => ?_)
    have hf := bn ev hf
    clear ev
    refine lv_istore (lv' := [(14, .int v20), (13, .int v15), (12, .int v6), (0, .ref o), (1, .ref b1), (2, .ref (ad 11)), (3, .ref (ad 12)), (4, .ref (ad 13)), (5, .int x5), (6, .int x6), (7, .int x7), (8, .int x8), (9, .int x9), (10, .int x10), (11, .int x11)]) hx hb d_Ri_turn_115 hl (by decide) rfl (fun ls hl => ?_)
    refine lv_iload hx hb d_Ri_turn_117 (lv_at hl 13 rfl) ?_
    refine lv_istore (lv' := [(6, .int x10), (14, .int v20), (13, .int v15), (12, .int v6), (0, .ref o), (1, .ref b1), (2, .ref (ad 11)), (3, .ref (ad 12)), (4, .ref (ad 13)), (5, .int x5), (7, .int x7), (8, .int x8), (9, .int x9), (10, .int x10), (11, .int x11)]) hx hb d_Ri_turn_119 hl (by decide) rfl (fun ls hl => ?_)
    refine lv_iload hx hb d_Ri_turn_121 (lv_at hl 12 rfl) ?_
    refine lv_istore (lv' := [(10, .int x9), (6, .int x10), (14, .int v20), (13, .int v15), (12, .int v6), (0, .ref o), (1, .ref b1), (2, .ref (ad 11)), (3, .ref (ad 12)), (4, .ref (ad 13)), (5, .int x5), (7, .int x7), (8, .int x8), (9, .int x9), (11, .int x11)]) hx hb d_Ri_turn_123 hl (by decide) rfl (fun ls hl => ?_)
    refine lv_iload hx hb d_Ri_turn_125 (lv_at hl 12 rfl) ?_
    refine lv_bipush (v := 10) hx hb d_Ri_turn_127 (by decide) ?_
    refine lv_ishl hx hb d_Ri_turn_129 ?_
    refine lv_topi (fun v21 ev => ?_)
    have hf := bn ev hf
    clear ev
    refine lv_iload hx hb d_Ri_turn_130 (lv_at hl 12 rfl) ?_
    refine lv_bipush (v := 22) hx hb d_Ri_turn_132 (by decide) ?_
    refine lv_iushr hx hb d_Ri_turn_134 rfl ?_
    refine lv_ior hx hb d_Ri_turn_135 ?_
    refine lv_topi (fun v22 ev => ?_)
    have hf := bn ev hf
    clear ev
    refine lv_istore (lv' := [(9, .int v22), (10, .int x9), (6, .int x10), (14, .int v20), (13, .int v15), (12, .int v6), (0, .ref o), (1, .ref b1), (2, .ref (ad 11)), (3, .ref (ad 12)), (4, .ref (ad 13)), (5, .int x5), (7, .int x7), (8, .int x8), (11, .int x11)]) hx hb d_Ri_turn_136 hl (by decide) rfl (fun ls hl => ?_)
    refine lv_iload hx hb d_Ri_turn_138 (lv_at hl 12 rfl) ?_
    refine lv_istore (lv' := [(8, .int x7), (9, .int v22), (10, .int x9), (6, .int x10), (14, .int v20), (13, .int v15), (12, .int v6), (0, .ref o), (1, .ref b1), (2, .ref (ad 11)), (3, .ref (ad 12)), (4, .ref (ad 13)), (5, .int x5), (7, .int x7), (11, .int x11)]) hx hb d_Ri_turn_140 hl (by decide) rfl (fun ls hl => ?_)
    refine lv_iload hx hb d_Ri_turn_142 (lv_at hl 4 rfl) ?_
    refine lv_istore (lv' := [(7, .int v20), (8, .int x7), (9, .int v22), (10, .int x9), (6, .int x10), (14, .int v20), (13, .int v15), (12, .int v6), (0, .ref o), (1, .ref b1), (2, .ref (ad 11)), (3, .ref (ad 12)), (4, .ref (ad 13)), (5, .int x5), (11, .int x11)]) hx hb d_Ri_turn_144 hl (by decide) rfl (fun ls hl => ?_)
    obtain ⟨v23, ev, hf⟩ := bne hf
    refine lv_iinc (v := v23) (lv' := [(11, .int v23), (7, .int v20), (8, .int x7), (9, .int v22), (10, .int x9), (6, .int x10), (14, .int v20), (13, .int v15), (12, .int v6), (0, .ref o), (1, .ref b1), (2, .ref (ad 11)), (3, .ref (ad 12)), (4, .ref (ad 13)), (5, .int x5)]) hx hb d_Ri_turn_146 hl (k := 14) rfl (by rw [ev]; rfl) (by decide) rfl (fun ls hl => ?_)
    clear ev
    refine lv_goto (tgt := 43) hx hb d_Ri_turn_149 (by decide) ?_
    exact hk_43 _ _ _ _ _ _ _ _ _ hf _ _ _ hP hD hS (lv_sub hl [9, 10, 11, 12, 13, 14, 5, 1, 2, 3, 4, 0] rfl)
theorem w_Ri_turn_s2x11s3x12s4x13_43 {p : Program} {l : Launch} {e : Env} {s : State} {m : MethodId} {args : Array Value} {below : List Frame} {meth : Method} {c : Code} {D : va_G} {cy : Nat → ClassId} {A : Nat → Prop} {ad : Nat → Nat} {o : Nat} {v_a_left : Value} {v_a_right : Value} {a_state : Nat} {a_x : Nat} {b1 : Nat} {g_state : Nat → Int32} {g_x : Nat → Int32} {fu : Nat} (F : Fx p s m args meth c b_Ri_turn 15 "CoinKeeper$Ripemd160" "turn" none D cy ad A) : ∀ n : Nat, I_Ri_turn_s2x11s3x12s4x13_43 p l e s m args below meth c D cy A ad o v_a_left v_a_right a_state a_x b1 g_state g_x (x_Ri_turn_s2x11s3x12s4x13_43 fu g_state g_x n)
  | 0 => fun _ _ _ _ _ _ _ _ _ hf => nomatch (show (none : Option ((Nat → Int32))) = some _ from hf)
  | n + 1 => wb_Ri_turn_s2x11s3x12s4x13_43 F (w_Ri_turn_s2x11s3x12s4x13_43 F n)
set_option maxHeartbeats 8000000 in
set_option maxRecDepth 100000 in
theorem we_Ri_turn_s2x11s3x12s4x13 {p : Program} {l : Launch} {e : Env} {s : State} {m : MethodId} {args : Array Value} {below : List Frame} {meth : Method} {c : Code} {D : va_G} {cy : Nat → ClassId} {A : Nat → Prop} {ad : Nat → Nat} {o : Nat} {v_a_left : Value} {v_a_right : Value} {a_state : Nat} {a_x : Nat} {b1 : Nat} {g_state : Nat → Int32} {g_x : Nat → Int32} {fu : Nat} (F : Fx p s m args meth c b_Ri_turn 15 "CoinKeeper$Ripemd160" "turn" none D cy ad A) : I_Ri_turn_s2x11s3x12s4x13_e p l e s m args below meth c D cy A ad o v_a_left v_a_right a_state a_x b1 g_state g_x (x_Ri_turn_s2x11s3x12s4x13 fu g_state g_x) := by
  obtain ⟨hx, hb, hr, hml, hown, hts, hlocks, hK, hA, hSt, hnm, hex⟩ := id F
  intro a5 u0 res hf H locs ls hP hD hS hl
  unfold x_Ri_turn_s2x11s3x12s4x13 at hf
  refine lv_aload_n hx hb d_Ri_turn_0 rfl (lv_at hl 0 rfl) ?_
  refine va_get (D := D) (ci := 8) (v := .ref a_state) (C := "CoinKeeper$Ripemd160") (T := F_8) (N := 4) hx hb hts i_8 hown hK hP 0 rfl rfl 0 (by decide) (hts _ gw_191) (fun _ h9 => h9) rfl d_Ri_turn_1 ?_
  refine lv_iconst (v := 0) hx hb d_Ri_turn_4 (by decide) ?_
  refine va_iald hx hb hK hP 1 1 rfl rfl (inb_in (by decide)) d_Ri_turn_5 ?_
  refine lv_topi (fun v1 ev => ?_)
  have hf := bn ev hf
  clear ev
  refine lv_istore (lv' := [(6, .int v1), (0, .ref o), (1, .ref b1), (2, .ref (ad 11)), (3, .ref (ad 12)), (4, .ref (ad 13)), (5, .int a5)]) hx hb d_Ri_turn_6 hl (by decide) rfl (fun ls hl => ?_)
  refine lv_aload_n hx hb d_Ri_turn_8 rfl (lv_at hl 1 rfl) ?_
  refine va_get (D := D) (ci := 8) (v := .ref a_state) (C := "CoinKeeper$Ripemd160") (T := F_8) (N := 4) hx hb hts i_8 hown hK hP 0 rfl rfl 0 (by decide) (hts _ gw_191) (fun _ h9 => h9) rfl d_Ri_turn_9 ?_
  refine lv_iconst (v := 1) hx hb d_Ri_turn_12 (by decide) ?_
  refine va_iald hx hb hK hP 1 1 rfl rfl (inb_in (by decide)) d_Ri_turn_13 ?_
  refine lv_topi (fun v2 ev => ?_)
  have hf := bn ev hf
  clear ev
  refine lv_istore (lv' := [(7, .int v2), (6, .int v1), (0, .ref o), (1, .ref b1), (2, .ref (ad 11)), (3, .ref (ad 12)), (4, .ref (ad 13)), (5, .int a5)]) hx hb d_Ri_turn_14 hl (by decide) rfl (fun ls hl => ?_)
  refine lv_aload_n hx hb d_Ri_turn_16 rfl (lv_at hl 2 rfl) ?_
  refine va_get (D := D) (ci := 8) (v := .ref a_state) (C := "CoinKeeper$Ripemd160") (T := F_8) (N := 4) hx hb hts i_8 hown hK hP 0 rfl rfl 0 (by decide) (hts _ gw_191) (fun _ h9 => h9) rfl d_Ri_turn_17 ?_
  refine lv_iconst (v := 2) hx hb d_Ri_turn_20 (by decide) ?_
  refine va_iald hx hb hK hP 1 1 rfl rfl (inb_in (by decide)) d_Ri_turn_21 ?_
  refine lv_topi (fun v3 ev => ?_)
  have hf := bn ev hf
  clear ev
  refine lv_istore (lv' := [(8, .int v3), (7, .int v2), (6, .int v1), (0, .ref o), (1, .ref b1), (2, .ref (ad 11)), (3, .ref (ad 12)), (4, .ref (ad 13)), (5, .int a5)]) hx hb d_Ri_turn_22 hl (by decide) rfl (fun ls hl => ?_)
  refine lv_aload_n hx hb d_Ri_turn_24 rfl (lv_at hl 3 rfl) ?_
  refine va_get (D := D) (ci := 8) (v := .ref a_state) (C := "CoinKeeper$Ripemd160") (T := F_8) (N := 4) hx hb hts i_8 hown hK hP 0 rfl rfl 0 (by decide) (hts _ gw_191) (fun _ h9 => h9) rfl d_Ri_turn_25 ?_
  refine lv_iconst (v := 3) hx hb d_Ri_turn_28 (by decide) ?_
  refine va_iald hx hb hK hP 1 1 rfl rfl (inb_in (by decide)) d_Ri_turn_29 ?_
  refine lv_topi (fun v4 ev => ?_)
  have hf := bn ev hf
  clear ev
  refine lv_istore (lv' := [(9, .int v4), (8, .int v3), (7, .int v2), (6, .int v1), (0, .ref o), (1, .ref b1), (2, .ref (ad 11)), (3, .ref (ad 12)), (4, .ref (ad 13)), (5, .int a5)]) hx hb d_Ri_turn_30 hl (by decide) rfl (fun ls hl => ?_)
  refine lv_aload_n hx hb d_Ri_turn_32 rfl (lv_at hl 4 rfl) ?_
  refine va_get (D := D) (ci := 8) (v := .ref a_state) (C := "CoinKeeper$Ripemd160") (T := F_8) (N := 4) hx hb hts i_8 hown hK hP 0 rfl rfl 0 (by decide) (hts _ gw_191) (fun _ h9 => h9) rfl d_Ri_turn_33 ?_
  refine lv_iconst (v := 4) hx hb d_Ri_turn_36 (by decide) ?_
  refine va_iald hx hb hK hP 1 1 rfl rfl (inb_in (by decide)) d_Ri_turn_37 ?_
  refine lv_topi (fun v5 ev => ?_)
  have hf := bn ev hf
  clear ev
  refine lv_istore (lv' := [(10, .int v5), (9, .int v4), (8, .int v3), (7, .int v2), (6, .int v1), (0, .ref o), (1, .ref b1), (2, .ref (ad 11)), (3, .ref (ad 12)), (4, .ref (ad 13)), (5, .int a5)]) hx hb d_Ri_turn_38 hl (by decide) rfl (fun ls hl => ?_)
  refine lv_iconst (v := 0) hx hb d_Ri_turn_40 (by decide) ?_
  refine lv_istore (lv' := [(11, .int (0 : Int32)), (10, .int v5), (9, .int v4), (8, .int v3), (7, .int v2), (6, .int v1), (0, .ref o), (1, .ref b1), (2, .ref (ad 11)), (3, .ref (ad 12)), (4, .ref (ad 13)), (5, .int a5)]) hx hb d_Ri_turn_41 hl (by decide) rfl (fun ls hl => ?_)
  exact w_Ri_turn_s2x11s3x12s4x13_43 F fu _ _ _ _ _ _ _ _ _ hf _ _ _ hP hD hS (lv_sub hl [6, 7, 8, 9, 10, 11, 5, 4, 3, 2, 1, 0] rfl)
theorem c_Ri_turn_s2x11s3x12s4x13 (l : Launch) (D : va_G) (cy : Nat → ClassId) (ad : Nat → Nat) (fu : Nat) (o : Nat) (v_a_left : Value) (v_a_right : Value) (a_state : Nat) (a_x : Nat) (b1 : Nat) (g_state : Nat → Int32) (g_x : Nat → Int32) (a5 : Int32) (u0 : Nat → Int32) (res : (Nat → Int32)) (hf : x_Ri_turn_s2x11s3x12s4x13 fu g_state g_x a5 u0 = some res) (sz : Nat) : Met l ({ cls := "CoinKeeper$Ripemd160", name := "turn", desc := "([I[B[B[II)V" } : Jvm.MethodName) (.code ({ cls := "CoinKeeper$Ripemd160", name := "turn", desc := "([I[B[B[II)V" } : Jvm.MethodName) b_Ri_turn 15 none :: gw) rm_Ri_turn_s2x11s3x12s4x13 (va_Pc [.ref o, .ref b1, .ref (ad 11), .ref (ad 12), .ref (ad 13), .int a5] (Pr D cy ad [(o, .inr (8, [.ref a_state, v_a_left, v_a_right, .ref a_x])), (a_state, .inl (cy 1, 5, .inl g_state)), (a_x, .inl (cy 1, 16, .inl g_x)), (b1, .inl (cy 1, 5, .inl u0))] sz)) (q_Ri_turn_s2x11s3x12s4x13 D cy (va_A [(o, .inr (8, [.ref a_state, v_a_left, v_a_right, .ref a_x])), (a_state, .inl (cy 1, 5, .inl g_state)), (a_x, .inl (cy 1, 16, .inl g_x)), (b1, .inl (cy 1, 5, .inl u0))] sz) o v_a_left v_a_right a_state a_x b1 g_state g_x res) 0 0 (va_A [(o, .inr (8, [.ref a_state, v_a_left, v_a_right, .ref a_x])), (a_state, .inl (cy 1, 5, .inl g_state)), (a_x, .inl (cy 1, 16, .inl g_x)), (b1, .inl (cy 1, 5, .inl u0))] sz) :=
  q_met (Qc := fun A => q_Ri_turn_s2x11s3x12s4x13 D cy A o v_a_left v_a_right a_state a_x b1 g_state g_x res) (by decide) rfl rfl (Nat.le_of_ble_eq_true rfl) (fun p e s m below meth c ls F hP hD hS hl => we_Ri_turn_s2x11s3x12s4x13 (fu := fu) F a5 u0 res hf _ _ _ hP hD hS hl) sz
abbrev b_Ri_once : ByteArray := prog_9_method_2_code
theorem d_Ri_once_0 : decode b_Ri_once 0 = .ok (.getstatic 22, 3) := by decide +kernel
theorem d_Ri_once_3 : decode b_Ri_once 3 = .ok (.iconst 0, 1) := by decide +kernel
theorem d_Ri_once_4 : decode b_Ri_once 4 = .ok (.aload_n 0, 1) := by decide +kernel
theorem d_Ri_once_5 : decode b_Ri_once 5 = .ok (.getfield 7, 3) := by decide +kernel
theorem d_Ri_once_8 : decode b_Ri_once 8 = .ok (.iconst 0, 1) := by decide +kernel
theorem d_Ri_once_9 : decode b_Ri_once 9 = .ok (.iconst 5, 1) := by decide +kernel
theorem d_Ri_once_10 : decode b_Ri_once 10 = .ok (.invokestatic 25, 3) := by decide +kernel
theorem d_Ri_once_13 : decode b_Ri_once 13 = .ok (.iload_n 3, 1) := by decide +kernel
theorem d_Ri_once_14 : decode b_Ri_once 14 = .ok (.bipush 8, 2) := by decide +kernel
theorem d_Ri_once_16 : decode b_Ri_once 16 = .ok (.iadd, 1) := by decide +kernel
theorem d_Ri_once_17 : decode b_Ri_once 17 = .ok (.bipush 64, 2) := by decide +kernel
theorem d_Ri_once_19 : decode b_Ri_once 19 = .ok (.idiv, 1) := by decide +kernel
theorem d_Ri_once_20 : decode b_Ri_once 20 = .ok (.iconst 1, 1) := by decide +kernel
theorem d_Ri_once_21 : decode b_Ri_once 21 = .ok (.iadd, 1) := by decide +kernel
theorem d_Ri_once_22 : decode b_Ri_once 22 = .ok (.istore 6, 2) := by decide +kernel
theorem d_Ri_once_24 : decode b_Ri_once 24 = .ok (.iconst 0, 1) := by decide +kernel
theorem d_Ri_once_25 : decode b_Ri_once 25 = .ok (.istore 7, 2) := by decide +kernel
theorem d_Ri_once_27 : decode b_Ri_once 27 = .ok (.iload 7, 2) := by decide +kernel
theorem d_Ri_once_29 : decode b_Ri_once 29 = .ok (.iload 6, 2) := by decide +kernel
theorem d_Ri_once_31 : decode b_Ri_once 31 = .ok (.if_icmp .ge 211, 3) := by decide +kernel
theorem d_Ri_once_34 : decode b_Ri_once 34 = .ok (.aload_n 0, 1) := by decide +kernel
theorem d_Ri_once_35 : decode b_Ri_once 35 = .ok (.aload_n 1, 1) := by decide +kernel
theorem d_Ri_once_36 : decode b_Ri_once 36 = .ok (.iload_n 2, 1) := by decide +kernel
theorem d_Ri_once_37 : decode b_Ri_once 37 = .ok (.iload_n 3, 1) := by decide +kernel
theorem d_Ri_once_38 : decode b_Ri_once 38 = .ok (.bipush 64, 2) := by decide +kernel
theorem d_Ri_once_40 : decode b_Ri_once 40 = .ok (.iload 7, 2) := by decide +kernel
theorem d_Ri_once_42 : decode b_Ri_once 42 = .ok (.imul, 1) := by decide +kernel
theorem d_Ri_once_43 : decode b_Ri_once 43 = .ok (.invokevirtual 31, 3) := by decide +kernel
theorem d_Ri_once_46 : decode b_Ri_once 46 = .ok (.iload 7, 2) := by decide +kernel
theorem d_Ri_once_48 : decode b_Ri_once 48 = .ok (.iload 6, 2) := by decide +kernel
theorem d_Ri_once_50 : decode b_Ri_once 50 = .ok (.iconst 1, 1) := by decide +kernel
theorem d_Ri_once_51 : decode b_Ri_once 51 = .ok (.isub, 1) := by decide +kernel
theorem d_Ri_once_52 : decode b_Ri_once 52 = .ok (.if_icmp .ne 14, 3) := by decide +kernel
theorem d_Ri_once_55 : decode b_Ri_once 55 = .ok (.aload_n 0, 1) := by decide +kernel
theorem d_Ri_once_56 : decode b_Ri_once 56 = .ok (.getfield 19, 3) := by decide +kernel
theorem d_Ri_once_59 : decode b_Ri_once 59 = .ok (.bipush 14, 2) := by decide +kernel
theorem d_Ri_once_61 : decode b_Ri_once 61 = .ok (.bipush 8, 2) := by decide +kernel
theorem d_Ri_once_63 : decode b_Ri_once 63 = .ok (.iload_n 3, 1) := by decide +kernel
theorem d_Ri_once_64 : decode b_Ri_once 64 = .ok (.imul, 1) := by decide +kernel
theorem d_Ri_once_65 : decode b_Ri_once 65 = .ok (.iastore, 1) := by decide +kernel
theorem d_Ri_once_66 : decode b_Ri_once 66 = .ok (.aload_n 0, 1) := by decide +kernel
theorem d_Ri_once_67 : decode b_Ri_once 67 = .ok (.aload_n 0, 1) := by decide +kernel
theorem d_Ri_once_68 : decode b_Ri_once 68 = .ok (.getfield 13, 3) := by decide +kernel
theorem d_Ri_once_71 : decode b_Ri_once 71 = .ok (.getstatic 35, 3) := by decide +kernel
theorem d_Ri_once_74 : decode b_Ri_once 74 = .ok (.getstatic 39, 3) := by decide +kernel
theorem d_Ri_once_77 : decode b_Ri_once 77 = .ok (.getstatic 42, 3) := by decide +kernel
theorem d_Ri_once_80 : decode b_Ri_once 80 = .ok (.iconst 0, 1) := by decide +kernel
theorem d_Ri_once_81 : decode b_Ri_once 81 = .ok (.invokevirtual 45, 3) := by decide +kernel
theorem d_Ri_once_84 : decode b_Ri_once 84 = .ok (.aload_n 0, 1) := by decide +kernel
theorem d_Ri_once_85 : decode b_Ri_once 85 = .ok (.aload_n 0, 1) := by decide +kernel
theorem d_Ri_once_86 : decode b_Ri_once 86 = .ok (.getfield 16, 3) := by decide +kernel
theorem d_Ri_once_89 : decode b_Ri_once 89 = .ok (.getstatic 49, 3) := by decide +kernel
theorem d_Ri_once_92 : decode b_Ri_once 92 = .ok (.getstatic 52, 3) := by decide +kernel
theorem d_Ri_once_95 : decode b_Ri_once 95 = .ok (.getstatic 55, 3) := by decide +kernel
theorem d_Ri_once_98 : decode b_Ri_once 98 = .ok (.iconst 4, 1) := by decide +kernel
theorem d_Ri_once_99 : decode b_Ri_once 99 = .ok (.invokevirtual 45, 3) := by decide +kernel
theorem d_Ri_once_102 : decode b_Ri_once 102 = .ok (.aload_n 0, 1) := by decide +kernel
theorem d_Ri_once_103 : decode b_Ri_once 103 = .ok (.getfield 7, 3) := by decide +kernel
theorem d_Ri_once_106 : decode b_Ri_once 106 = .ok (.iconst 1, 1) := by decide +kernel
theorem d_Ri_once_107 : decode b_Ri_once 107 = .ok (.iaload, 1) := by decide +kernel
theorem d_Ri_once_108 : decode b_Ri_once 108 = .ok (.aload_n 0, 1) := by decide +kernel
theorem d_Ri_once_109 : decode b_Ri_once 109 = .ok (.getfield 13, 3) := by decide +kernel
theorem d_Ri_once_112 : decode b_Ri_once 112 = .ok (.iconst 2, 1) := by decide +kernel
theorem d_Ri_once_113 : decode b_Ri_once 113 = .ok (.iaload, 1) := by decide +kernel
theorem d_Ri_once_114 : decode b_Ri_once 114 = .ok (.iadd, 1) := by decide +kernel
theorem d_Ri_once_115 : decode b_Ri_once 115 = .ok (.aload_n 0, 1) := by decide +kernel
theorem d_Ri_once_116 : decode b_Ri_once 116 = .ok (.getfield 16, 3) := by decide +kernel
theorem d_Ri_once_119 : decode b_Ri_once 119 = .ok (.iconst 3, 1) := by decide +kernel
theorem d_Ri_once_120 : decode b_Ri_once 120 = .ok (.iaload, 1) := by decide +kernel
theorem d_Ri_once_121 : decode b_Ri_once 121 = .ok (.iadd, 1) := by decide +kernel
theorem d_Ri_once_122 : decode b_Ri_once 122 = .ok (.istore 8, 2) := by decide +kernel
theorem d_Ri_once_124 : decode b_Ri_once 124 = .ok (.aload_n 0, 1) := by decide +kernel
theorem d_Ri_once_125 : decode b_Ri_once 125 = .ok (.getfield 7, 3) := by decide +kernel
theorem d_Ri_once_128 : decode b_Ri_once 128 = .ok (.iconst 1, 1) := by decide +kernel
theorem d_Ri_once_129 : decode b_Ri_once 129 = .ok (.aload_n 0, 1) := by decide +kernel
theorem d_Ri_once_130 : decode b_Ri_once 130 = .ok (.getfield 7, 3) := by decide +kernel
theorem d_Ri_once_133 : decode b_Ri_once 133 = .ok (.iconst 2, 1) := by decide +kernel
theorem d_Ri_once_134 : decode b_Ri_once 134 = .ok (.iaload, 1) := by decide +kernel
theorem d_Ri_once_135 : decode b_Ri_once 135 = .ok (.aload_n 0, 1) := by decide +kernel
theorem d_Ri_once_136 : decode b_Ri_once 136 = .ok (.getfield 13, 3) := by decide +kernel
theorem d_Ri_once_139 : decode b_Ri_once 139 = .ok (.iconst 3, 1) := by decide +kernel
theorem d_Ri_once_140 : decode b_Ri_once 140 = .ok (.iaload, 1) := by decide +kernel
theorem d_Ri_once_141 : decode b_Ri_once 141 = .ok (.iadd, 1) := by decide +kernel
theorem d_Ri_once_142 : decode b_Ri_once 142 = .ok (.aload_n 0, 1) := by decide +kernel
theorem d_Ri_once_143 : decode b_Ri_once 143 = .ok (.getfield 16, 3) := by decide +kernel
theorem d_Ri_once_146 : decode b_Ri_once 146 = .ok (.iconst 4, 1) := by decide +kernel
theorem d_Ri_once_147 : decode b_Ri_once 147 = .ok (.iaload, 1) := by decide +kernel
theorem d_Ri_once_148 : decode b_Ri_once 148 = .ok (.iadd, 1) := by decide +kernel
theorem d_Ri_once_149 : decode b_Ri_once 149 = .ok (.iastore, 1) := by decide +kernel
theorem d_Ri_once_150 : decode b_Ri_once 150 = .ok (.aload_n 0, 1) := by decide +kernel
theorem d_Ri_once_151 : decode b_Ri_once 151 = .ok (.getfield 7, 3) := by decide +kernel
theorem d_Ri_once_154 : decode b_Ri_once 154 = .ok (.iconst 2, 1) := by decide +kernel
theorem d_Ri_once_155 : decode b_Ri_once 155 = .ok (.aload_n 0, 1) := by decide +kernel
theorem d_Ri_once_156 : decode b_Ri_once 156 = .ok (.getfield 7, 3) := by decide +kernel
theorem d_Ri_once_159 : decode b_Ri_once 159 = .ok (.iconst 3, 1) := by decide +kernel
theorem d_Ri_once_160 : decode b_Ri_once 160 = .ok (.iaload, 1) := by decide +kernel
theorem d_Ri_once_161 : decode b_Ri_once 161 = .ok (.aload_n 0, 1) := by decide +kernel
theorem d_Ri_once_162 : decode b_Ri_once 162 = .ok (.getfield 13, 3) := by decide +kernel
theorem d_Ri_once_165 : decode b_Ri_once 165 = .ok (.iconst 4, 1) := by decide +kernel
theorem d_Ri_once_166 : decode b_Ri_once 166 = .ok (.iaload, 1) := by decide +kernel
theorem d_Ri_once_167 : decode b_Ri_once 167 = .ok (.iadd, 1) := by decide +kernel
theorem d_Ri_once_168 : decode b_Ri_once 168 = .ok (.aload_n 0, 1) := by decide +kernel
theorem d_Ri_once_169 : decode b_Ri_once 169 = .ok (.getfield 16, 3) := by decide +kernel
theorem d_Ri_once_172 : decode b_Ri_once 172 = .ok (.iconst 0, 1) := by decide +kernel
theorem d_Ri_once_173 : decode b_Ri_once 173 = .ok (.iaload, 1) := by decide +kernel
theorem d_Ri_once_174 : decode b_Ri_once 174 = .ok (.iadd, 1) := by decide +kernel
theorem d_Ri_once_175 : decode b_Ri_once 175 = .ok (.iastore, 1) := by decide +kernel
theorem d_Ri_once_176 : decode b_Ri_once 176 = .ok (.aload_n 0, 1) := by decide +kernel
theorem d_Ri_once_177 : decode b_Ri_once 177 = .ok (.getfield 7, 3) := by decide +kernel
theorem d_Ri_once_180 : decode b_Ri_once 180 = .ok (.iconst 3, 1) := by decide +kernel
theorem d_Ri_once_181 : decode b_Ri_once 181 = .ok (.aload_n 0, 1) := by decide +kernel
theorem d_Ri_once_182 : decode b_Ri_once 182 = .ok (.getfield 7, 3) := by decide +kernel
theorem d_Ri_once_185 : decode b_Ri_once 185 = .ok (.iconst 4, 1) := by decide +kernel
theorem d_Ri_once_186 : decode b_Ri_once 186 = .ok (.iaload, 1) := by decide +kernel
theorem d_Ri_once_187 : decode b_Ri_once 187 = .ok (.aload_n 0, 1) := by decide +kernel
theorem d_Ri_once_188 : decode b_Ri_once 188 = .ok (.getfield 13, 3) := by decide +kernel
theorem d_Ri_once_191 : decode b_Ri_once 191 = .ok (.iconst 0, 1) := by decide +kernel
theorem d_Ri_once_192 : decode b_Ri_once 192 = .ok (.iaload, 1) := by decide +kernel
theorem d_Ri_once_193 : decode b_Ri_once 193 = .ok (.iadd, 1) := by decide +kernel
theorem d_Ri_once_194 : decode b_Ri_once 194 = .ok (.aload_n 0, 1) := by decide +kernel
theorem d_Ri_once_195 : decode b_Ri_once 195 = .ok (.getfield 16, 3) := by decide +kernel
theorem d_Ri_once_198 : decode b_Ri_once 198 = .ok (.iconst 1, 1) := by decide +kernel
theorem d_Ri_once_199 : decode b_Ri_once 199 = .ok (.iaload, 1) := by decide +kernel
theorem d_Ri_once_200 : decode b_Ri_once 200 = .ok (.iadd, 1) := by decide +kernel
theorem d_Ri_once_201 : decode b_Ri_once 201 = .ok (.iastore, 1) := by decide +kernel
theorem d_Ri_once_202 : decode b_Ri_once 202 = .ok (.aload_n 0, 1) := by decide +kernel
theorem d_Ri_once_203 : decode b_Ri_once 203 = .ok (.getfield 7, 3) := by decide +kernel
theorem d_Ri_once_206 : decode b_Ri_once 206 = .ok (.iconst 4, 1) := by decide +kernel
theorem d_Ri_once_207 : decode b_Ri_once 207 = .ok (.aload_n 0, 1) := by decide +kernel
theorem d_Ri_once_208 : decode b_Ri_once 208 = .ok (.getfield 7, 3) := by decide +kernel
theorem d_Ri_once_211 : decode b_Ri_once 211 = .ok (.iconst 0, 1) := by decide +kernel
theorem d_Ri_once_212 : decode b_Ri_once 212 = .ok (.iaload, 1) := by decide +kernel
theorem d_Ri_once_213 : decode b_Ri_once 213 = .ok (.aload_n 0, 1) := by decide +kernel
theorem d_Ri_once_214 : decode b_Ri_once 214 = .ok (.getfield 13, 3) := by decide +kernel
theorem d_Ri_once_217 : decode b_Ri_once 217 = .ok (.iconst 1, 1) := by decide +kernel
theorem d_Ri_once_218 : decode b_Ri_once 218 = .ok (.iaload, 1) := by decide +kernel
theorem d_Ri_once_219 : decode b_Ri_once 219 = .ok (.iadd, 1) := by decide +kernel
theorem d_Ri_once_220 : decode b_Ri_once 220 = .ok (.aload_n 0, 1) := by decide +kernel
theorem d_Ri_once_221 : decode b_Ri_once 221 = .ok (.getfield 16, 3) := by decide +kernel
theorem d_Ri_once_224 : decode b_Ri_once 224 = .ok (.iconst 2, 1) := by decide +kernel
theorem d_Ri_once_225 : decode b_Ri_once 225 = .ok (.iaload, 1) := by decide +kernel
theorem d_Ri_once_226 : decode b_Ri_once 226 = .ok (.iadd, 1) := by decide +kernel
theorem d_Ri_once_227 : decode b_Ri_once 227 = .ok (.iastore, 1) := by decide +kernel
theorem d_Ri_once_228 : decode b_Ri_once 228 = .ok (.aload_n 0, 1) := by decide +kernel
theorem d_Ri_once_229 : decode b_Ri_once 229 = .ok (.getfield 7, 3) := by decide +kernel
theorem d_Ri_once_232 : decode b_Ri_once 232 = .ok (.iconst 0, 1) := by decide +kernel
theorem d_Ri_once_233 : decode b_Ri_once 233 = .ok (.iload 8, 2) := by decide +kernel
theorem d_Ri_once_235 : decode b_Ri_once 235 = .ok (.iastore, 1) := by decide +kernel
theorem d_Ri_once_236 : decode b_Ri_once 236 = .ok (.iinc 7 1, 3) := by decide +kernel
theorem d_Ri_once_239 : decode b_Ri_once 239 = .ok (.goto (-212), 3) := by decide +kernel
theorem d_Ri_once_242 : decode b_Ri_once 242 = .ok (.iconst 0, 1) := by decide +kernel
theorem d_Ri_once_243 : decode b_Ri_once 243 = .ok (.istore 7, 2) := by decide +kernel
theorem d_Ri_once_245 : decode b_Ri_once 245 = .ok (.iload 7, 2) := by decide +kernel
theorem d_Ri_once_247 : decode b_Ri_once 247 = .ok (.bipush 20, 2) := by decide +kernel
theorem d_Ri_once_249 : decode b_Ri_once 249 = .ok (.if_icmp .ge 35, 3) := by decide +kernel
theorem d_Ri_once_252 : decode b_Ri_once 252 = .ok (.aload 4, 2) := by decide +kernel
theorem d_Ri_once_254 : decode b_Ri_once 254 = .ok (.iload 5, 2) := by decide +kernel
theorem d_Ri_once_256 : decode b_Ri_once 256 = .ok (.iload 7, 2) := by decide +kernel
theorem d_Ri_once_258 : decode b_Ri_once 258 = .ok (.iadd, 1) := by decide +kernel
theorem d_Ri_once_259 : decode b_Ri_once 259 = .ok (.aload_n 0, 1) := by decide +kernel
theorem d_Ri_once_260 : decode b_Ri_once 260 = .ok (.getfield 7, 3) := by decide +kernel
theorem d_Ri_once_263 : decode b_Ri_once 263 = .ok (.iload 7, 2) := by decide +kernel
theorem d_Ri_once_265 : decode b_Ri_once 265 = .ok (.iconst 2, 1) := by decide +kernel
theorem d_Ri_once_266 : decode b_Ri_once 266 = .ok (.ishr, 1) := by decide +kernel
theorem d_Ri_once_267 : decode b_Ri_once 267 = .ok (.iaload, 1) := by decide +kernel
theorem d_Ri_once_268 : decode b_Ri_once 268 = .ok (.bipush 8, 2) := by decide +kernel
theorem d_Ri_once_270 : decode b_Ri_once 270 = .ok (.iload 7, 2) := by decide +kernel
theorem d_Ri_once_272 : decode b_Ri_once 272 = .ok (.iconst 3, 1) := by decide +kernel
theorem d_Ri_once_273 : decode b_Ri_once 273 = .ok (.iand, 1) := by decide +kernel
theorem d_Ri_once_274 : decode b_Ri_once 274 = .ok (.imul, 1) := by decide +kernel
theorem d_Ri_once_275 : decode b_Ri_once 275 = .ok (.iushr, 1) := by decide +kernel
theorem d_Ri_once_276 : decode b_Ri_once 276 = .ok (.i2b, 1) := by decide +kernel
theorem d_Ri_once_277 : decode b_Ri_once 277 = .ok (.bastore, 1) := by decide +kernel
theorem d_Ri_once_278 : decode b_Ri_once 278 = .ok (.iinc 7 1, 3) := by decide +kernel
theorem d_Ri_once_281 : decode b_Ri_once 281 = .ok (.goto (-36), 3) := by decide +kernel
theorem d_Ri_once_284 : decode b_Ri_once 284 = .ok (.return_, 1) := by decide +kernel
abbrev rm_Ri_once_e41 : Room := { frames := 2, cells := 0, slots := 0, locals := 60 }
abbrev q_Ri_once_e41 (D : va_G) (cy : Nat → ClassId) (A : Nat → Prop) (o : Nat) (a_state : Nat) (a_left : Nat) (a_right : Nat) (a_x : Nat) (b1 : Nat) (n1 : Nat) (res : (Nat → Int32) × (Nat → Int32) × (Nat → Int32) × (Nat → Int32) × (Nat → Int32)) : Array Value → State → Outcome → State → Prop := va_Qv (fun (_ : Unit) => True) (fun _ t => Po D cy A [(o, .inr (8, [.ref a_state, .ref a_left, .ref a_right, .ref a_x])), (a_state, .inl (cy 1, 5, .inl res.1)), (a_left, .inl (cy 1, 5, .inl res.2.1)), (a_right, .inl (cy 1, 5, .inl res.2.2.1)), (a_x, .inl (cy 1, 16, .inl res.2.2.2.1)), (b1, .inl (cy 0, n1, .inl res.2.2.2.2))] t) A
def I_Ri_once_e41_245 (p : Program) (l : Launch) (e : Env) (s : State) (m : MethodId) (args : Array Value) (below : List Frame) (meth : Method) (c : Code) (D : va_G) (cy : Nat → ClassId) (A : Nat → Prop) (ad : Nat → Nat) (o : Nat) (a_state : Nat) (a_left : Nat) (a_right : Nat) (a_x : Nat) (b1 : Nat) (n1 : Nat) (k : Int32 → Int32 → (Nat → Int32) → (Nat → Int32) → (Nat → Int32) → (Nat → Int32) → (Nat → Int32) → Option ((Nat → Int32) × (Nat → Int32) × (Nat → Int32) × (Nat → Int32) × (Nat → Int32))) : Prop :=
  ∀ (x5 : Int32) (x7 : Int32) (u0 : Nat → Int32) (u1 : Nat → Int32) (u2 : Nat → Int32) (u3 : Nat → Int32) (u4 : Nat → Int32) (res : (Nat → Int32) × (Nat → Int32) × (Nat → Int32) × (Nat → Int32) × (Nat → Int32)), k x5 x7 u0 u1 u2 u3 u4 = some res → ∀ (H : Heap) (locs : List Loc) (ls : Array Slot), va_P D classes [(o, .inr (8, [.ref a_state, .ref a_left, .ref a_right, .ref a_x])), (a_state, .inl (cy 1, 5, .inl u0)), (a_left, .inl (cy 1, 5, .inl u1)), (a_right, .inl (cy 1, 5, .inl u2)), (a_x, .inl (cy 1, 16, .inl u3)), (b1, .inl (cy 0, n1, .inl u4))] H → va_D A [(o, .inr (8, [.ref a_state, .ref a_left, .ref a_right, .ref a_x])), (a_state, .inl (cy 1, 5, .inl u0)), (a_left, .inl (cy 1, 5, .inl u1)), (a_right, .inl (cy 1, 5, .inl u2)), (a_x, .inl (cy 1, 16, .inl u3)), (b1, .inl (cy 0, n1, .inl u4))] → va_S A s.heap H locs → lv_has ls 9 [(0, .ref o), (4, .ref b1), (5, .int x5), (7, .int x7)] → W p l e rm_Ri_once_e41 s m args below meth c H locs 0 0 (MQ below (q_Ri_once_e41 D cy A o a_state a_left a_right a_x b1 n1 res) args s 0 0 A) (F0 m 245 ls [])
def I_Ri_once_e41_66 (p : Program) (l : Launch) (e : Env) (s : State) (m : MethodId) (args : Array Value) (below : List Frame) (meth : Method) (c : Code) (D : va_G) (cy : Nat → ClassId) (A : Nat → Prop) (ad : Nat → Nat) (o : Nat) (a_state : Nat) (a_left : Nat) (a_right : Nat) (a_x : Nat) (b1 : Nat) (n1 : Nat) (k : Int32 → Int32 → Int32 → Int32 → Int32 → (Nat → Int32) → (Nat → Int32) → (Nat → Int32) → (Nat → Int32) → (Nat → Int32) → Option ((Nat → Int32) × (Nat → Int32) × (Nat → Int32) × (Nat → Int32) × (Nat → Int32))) : Prop :=
  ∀ (x2 : Int32) (x3 : Int32) (x5 : Int32) (x6 : Int32) (x7 : Int32) (u0 : Nat → Int32) (u1 : Nat → Int32) (u2 : Nat → Int32) (u3 : Nat → Int32) (u4 : Nat → Int32) (res : (Nat → Int32) × (Nat → Int32) × (Nat → Int32) × (Nat → Int32) × (Nat → Int32)), k x2 x3 x5 x6 x7 u0 u1 u2 u3 u4 = some res → ∀ (H : Heap) (locs : List Loc) (ls : Array Slot), va_P D classes [(o, .inr (8, [.ref a_state, .ref a_left, .ref a_right, .ref a_x])), (a_state, .inl (cy 1, 5, .inl u0)), (a_left, .inl (cy 1, 5, .inl u1)), (a_right, .inl (cy 1, 5, .inl u2)), (a_x, .inl (cy 1, 16, .inl u3)), (b1, .inl (cy 0, n1, .inl u4))] H → va_D A [(o, .inr (8, [.ref a_state, .ref a_left, .ref a_right, .ref a_x])), (a_state, .inl (cy 1, 5, .inl u0)), (a_left, .inl (cy 1, 5, .inl u1)), (a_right, .inl (cy 1, 5, .inl u2)), (a_x, .inl (cy 1, 16, .inl u3)), (b1, .inl (cy 0, n1, .inl u4))] → va_S A s.heap H locs → lv_has ls 9 [(0, .ref o), (1, .ref b1), (2, .int x2), (3, .int x3), (4, .ref b1), (5, .int x5), (6, .int x6), (7, .int x7)] → W p l e rm_Ri_once_e41 s m args below meth c H locs 0 0 (MQ below (q_Ri_once_e41 D cy A o a_state a_left a_right a_x b1 n1 res) args s 0 0 A) (F0 m 66 ls [])
def I_Ri_once_e41_27 (p : Program) (l : Launch) (e : Env) (s : State) (m : MethodId) (args : Array Value) (below : List Frame) (meth : Method) (c : Code) (D : va_G) (cy : Nat → ClassId) (A : Nat → Prop) (ad : Nat → Nat) (o : Nat) (a_state : Nat) (a_left : Nat) (a_right : Nat) (a_x : Nat) (b1 : Nat) (n1 : Nat) (k : Int32 → Int32 → Int32 → Int32 → Int32 → (Nat → Int32) → (Nat → Int32) → (Nat → Int32) → (Nat → Int32) → (Nat → Int32) → Option ((Nat → Int32) × (Nat → Int32) × (Nat → Int32) × (Nat → Int32) × (Nat → Int32))) : Prop :=
  ∀ (x2 : Int32) (x3 : Int32) (x5 : Int32) (x6 : Int32) (x7 : Int32) (u0 : Nat → Int32) (u1 : Nat → Int32) (u2 : Nat → Int32) (u3 : Nat → Int32) (u4 : Nat → Int32) (res : (Nat → Int32) × (Nat → Int32) × (Nat → Int32) × (Nat → Int32) × (Nat → Int32)), k x2 x3 x5 x6 x7 u0 u1 u2 u3 u4 = some res → ∀ (H : Heap) (locs : List Loc) (ls : Array Slot), va_P D classes [(o, .inr (8, [.ref a_state, .ref a_left, .ref a_right, .ref a_x])), (a_state, .inl (cy 1, 5, .inl u0)), (a_left, .inl (cy 1, 5, .inl u1)), (a_right, .inl (cy 1, 5, .inl u2)), (a_x, .inl (cy 1, 16, .inl u3)), (b1, .inl (cy 0, n1, .inl u4))] H → va_D A [(o, .inr (8, [.ref a_state, .ref a_left, .ref a_right, .ref a_x])), (a_state, .inl (cy 1, 5, .inl u0)), (a_left, .inl (cy 1, 5, .inl u1)), (a_right, .inl (cy 1, 5, .inl u2)), (a_x, .inl (cy 1, 16, .inl u3)), (b1, .inl (cy 0, n1, .inl u4))] → va_S A s.heap H locs → lv_has ls 9 [(0, .ref o), (1, .ref b1), (2, .int x2), (3, .int x3), (4, .ref b1), (5, .int x5), (6, .int x6), (7, .int x7)] → W p l e rm_Ri_once_e41 s m args below meth c H locs 0 0 (MQ below (q_Ri_once_e41 D cy A o a_state a_left a_right a_x b1 n1 res) args s 0 0 A) (F0 m 27 ls [])
def I_Ri_once_e41_e (p : Program) (l : Launch) (e : Env) (s : State) (m : MethodId) (args : Array Value) (below : List Frame) (meth : Method) (c : Code) (D : va_G) (cy : Nat → ClassId) (A : Nat → Prop) (ad : Nat → Nat) (o : Nat) (a_state : Nat) (a_left : Nat) (a_right : Nat) (a_x : Nat) (b1 : Nat) (n1 : Nat) (k : Int32 → Int32 → Int32 → (Nat → Int32) → (Nat → Int32) → (Nat → Int32) → (Nat → Int32) → (Nat → Int32) → Option ((Nat → Int32) × (Nat → Int32) × (Nat → Int32) × (Nat → Int32) × (Nat → Int32))) : Prop :=
  ∀ (a2 : Int32) (a3 : Int32) (a5 : Int32) (u0 : Nat → Int32) (u1 : Nat → Int32) (u2 : Nat → Int32) (u3 : Nat → Int32) (u4 : Nat → Int32) (res : (Nat → Int32) × (Nat → Int32) × (Nat → Int32) × (Nat → Int32) × (Nat → Int32)), k a2 a3 a5 u0 u1 u2 u3 u4 = some res → ∀ (H : Heap) (locs : List Loc) (ls : Array Slot), va_P D classes [(o, .inr (8, [.ref a_state, .ref a_left, .ref a_right, .ref a_x])), (a_state, .inl (cy 1, 5, .inl u0)), (a_left, .inl (cy 1, 5, .inl u1)), (a_right, .inl (cy 1, 5, .inl u2)), (a_x, .inl (cy 1, 16, .inl u3)), (b1, .inl (cy 0, n1, .inl u4))] H → va_D A [(o, .inr (8, [.ref a_state, .ref a_left, .ref a_right, .ref a_x])), (a_state, .inl (cy 1, 5, .inl u0)), (a_left, .inl (cy 1, 5, .inl u1)), (a_right, .inl (cy 1, 5, .inl u2)), (a_x, .inl (cy 1, 16, .inl u3)), (b1, .inl (cy 0, n1, .inl u4))] → va_S A s.heap H locs → lv_has ls 9 [(0, .ref o), (1, .ref b1), (2, .int a2), (3, .int a3), (4, .ref b1), (5, .int a5)] → W p l e rm_Ri_once_e41 s m args below meth c H locs 0 0 (MQ below (q_Ri_once_e41 D cy A o a_state a_left a_right a_x b1 n1 res) args s 0 0 A) (F0 m 0 ls [])
set_option maxHeartbeats 8000000 in
set_option maxRecDepth 100000 in
theorem wb_Ri_once_e41_245 {p : Program} {l : Launch} {e : Env} {s : State} {m : MethodId} {args : Array Value} {below : List Frame} {meth : Method} {c : Code} {D : va_G} {cy : Nat → ClassId} {A : Nat → Prop} {ad : Nat → Nat} {o : Nat} {a_state : Nat} {a_left : Nat} {a_right : Nat} {a_x : Nat} {b1 : Nat} {n1 : Nat} {fu : Nat} {k_245 : Int32 → Int32 → (Nat → Int32) → (Nat → Int32) → (Nat → Int32) → (Nat → Int32) → (Nat → Int32) → Option ((Nat → Int32) × (Nat → Int32) × (Nat → Int32) × (Nat → Int32) × (Nat → Int32))} (F : Fx p s m args meth c b_Ri_once 9 "CoinKeeper$Ripemd160" "once" none D cy ad A) (hk_245 : I_Ri_once_e41_245 p l e s m args below meth c D cy A ad o a_state a_left a_right a_x b1 n1 k_245) : I_Ri_once_e41_245 p l e s m args below meth c D cy A ad o a_state a_left a_right a_x b1 n1 (xb_Ri_once_e41_245 fu n1 k_245) := by
  obtain ⟨hx, hb, hr, hml, hown, hts, hlocks, hK, hA, hSt, hnm, hex⟩ := id F
  intro x5 x7 u0 u1 u2 u3 u4 res hf H locs ls hP hD hS hl
  unfold xb_Ri_once_e41_245 at hf
  refine lv_iload hx hb d_Ri_once_245 (lv_at hl 3 rfl) ?_
  refine lv_bipush (v := 20) hx hb d_Ri_once_247 (by decide) ?_
  refine lv_icmp_ge (tgt := 284) hx hb d_Ri_once_249 (by decide) (fun cx => ?_) (fun cx => ?_)
  · have hf := ifp cx hf
    obtain rfl := Option.some.inj hf
    exact q_rv hx hb hr hlocks hK hP hD hS d_Ri_once_284
  · have hf := ifn cx hf
    refine lv_aload hx hb d_Ri_once_252 (lv_at hl 1 rfl) ?_
    refine lv_iload hx hb d_Ri_once_254 (lv_at hl 2 rfl) ?_
    refine lv_iload hx hb d_Ri_once_256 (lv_at hl 3 rfl) ?_
    refine lv_iadd hx hb d_Ri_once_258 ?_
    refine lv_topi (fun v1 ev => ?_)
    have hf := bn ev hf
    clear ev
    refine lv_aload_n hx hb d_Ri_once_259 rfl (lv_at hl 0 rfl) ?_
    refine va_get (D := D) (ci := 8) (v := .ref a_state) (C := "CoinKeeper$Ripemd160") (T := F_8) (N := 4) hx hb hts i_8 hown hK hP 0 rfl rfl 0 (by decide) (hts _ gw_191) (fun _ h9 => h9) rfl d_Ri_once_260 ?_
    refine lv_iload hx hb d_Ri_once_263 (lv_at hl 3 rfl) ?_
    refine lv_iconst (v := 2) hx hb d_Ri_once_265 (by decide) ?_
    refine lv_ishr hx hb d_Ri_once_266 ?_
    refine lv_topi (fun v2 ev => ?_)
    have hf := bn ev hf
    clear ev
    obtain ⟨hg, hf⟩ := gdp hf
    refine va_iald hx hb hK hP 1 1 rfl rfl (inb_in hg) d_Ri_once_267 ?_
    refine lv_topi (fun v3 ev => ?_)
    have hf := bn ev hf
    clear ev
    refine lv_bipush (v := 8) hx hb d_Ri_once_268 (by decide) ?_
    refine lv_iload hx hb d_Ri_once_270 (lv_at hl 3 rfl) ?_
    refine lv_iconst (v := 3) hx hb d_Ri_once_272 (by decide) ?_
    refine lv_iand hx hb d_Ri_once_273 ?_
    refine lv_imul hx hb d_Ri_once_274 ?_
    refine lv_iushr hx hb d_Ri_once_275 rfl ?_
    refine lv_i2b hx hb d_Ri_once_276 rfl ?_
    refine lv_topi (fun v4 ev => ?_)
    have hf := bn ev hf
    clear ev
    obtain ⟨hg, hf⟩ := gdp hf
    refine va_bast hx hb hK hP hD hS 5 0 rfl rfl (inb_in hg) d_Ri_once_277 (fun H locs hP hD hS => ?_)
    obtain ⟨f5, ev, hf⟩ := bne hf
    have hP : va_P D classes [(o, .inr (8, [.ref a_state, .ref a_left, .ref a_right, .ref a_x])), (a_state, .inl (cy 1, 5, .inl u0)), (a_left, .inl (cy 1, 5, .inl u1)), (a_right, .inl (cy 1, 5, .inl u2)), (a_x, .inl (cy 1, 16, .inl u3)), (b1, .inl (cy 0, n1, .inl f5))] H := by rw [ev]; exact hP
    have hD : va_D A [(o, .inr (8, [.ref a_state, .ref a_left, .ref a_right, .ref a_x])), (a_state, .inl (cy 1, 5, .inl u0)), (a_left, .inl (cy 1, 5, .inl u1)), (a_right, .inl (cy 1, 5, .inl u2)), (a_x, .inl (cy 1, 16, .inl u3)), (b1, .inl (cy 0, n1, .inl f5))] := by rw [ev]; exact hD
    clear ev
    obtain ⟨v6, ev, hf⟩ := bne hf
    refine lv_iinc (v := v6) (lv' := [(7, .int v6), (0, .ref o), (4, .ref b1), (5, .int x5)]) hx hb d_Ri_once_278 hl (k := 3) rfl (by rw [ev]; rfl) (by decide) rfl (fun ls hl => ?_)
    clear ev
    refine lv_goto (tgt := 245) hx hb d_Ri_once_281 (by decide) ?_
    exact hk_245 _ _ _ _ _ _ _ _ hf _ _ _ hP hD hS (lv_sub hl [1, 2, 3, 0] rfl)
theorem w_Ri_once_e41_245 {p : Program} {l : Launch} {e : Env} {s : State} {m : MethodId} {args : Array Value} {below : List Frame} {meth : Method} {c : Code} {D : va_G} {cy : Nat → ClassId} {A : Nat → Prop} {ad : Nat → Nat} {o : Nat} {a_state : Nat} {a_left : Nat} {a_right : Nat} {a_x : Nat} {b1 : Nat} {n1 : Nat} {fu : Nat} (F : Fx p s m args meth c b_Ri_once 9 "CoinKeeper$Ripemd160" "once" none D cy ad A) : ∀ n : Nat, I_Ri_once_e41_245 p l e s m args below meth c D cy A ad o a_state a_left a_right a_x b1 n1 (x_Ri_once_e41_245 fu n1 n)
  | 0 => fun _ _ _ _ _ _ _ _ hf => nomatch (show (none : Option ((Nat → Int32) × (Nat → Int32) × (Nat → Int32) × (Nat → Int32) × (Nat → Int32))) = some _ from hf)
  | n + 1 => wb_Ri_once_e41_245 F (w_Ri_once_e41_245 F n)
theorem hdc_10 : ({ cls := "CoinKeeper$Ripemd160", name := "turn", desc := "([I[B[B[II)V" } : Jvm.MethodName).cls ≠ "java/lang/invoke/MethodHandle" ∧ ({ cls := "CoinKeeper$Ripemd160", name := "turn", desc := "([I[B[B[II)V" } : Jvm.MethodName).cls ≠ "java/lang/invoke/VarHandle" ∧ (parseMethodDescriptor ({ cls := "CoinKeeper$Ripemd160", name := "turn", desc := "([I[B[B[II)V" } : Jvm.MethodName).desc).map (fun d => d.parameters.length) = some 5 := by decide +kernel
set_option maxHeartbeats 8000000 in
set_option maxRecDepth 100000 in
theorem wb_Ri_once_e41_66 {p : Program} {l : Launch} {e : Env} {s : State} {m : MethodId} {args : Array Value} {below : List Frame} {meth : Method} {c : Code} {D : va_G} {cy : Nat → ClassId} {A : Nat → Prop} {ad : Nat → Nat} {o : Nat} {a_state : Nat} {a_left : Nat} {a_right : Nat} {a_x : Nat} {b1 : Nat} {n1 : Nat} {fu : Nat} {k_27 : Int32 → Int32 → Int32 → Int32 → Int32 → (Nat → Int32) → (Nat → Int32) → (Nat → Int32) → (Nat → Int32) → (Nat → Int32) → Option ((Nat → Int32) × (Nat → Int32) × (Nat → Int32) × (Nat → Int32) × (Nat → Int32))} (F : Fx p s m args meth c b_Ri_once 9 "CoinKeeper$Ripemd160" "once" none D cy ad A) (hk_27 : I_Ri_once_e41_27 p l e s m args below meth c D cy A ad o a_state a_left a_right a_x b1 n1 k_27) : I_Ri_once_e41_66 p l e s m args below meth c D cy A ad o a_state a_left a_right a_x b1 n1 (xb_Ri_once_e41_66 fu n1 k_27) := by
  obtain ⟨hx, hb, hr, hml, hown, hts, hlocks, hK, hA, hSt, hnm, hex⟩ := id F
  intro x2 x3 x5 x6 x7 u0 u1 u2 u3 u4 res hf H locs ls hP hD hS hl
  unfold xb_Ri_once_e41_66 at hf
  refine lv_aload_n hx hb d_Ri_once_66 rfl (lv_at hl 0 rfl) ?_
  refine lv_aload_n hx hb d_Ri_once_67 rfl (lv_at hl 0 rfl) ?_
  refine va_get (D := D) (ci := 8) (v := .ref a_left) (C := "CoinKeeper$Ripemd160") (T := F_8) (N := 4) hx hb hts i_8 hown hK hP 0 rfl rfl 1 (by decide) (hts _ gw_192) (fun _ h9 => h9) rfl d_Ri_once_68 ?_
  refine va_gets hx hb (hSt.1 8 _ rfl).1 hS hown (hts _ gw_1247) (fun _ h9 => h9) d_Ri_once_71 ?_
  refine va_gets hx hb (hSt.1 9 _ rfl).1 hS hown (hts _ gw_1249) (fun _ h9 => h9) d_Ri_once_74 ?_
  refine va_gets hx hb (hSt.1 10 _ rfl).1 hS hown (hts _ gw_1251) (fun _ h9 => h9) d_Ri_once_77 ?_
  refine lv_iconst (v := 0) hx hb d_Ri_once_80 (by decide) ?_
  obtain ⟨f1, hc, hf⟩ := bdp1 hf
  refine q_av (wr := [(a_right, .inl (cy 1, 5, .inl u2)), (b1, .inl (cy 0, n1, .inl u4))]) (va_runV (C := "CoinKeeper$Ripemd160") (As := [.ref a_left, .ref (ad 8), .ref (ad 9), .ref (ad 10), .int (0 : Int32)]) (rest := []) ⟨hx, hb, hml, hown, hts⟩ (c_Ri_turn_s2x8s3x9s4x10 l D cy ad fu o (.ref a_left) (.ref a_right) a_state a_x a_left u0 u3 (0 : Int32) u1 _ hc H.size) ⟨q_cB hts gw_1256 gw_7 gw_1253 hdc_10 ⟨by decide, by decide⟩, hts _ gw_1255, hts _ gs_57⟩ (q_preV (q_pre (hP.sub [0, 1, 4, 2] rfl) (hD.sub [0, 1, 4, 2] (by decide) rfl) hK hSt hS (va_free hD hS hA [0, 1, 4, 2] rfl) _) (va_recv hK (hP.sub [0, 1, 4, 2] rfl) (ci := 8) (q0 := 0) rfl rfl)) rfl rfl hl.1 rfl (lv_room (Nat.le_of_ble_eq_true rfl)) d_Ri_once_81 ⟨Nat.le_of_ble_eq_true rfl, Nat.le_of_ble_eq_true rfl⟩) hP hD hS hA [0, 1, 4, 2] [3, 5] rfl rfl (by decide) (by decide) (fun H locs hP hD hS => ?_)
  clear hc
  have hP : va_P D classes [(a_right, .inl (cy 1, 5, .inl u2)), (b1, .inl (cy 0, n1, .inl u4)), (o, .inr (8, [.ref a_state, .ref a_left, .ref a_right, .ref a_x])), (a_state, .inl (cy 1, 5, .inl u0)), (a_x, .inl (cy 1, 16, .inl u3)), (a_left, .inl (cy 1, 5, .inl f1))] H := hP
  have hD : va_D A [(a_right, .inl (cy 1, 5, .inl u2)), (b1, .inl (cy 0, n1, .inl u4)), (o, .inr (8, [.ref a_state, .ref a_left, .ref a_right, .ref a_x])), (a_state, .inl (cy 1, 5, .inl u0)), (a_x, .inl (cy 1, 16, .inl u3)), (a_left, .inl (cy 1, 5, .inl f1))] := hD
  refine lv_aload_n hx hb d_Ri_once_84 rfl (lv_at hl 0 rfl) ?_
  refine lv_aload_n hx hb d_Ri_once_85 rfl (lv_at hl 0 rfl) ?_
  refine va_get (D := D) (ci := 8) (v := .ref a_right) (C := "CoinKeeper$Ripemd160") (T := F_8) (N := 4) hx hb hts i_8 hown hK hP 2 rfl rfl 2 (by decide) (hts _ gw_193) (fun _ h9 => h9) rfl d_Ri_once_86 ?_
  refine va_gets hx hb (hSt.1 11 _ rfl).1 hS hown (hts _ gw_1261) (fun _ h9 => h9) d_Ri_once_89 ?_
  refine va_gets hx hb (hSt.1 12 _ rfl).1 hS hown (hts _ gw_1263) (fun _ h9 => h9) d_Ri_once_92 ?_
  refine va_gets hx hb (hSt.1 13 _ rfl).1 hS hown (hts _ gw_1265) (fun _ h9 => h9) d_Ri_once_95 ?_
  refine lv_iconst (v := 4) hx hb d_Ri_once_98 (by decide) ?_
  obtain ⟨f2, hc, hf⟩ := bdp1 hf
  refine q_av (wr := [(b1, .inl (cy 0, n1, .inl u4)), (a_left, .inl (cy 1, 5, .inl f1))]) (va_runV (C := "CoinKeeper$Ripemd160") (As := [.ref a_right, .ref (ad 11), .ref (ad 12), .ref (ad 13), .int (4 : Int32)]) (rest := []) ⟨hx, hb, hml, hown, hts⟩ (c_Ri_turn_s2x11s3x12s4x13 l D cy ad fu o (.ref a_left) (.ref a_right) a_state a_x a_right u0 u3 (4 : Int32) u2 _ hc H.size) ⟨q_cB hts gw_1256 gw_7 gw_1253 hdc_10 ⟨by decide, by decide⟩, hts _ gw_1255, hts _ gs_57⟩ (q_preV (q_pre (hP.sub [2, 3, 4, 0] rfl) (hD.sub [2, 3, 4, 0] (by decide) rfl) hK hSt hS (va_free hD hS hA [2, 3, 4, 0] rfl) _) (va_recv hK (hP.sub [2, 3, 4, 0] rfl) (ci := 8) (q0 := 0) rfl rfl)) rfl rfl hl.1 rfl (lv_room (Nat.le_of_ble_eq_true rfl)) d_Ri_once_99 ⟨Nat.le_of_ble_eq_true rfl, Nat.le_of_ble_eq_true rfl⟩) hP hD hS hA [2, 3, 4, 0] [1, 5] rfl rfl (by decide) (by decide) (fun H locs hP hD hS => ?_)
  clear hc
  have hP : va_P D classes [(b1, .inl (cy 0, n1, .inl u4)), (a_left, .inl (cy 1, 5, .inl f1)), (o, .inr (8, [.ref a_state, .ref a_left, .ref a_right, .ref a_x])), (a_state, .inl (cy 1, 5, .inl u0)), (a_x, .inl (cy 1, 16, .inl u3)), (a_right, .inl (cy 1, 5, .inl f2))] H := hP
  have hD : va_D A [(b1, .inl (cy 0, n1, .inl u4)), (a_left, .inl (cy 1, 5, .inl f1)), (o, .inr (8, [.ref a_state, .ref a_left, .ref a_right, .ref a_x])), (a_state, .inl (cy 1, 5, .inl u0)), (a_x, .inl (cy 1, 16, .inl u3)), (a_right, .inl (cy 1, 5, .inl f2))] := hD
  refine lv_aload_n hx hb d_Ri_once_102 rfl (lv_at hl 0 rfl) ?_
  refine va_get (D := D) (ci := 8) (v := .ref a_state) (C := "CoinKeeper$Ripemd160") (T := F_8) (N := 4) hx hb hts i_8 hown hK hP 2 rfl rfl 0 (by decide) (hts _ gw_191) (fun _ h9 => h9) rfl d_Ri_once_103 ?_
  refine lv_iconst (v := 1) hx hb d_Ri_once_106 (by decide) ?_
  refine va_iald hx hb hK hP 3 1 rfl rfl (inb_in (by decide)) d_Ri_once_107 ?_
  refine lv_topi (fun v3 ev => ?_)
  have hf := bn ev hf
  clear ev
  refine lv_aload_n hx hb d_Ri_once_108 rfl (lv_at hl 0 rfl) ?_
  refine va_get (D := D) (ci := 8) (v := .ref a_left) (C := "CoinKeeper$Ripemd160") (T := F_8) (N := 4) hx hb hts i_8 hown hK hP 2 rfl rfl 1 (by decide) (hts _ gw_192) (fun _ h9 => h9) rfl d_Ri_once_109 ?_
  refine lv_iconst (v := 2) hx hb d_Ri_once_112 (by decide) ?_
  refine va_iald hx hb hK hP 1 1 rfl rfl (inb_in (by decide)) d_Ri_once_113 ?_
  refine lv_topi (fun v4 ev => ?_)
  have hf := bn ev hf
  clear ev
  refine lv_iadd hx hb d_Ri_once_114 ?_
  refine lv_topi (fun v5 ev => ?_)
  have hf := bn ev hf
  clear ev
  refine lv_aload_n hx hb d_Ri_once_115 rfl (lv_at hl 0 rfl) ?_
  refine va_get (D := D) (ci := 8) (v := .ref a_right) (C := "CoinKeeper$Ripemd160") (T := F_8) (N := 4) hx hb hts i_8 hown hK hP 2 rfl rfl 2 (by decide) (hts _ gw_193) (fun _ h9 => h9) rfl d_Ri_once_116 ?_
  refine lv_iconst (v := 3) hx hb d_Ri_once_119 (by decide) ?_
  refine va_iald hx hb hK hP 5 1 rfl rfl (inb_in (by decide)) d_Ri_once_120 ?_
  refine lv_topi (fun v6 ev => ?_)
  have hf := bn ev hf
  clear ev
  refine lv_iadd hx hb d_Ri_once_121 ?_
  refine lv_topi (fun v7 ev => ?_)
  have hf := bn ev hf
  clear ev
  refine lv_istore (lv' := [(8, .int v7), (0, .ref o), (1, .ref b1), (2, .int x2), (3, .int x3), (4, .ref b1), (5, .int x5), (6, .int x6), (7, .int x7)]) hx hb d_Ri_once_122 hl (by decide) rfl (fun ls hl => ?_)
  refine lv_aload_n hx hb d_Ri_once_124 rfl (lv_at hl 1 rfl) ?_
  refine va_get (D := D) (ci := 8) (v := .ref a_state) (C := "CoinKeeper$Ripemd160") (T := F_8) (N := 4) hx hb hts i_8 hown hK hP 2 rfl rfl 0 (by decide) (hts _ gw_191) (fun _ h9 => h9) rfl d_Ri_once_125 ?_
  refine lv_iconst (v := 1) hx hb d_Ri_once_128 (by decide) ?_
  refine lv_aload_n hx hb d_Ri_once_129 rfl (lv_at hl 1 rfl) ?_
  refine va_get (D := D) (ci := 8) (v := .ref a_state) (C := "CoinKeeper$Ripemd160") (T := F_8) (N := 4) hx hb hts i_8 hown hK hP 2 rfl rfl 0 (by decide) (hts _ gw_191) (fun _ h9 => h9) rfl d_Ri_once_130 ?_
  refine lv_iconst (v := 2) hx hb d_Ri_once_133 (by decide) ?_
  refine va_iald hx hb hK hP 3 1 rfl rfl (inb_in (by decide)) d_Ri_once_134 ?_
  refine lv_topi (fun v8 ev => ?_)
  have hf := bn ev hf
  clear ev
  refine lv_aload_n hx hb d_Ri_once_135 rfl (lv_at hl 1 rfl) ?_
  refine va_get (D := D) (ci := 8) (v := .ref a_left) (C := "CoinKeeper$Ripemd160") (T := F_8) (N := 4) hx hb hts i_8 hown hK hP 2 rfl rfl 1 (by decide) (hts _ gw_192) (fun _ h9 => h9) rfl d_Ri_once_136 ?_
  refine lv_iconst (v := 3) hx hb d_Ri_once_139 (by decide) ?_
  refine va_iald hx hb hK hP 1 1 rfl rfl (inb_in (by decide)) d_Ri_once_140 ?_
  refine lv_topi (fun v9 ev => ?_)
  have hf := bn ev hf
  clear ev
  refine lv_iadd hx hb d_Ri_once_141 ?_
  refine lv_topi (fun v10 ev => ?_)
  have hf := bn ev hf
  clear ev
  refine lv_aload_n hx hb d_Ri_once_142 rfl (lv_at hl 1 rfl) ?_
  refine va_get (D := D) (ci := 8) (v := .ref a_right) (C := "CoinKeeper$Ripemd160") (T := F_8) (N := 4) hx hb hts i_8 hown hK hP 2 rfl rfl 2 (by decide) (hts _ gw_193) (fun _ h9 => h9) rfl d_Ri_once_143 ?_
  refine lv_iconst (v := 4) hx hb d_Ri_once_146 (by decide) ?_
  refine va_iald hx hb hK hP 5 1 rfl rfl (inb_in (by decide)) d_Ri_once_147 ?_
  refine lv_topi (fun v11 ev => ?_)
  have hf := bn ev hf
  clear ev
  refine lv_iadd hx hb d_Ri_once_148 ?_
  refine lv_topi (fun v12 ev => ?_)
  have hf := bn ev hf
  clear ev
  refine va_iast hx hb hK hP hD hS 3 1 rfl rfl (inb_in (by decide)) d_Ri_once_149 (fun H locs hP hD hS => ?_)
  obtain ⟨f13, ev, hf⟩ := bne hf
  have hP : va_P D classes [(b1, .inl (cy 0, n1, .inl u4)), (a_left, .inl (cy 1, 5, .inl f1)), (o, .inr (8, [.ref a_state, .ref a_left, .ref a_right, .ref a_x])), (a_state, .inl (cy 1, 5, .inl f13)), (a_x, .inl (cy 1, 16, .inl u3)), (a_right, .inl (cy 1, 5, .inl f2))] H := by rw [ev]; exact hP
  have hD : va_D A [(b1, .inl (cy 0, n1, .inl u4)), (a_left, .inl (cy 1, 5, .inl f1)), (o, .inr (8, [.ref a_state, .ref a_left, .ref a_right, .ref a_x])), (a_state, .inl (cy 1, 5, .inl f13)), (a_x, .inl (cy 1, 16, .inl u3)), (a_right, .inl (cy 1, 5, .inl f2))] := by rw [ev]; exact hD
  clear ev
  refine lv_aload_n hx hb d_Ri_once_150 rfl (lv_at hl 1 rfl) ?_
  refine va_get (D := D) (ci := 8) (v := .ref a_state) (C := "CoinKeeper$Ripemd160") (T := F_8) (N := 4) hx hb hts i_8 hown hK hP 2 rfl rfl 0 (by decide) (hts _ gw_191) (fun _ h9 => h9) rfl d_Ri_once_151 ?_
  refine lv_iconst (v := 2) hx hb d_Ri_once_154 (by decide) ?_
  refine lv_aload_n hx hb d_Ri_once_155 rfl (lv_at hl 1 rfl) ?_
  refine va_get (D := D) (ci := 8) (v := .ref a_state) (C := "CoinKeeper$Ripemd160") (T := F_8) (N := 4) hx hb hts i_8 hown hK hP 2 rfl rfl 0 (by decide) (hts _ gw_191) (fun _ h9 => h9) rfl d_Ri_once_156 ?_
  refine lv_iconst (v := 3) hx hb d_Ri_once_159 (by decide) ?_
  refine va_iald hx hb hK hP 3 1 rfl rfl (inb_in (by decide)) d_Ri_once_160 ?_
  refine lv_topi (fun v14 ev => ?_)
  have hf := bn ev hf
  clear ev
  refine lv_aload_n hx hb d_Ri_once_161 rfl (lv_at hl 1 rfl) ?_
  refine va_get (D := D) (ci := 8) (v := .ref a_left) (C := "CoinKeeper$Ripemd160") (T := F_8) (N := 4) hx hb hts i_8 hown hK hP 2 rfl rfl 1 (by decide) (hts _ gw_192) (fun _ h9 => h9) rfl d_Ri_once_162 ?_
  refine lv_iconst (v := 4) hx hb d_Ri_once_165 (by decide) ?_
  refine va_iald hx hb hK hP 1 1 rfl rfl (inb_in (by decide)) d_Ri_once_166 ?_
  refine lv_topi (fun v15 ev => ?_)
  have hf := bn ev hf
  clear ev
  refine lv_iadd hx hb d_Ri_once_167 ?_
  refine lv_topi (fun v16 ev => ?_)
  have hf := bn ev hf
  clear ev
  refine lv_aload_n hx hb d_Ri_once_168 rfl (lv_at hl 1 rfl) ?_
  refine va_get (D := D) (ci := 8) (v := .ref a_right) (C := "CoinKeeper$Ripemd160") (T := F_8) (N := 4) hx hb hts i_8 hown hK hP 2 rfl rfl 2 (by decide) (hts _ gw_193) (fun _ h9 => h9) rfl d_Ri_once_169 ?_
  refine lv_iconst (v := 0) hx hb d_Ri_once_172 (by decide) ?_
  refine va_iald hx hb hK hP 5 1 rfl rfl (inb_in (by decide)) d_Ri_once_173 ?_
  refine lv_topi (fun v17 ev => ?_)
  have hf := bn ev hf
  clear ev
  refine lv_iadd hx hb d_Ri_once_174 ?_
  refine lv_topi (fun v18 ev => ?_)
  have hf := bn ev hf
  clear ev
  refine va_iast hx hb hK hP hD hS 3 1 rfl rfl (inb_in (by decide)) d_Ri_once_175 (fun H locs hP hD hS => ?_)
  obtain ⟨f19, ev, hf⟩ := bne hf
  have hP : va_P D classes [(b1, .inl (cy 0, n1, .inl u4)), (a_left, .inl (cy 1, 5, .inl f1)), (o, .inr (8, [.ref a_state, .ref a_left, .ref a_right, .ref a_x])), (a_state, .inl (cy 1, 5, .inl f19)), (a_x, .inl (cy 1, 16, .inl u3)), (a_right, .inl (cy 1, 5, .inl f2))] H := by rw [ev]; exact hP
  have hD : va_D A [(b1, .inl (cy 0, n1, .inl u4)), (a_left, .inl (cy 1, 5, .inl f1)), (o, .inr (8, [.ref a_state, .ref a_left, .ref a_right, .ref a_x])), (a_state, .inl (cy 1, 5, .inl f19)), (a_x, .inl (cy 1, 16, .inl u3)), (a_right, .inl (cy 1, 5, .inl f2))] := by rw [ev]; exact hD
  clear ev
  refine lv_aload_n hx hb d_Ri_once_176 rfl (lv_at hl 1 rfl) ?_
  refine va_get (D := D) (ci := 8) (v := .ref a_state) (C := "CoinKeeper$Ripemd160") (T := F_8) (N := 4) hx hb hts i_8 hown hK hP 2 rfl rfl 0 (by decide) (hts _ gw_191) (fun _ h9 => h9) rfl d_Ri_once_177 ?_
  refine lv_iconst (v := 3) hx hb d_Ri_once_180 (by decide) ?_
  refine lv_aload_n hx hb d_Ri_once_181 rfl (lv_at hl 1 rfl) ?_
  refine va_get (D := D) (ci := 8) (v := .ref a_state) (C := "CoinKeeper$Ripemd160") (T := F_8) (N := 4) hx hb hts i_8 hown hK hP 2 rfl rfl 0 (by decide) (hts _ gw_191) (fun _ h9 => h9) rfl d_Ri_once_182 ?_
  refine lv_iconst (v := 4) hx hb d_Ri_once_185 (by decide) ?_
  refine va_iald hx hb hK hP 3 1 rfl rfl (inb_in (by decide)) d_Ri_once_186 ?_
  refine lv_topi (fun v20 ev => ?_)
  have hf := bn ev hf
  clear ev
  refine lv_aload_n hx hb d_Ri_once_187 rfl (lv_at hl 1 rfl) ?_
  refine va_get (D := D) (ci := 8) (v := .ref a_left) (C := "CoinKeeper$Ripemd160") (T := F_8) (N := 4) hx hb hts i_8 hown hK hP 2 rfl rfl 1 (by decide) (hts _ gw_192) (fun _ h9 => h9) rfl d_Ri_once_188 ?_
  refine lv_iconst (v := 0) hx hb d_Ri_once_191 (by decide) ?_
  refine va_iald hx hb hK hP 1 1 rfl rfl (inb_in (by decide)) d_Ri_once_192 ?_
  refine lv_topi (fun v21 ev => ?_)
  have hf := bn ev hf
  clear ev
  refine lv_iadd hx hb d_Ri_once_193 ?_
  refine lv_topi (fun v22 ev => ?_)
  have hf := bn ev hf
  clear ev
  refine lv_aload_n hx hb d_Ri_once_194 rfl (lv_at hl 1 rfl) ?_
  refine va_get (D := D) (ci := 8) (v := .ref a_right) (C := "CoinKeeper$Ripemd160") (T := F_8) (N := 4) hx hb hts i_8 hown hK hP 2 rfl rfl 2 (by decide) (hts _ gw_193) (fun _ h9 => h9) rfl d_Ri_once_195 ?_
  refine lv_iconst (v := 1) hx hb d_Ri_once_198 (by decide) ?_
  refine va_iald hx hb hK hP 5 1 rfl rfl (inb_in (by decide)) d_Ri_once_199 ?_
  refine lv_topi (fun v23 ev => ?_)
  have hf := bn ev hf
  clear ev
  refine lv_iadd hx hb d_Ri_once_200 ?_
  refine lv_topi (fun v24 ev => ?_)
  have hf := bn ev hf
  clear ev
  refine va_iast hx hb hK hP hD hS 3 1 rfl rfl (inb_in (by decide)) d_Ri_once_201 (fun H locs hP hD hS => ?_)
  obtain ⟨f25, ev, hf⟩ := bne hf
  have hP : va_P D classes [(b1, .inl (cy 0, n1, .inl u4)), (a_left, .inl (cy 1, 5, .inl f1)), (o, .inr (8, [.ref a_state, .ref a_left, .ref a_right, .ref a_x])), (a_state, .inl (cy 1, 5, .inl f25)), (a_x, .inl (cy 1, 16, .inl u3)), (a_right, .inl (cy 1, 5, .inl f2))] H := by rw [ev]; exact hP
  have hD : va_D A [(b1, .inl (cy 0, n1, .inl u4)), (a_left, .inl (cy 1, 5, .inl f1)), (o, .inr (8, [.ref a_state, .ref a_left, .ref a_right, .ref a_x])), (a_state, .inl (cy 1, 5, .inl f25)), (a_x, .inl (cy 1, 16, .inl u3)), (a_right, .inl (cy 1, 5, .inl f2))] := by rw [ev]; exact hD
  clear ev
  refine lv_aload_n hx hb d_Ri_once_202 rfl (lv_at hl 1 rfl) ?_
  refine va_get (D := D) (ci := 8) (v := .ref a_state) (C := "CoinKeeper$Ripemd160") (T := F_8) (N := 4) hx hb hts i_8 hown hK hP 2 rfl rfl 0 (by decide) (hts _ gw_191) (fun _ h9 => h9) rfl d_Ri_once_203 ?_
  refine lv_iconst (v := 4) hx hb d_Ri_once_206 (by decide) ?_
  refine lv_aload_n hx hb d_Ri_once_207 rfl (lv_at hl 1 rfl) ?_
  refine va_get (D := D) (ci := 8) (v := .ref a_state) (C := "CoinKeeper$Ripemd160") (T := F_8) (N := 4) hx hb hts i_8 hown hK hP 2 rfl rfl 0 (by decide) (hts _ gw_191) (fun _ h9 => h9) rfl d_Ri_once_208 ?_
  refine lv_iconst (v := 0) hx hb d_Ri_once_211 (by decide) ?_
  refine va_iald hx hb hK hP 3 1 rfl rfl (inb_in (by decide)) d_Ri_once_212 ?_
  refine lv_topi (fun v26 ev => ?_)
  have hf := bn ev hf
  clear ev
  refine lv_aload_n hx hb d_Ri_once_213 rfl (lv_at hl 1 rfl) ?_
  refine va_get (D := D) (ci := 8) (v := .ref a_left) (C := "CoinKeeper$Ripemd160") (T := F_8) (N := 4) hx hb hts i_8 hown hK hP 2 rfl rfl 1 (by decide) (hts _ gw_192) (fun _ h9 => h9) rfl d_Ri_once_214 ?_
  refine lv_iconst (v := 1) hx hb d_Ri_once_217 (by decide) ?_
  refine va_iald hx hb hK hP 1 1 rfl rfl (inb_in (by decide)) d_Ri_once_218 ?_
  refine lv_topi (fun v27 ev => ?_)
  have hf := bn ev hf
  clear ev
  refine lv_iadd hx hb d_Ri_once_219 ?_
  refine lv_topi (fun v28 ev => ?_)
  have hf := bn ev hf
  clear ev
  refine lv_aload_n hx hb d_Ri_once_220 rfl (lv_at hl 1 rfl) ?_
  refine va_get (D := D) (ci := 8) (v := .ref a_right) (C := "CoinKeeper$Ripemd160") (T := F_8) (N := 4) hx hb hts i_8 hown hK hP 2 rfl rfl 2 (by decide) (hts _ gw_193) (fun _ h9 => h9) rfl d_Ri_once_221 ?_
  refine lv_iconst (v := 2) hx hb d_Ri_once_224 (by decide) ?_
  refine va_iald hx hb hK hP 5 1 rfl rfl (inb_in (by decide)) d_Ri_once_225 ?_
  refine lv_topi (fun v29 ev => ?_)
  have hf := bn ev hf
  clear ev
  refine lv_iadd hx hb d_Ri_once_226 ?_
  refine lv_topi (fun v30 ev => ?_)
  have hf := bn ev hf
  clear ev
  refine va_iast hx hb hK hP hD hS 3 1 rfl rfl (inb_in (by decide)) d_Ri_once_227 (fun H locs hP hD hS => ?_)
  obtain ⟨f31, ev, hf⟩ := bne hf
  have hP : va_P D classes [(b1, .inl (cy 0, n1, .inl u4)), (a_left, .inl (cy 1, 5, .inl f1)), (o, .inr (8, [.ref a_state, .ref a_left, .ref a_right, .ref a_x])), (a_state, .inl (cy 1, 5, .inl f31)), (a_x, .inl (cy 1, 16, .inl u3)), (a_right, .inl (cy 1, 5, .inl f2))] H := by rw [ev]; exact hP
  have hD : va_D A [(b1, .inl (cy 0, n1, .inl u4)), (a_left, .inl (cy 1, 5, .inl f1)), (o, .inr (8, [.ref a_state, .ref a_left, .ref a_right, .ref a_x])), (a_state, .inl (cy 1, 5, .inl f31)), (a_x, .inl (cy 1, 16, .inl u3)), (a_right, .inl (cy 1, 5, .inl f2))] := by rw [ev]; exact hD
  clear ev
  refine lv_aload_n hx hb d_Ri_once_228 rfl (lv_at hl 1 rfl) ?_
  refine va_get (D := D) (ci := 8) (v := .ref a_state) (C := "CoinKeeper$Ripemd160") (T := F_8) (N := 4) hx hb hts i_8 hown hK hP 2 rfl rfl 0 (by decide) (hts _ gw_191) (fun _ h9 => h9) rfl d_Ri_once_229 ?_
  refine lv_iconst (v := 0) hx hb d_Ri_once_232 (by decide) ?_
  refine lv_iload hx hb d_Ri_once_233 (lv_at hl 0 rfl) ?_
  refine va_iast hx hb hK hP hD hS 3 1 rfl rfl (inb_in (by decide)) d_Ri_once_235 (fun H locs hP hD hS => ?_)
  obtain ⟨f32, ev, hf⟩ := bne hf
  have hP : va_P D classes [(b1, .inl (cy 0, n1, .inl u4)), (a_left, .inl (cy 1, 5, .inl f1)), (o, .inr (8, [.ref a_state, .ref a_left, .ref a_right, .ref a_x])), (a_state, .inl (cy 1, 5, .inl f32)), (a_x, .inl (cy 1, 16, .inl u3)), (a_right, .inl (cy 1, 5, .inl f2))] H := by rw [ev]; exact hP
  have hD : va_D A [(b1, .inl (cy 0, n1, .inl u4)), (a_left, .inl (cy 1, 5, .inl f1)), (o, .inr (8, [.ref a_state, .ref a_left, .ref a_right, .ref a_x])), (a_state, .inl (cy 1, 5, .inl f32)), (a_x, .inl (cy 1, 16, .inl u3)), (a_right, .inl (cy 1, 5, .inl f2))] := by rw [ev]; exact hD
  clear ev
  obtain ⟨v33, ev, hf⟩ := bne hf
  refine lv_iinc (v := v33) (lv' := [(7, .int v33), (8, .int v7), (0, .ref o), (1, .ref b1), (2, .int x2), (3, .int x3), (4, .ref b1), (5, .int x5), (6, .int x6)]) hx hb d_Ri_once_236 hl (k := 8) rfl (by rw [ev]; rfl) (by decide) rfl (fun ls hl => ?_)
  clear ev
  refine lv_goto (tgt := 27) hx hb d_Ri_once_239 (by decide) ?_
  exact hk_27 _ _ _ _ _ _ _ _ _ _ _ hf _ _ _ (hP.sub (ws' := [(o, .inr (8, [.ref a_state, .ref a_left, .ref a_right, .ref a_x])), (a_state, .inl (cy 1, 5, .inl f32)), (a_left, .inl (cy 1, 5, .inl f1)), (a_right, .inl (cy 1, 5, .inl f2)), (a_x, .inl (cy 1, 16, .inl u3)), (b1, .inl (cy 0, n1, .inl u4))]) [2, 3, 1, 5, 4, 0] rfl) (hD.sub (ws' := [(o, .inr (8, [.ref a_state, .ref a_left, .ref a_right, .ref a_x])), (a_state, .inl (cy 1, 5, .inl f32)), (a_left, .inl (cy 1, 5, .inl f1)), (a_right, .inl (cy 1, 5, .inl f2)), (a_x, .inl (cy 1, 16, .inl u3)), (b1, .inl (cy 0, n1, .inl u4))]) [2, 3, 1, 5, 4, 0] (by decide) rfl) hS (lv_sub hl [2, 3, 4, 5, 6, 7, 8, 0] rfl)
theorem hdc_11 : ({ cls := "CoinKeeper$Ripemd160", name := "spread", desc := "([BIII)V" } : Jvm.MethodName).cls ≠ "java/lang/invoke/MethodHandle" ∧ ({ cls := "CoinKeeper$Ripemd160", name := "spread", desc := "([BIII)V" } : Jvm.MethodName).cls ≠ "java/lang/invoke/VarHandle" ∧ (parseMethodDescriptor ({ cls := "CoinKeeper$Ripemd160", name := "spread", desc := "([BIII)V" } : Jvm.MethodName).desc).map (fun d => d.parameters.length) = some 4 := by decide +kernel
set_option maxHeartbeats 8000000 in
set_option maxRecDepth 100000 in
theorem wb_Ri_once_e41_27 {p : Program} {l : Launch} {e : Env} {s : State} {m : MethodId} {args : Array Value} {below : List Frame} {meth : Method} {c : Code} {D : va_G} {cy : Nat → ClassId} {A : Nat → Prop} {ad : Nat → Nat} {o : Nat} {a_state : Nat} {a_left : Nat} {a_right : Nat} {a_x : Nat} {b1 : Nat} {n1 : Nat} {fu : Nat} {k_27 : Int32 → Int32 → Int32 → Int32 → Int32 → (Nat → Int32) → (Nat → Int32) → (Nat → Int32) → (Nat → Int32) → (Nat → Int32) → Option ((Nat → Int32) × (Nat → Int32) × (Nat → Int32) × (Nat → Int32) × (Nat → Int32))} (F : Fx p s m args meth c b_Ri_once 9 "CoinKeeper$Ripemd160" "once" none D cy ad A) (hk_27 : I_Ri_once_e41_27 p l e s m args below meth c D cy A ad o a_state a_left a_right a_x b1 n1 k_27) : I_Ri_once_e41_27 p l e s m args below meth c D cy A ad o a_state a_left a_right a_x b1 n1 (xb_Ri_once_e41_27 fu n1 k_27) := by
  obtain ⟨hx, hb, hr, hml, hown, hts, hlocks, hK, hA, hSt, hnm, hex⟩ := id F
  intro x2 x3 x5 x6 x7 u0 u1 u2 u3 u4 res hf H locs ls hP hD hS hl
  unfold xb_Ri_once_e41_27 at hf
  refine lv_iload hx hb d_Ri_once_27 (lv_at hl 7 rfl) ?_
  refine lv_iload hx hb d_Ri_once_29 (lv_at hl 6 rfl) ?_
  refine lv_icmp_ge (tgt := 242) hx hb d_Ri_once_31 (by decide) (fun cx => ?_) (fun cx => ?_)
  · have hf := ifp cx hf
    refine lv_iconst (v := 0) hx hb d_Ri_once_242 (by decide) ?_
    refine lv_istore (lv' := [(7, .int (0 : Int32)), (0, .ref o), (1, .ref b1), (2, .int x2), (3, .int x3), (4, .ref b1), (5, .int x5), (6, .int x6)]) hx hb d_Ri_once_243 hl (by decide) rfl (fun ls hl => ?_)
    exact w_Ri_once_e41_245 F fu _ _ _ _ _ _ _ _ hf _ _ _ hP hD hS (lv_sub hl [1, 5, 6, 0] rfl)
  · have hf := ifn cx hf
    refine lv_aload_n hx hb d_Ri_once_34 rfl (lv_at hl 0 rfl) ?_
    refine lv_aload_n hx hb d_Ri_once_35 rfl (lv_at hl 1 rfl) ?_
    refine lv_iload_n hx hb d_Ri_once_36 rfl (lv_at hl 2 rfl) ?_
    refine lv_iload_n hx hb d_Ri_once_37 rfl (lv_at hl 3 rfl) ?_
    refine lv_bipush (v := 64) hx hb d_Ri_once_38 (by decide) ?_
    refine lv_iload hx hb d_Ri_once_40 (lv_at hl 7 rfl) ?_
    refine lv_imul hx hb d_Ri_once_42 ?_
    refine lv_topi (fun v1 ev => ?_)
    have hf := bn ev hf
    clear ev
    obtain ⟨f2, hc, hf⟩ := bdp1 hf
    refine q_av (wr := [(a_state, .inl (cy 1, 5, .inl u0)), (a_left, .inl (cy 1, 5, .inl u1)), (a_right, .inl (cy 1, 5, .inl u2))]) (va_runV (C := "CoinKeeper$Ripemd160") (As := [.ref b1, .int x2, .int x3, .int v1]) (rest := []) ⟨hx, hb, hml, hown, hts⟩ (c_Ri_spread l D cy ad fu o (.ref a_state) (.ref a_left) (.ref a_right) a_x b1 n1 u4 x2 x3 v1 u3 _ hc H.size) ⟨q_cB hts gw_1246 gw_7 gw_1243 hdc_11 ⟨by decide, by decide⟩, hts _ gw_1245, hts _ gs_56⟩ (q_preV (q_pre (hP.sub [0, 4, 5] rfl) (hD.sub [0, 4, 5] (by decide) rfl) hK hSt hS (va_free hD hS hA [0, 4, 5] rfl) _) (va_recv hK (hP.sub [0, 4, 5] rfl) (ci := 8) (q0 := 0) rfl rfl)) rfl rfl hl.1 rfl (lv_room (Nat.le_of_ble_eq_true rfl)) d_Ri_once_43 ⟨Nat.le_of_ble_eq_true rfl, Nat.le_of_ble_eq_true rfl⟩) hP hD hS hA [0, 4, 5] [1, 2, 3] rfl rfl (by decide) (by decide) (fun H locs hP hD hS => ?_)
    clear hc
    have hP : va_P D classes [(a_state, .inl (cy 1, 5, .inl u0)), (a_left, .inl (cy 1, 5, .inl u1)), (a_right, .inl (cy 1, 5, .inl u2)), (o, .inr (8, [.ref a_state, .ref a_left, .ref a_right, .ref a_x])), (a_x, .inl (cy 1, 16, .inl f2)), (b1, .inl (cy 0, n1, .inl u4))] H := hP
    have hD : va_D A [(a_state, .inl (cy 1, 5, .inl u0)), (a_left, .inl (cy 1, 5, .inl u1)), (a_right, .inl (cy 1, 5, .inl u2)), (o, .inr (8, [.ref a_state, .ref a_left, .ref a_right, .ref a_x])), (a_x, .inl (cy 1, 16, .inl f2)), (b1, .inl (cy 0, n1, .inl u4))] := hD
    refine lv_iload hx hb d_Ri_once_46 (lv_at hl 7 rfl) ?_
    refine lv_iload hx hb d_Ri_once_48 (lv_at hl 6 rfl) ?_
    refine lv_iconst (v := 1) hx hb d_Ri_once_50 (by decide) ?_
    refine lv_isub hx hb d_Ri_once_51 ?_
    refine lv_icmp_ne (tgt := 66) hx hb d_Ri_once_52 (by decide) (fun cx => ?_) (fun cx => ?_)
    · have hf := ifn cx hf
      exact wb_Ri_once_e41_66 (fu := fu) F hk_27 _ _ _ _ _ _ _ _ _ _ _ hf _ _ _ (hP.sub (ws' := [(o, .inr (8, [.ref a_state, .ref a_left, .ref a_right, .ref a_x])), (a_state, .inl (cy 1, 5, .inl u0)), (a_left, .inl (cy 1, 5, .inl u1)), (a_right, .inl (cy 1, 5, .inl u2)), (a_x, .inl (cy 1, 16, .inl f2)), (b1, .inl (cy 0, n1, .inl u4))]) [3, 0, 1, 2, 4, 5] rfl) (hD.sub (ws' := [(o, .inr (8, [.ref a_state, .ref a_left, .ref a_right, .ref a_x])), (a_state, .inl (cy 1, 5, .inl u0)), (a_left, .inl (cy 1, 5, .inl u1)), (a_right, .inl (cy 1, 5, .inl u2)), (a_x, .inl (cy 1, 16, .inl f2)), (b1, .inl (cy 0, n1, .inl u4))]) [3, 0, 1, 2, 4, 5] (by decide) rfl) hS (lv_sub hl [0, 1, 2, 3, 4, 5, 6, 7] rfl)
    · have hf := ifp cx hf
      refine lv_aload_n hx hb d_Ri_once_55 rfl (lv_at hl 0 rfl) ?_
      refine va_get (D := D) (ci := 8) (v := .ref a_x) (C := "CoinKeeper$Ripemd160") (T := F_8) (N := 4) hx hb hts i_8 hown hK hP 3 rfl rfl 3 (by decide) (hts _ gw_194) (fun _ h9 => h9) rfl d_Ri_once_56 ?_
      refine lv_bipush (v := 14) hx hb d_Ri_once_59 (by decide) ?_
      refine lv_bipush (v := 8) hx hb d_Ri_once_61 (by decide) ?_
      refine lv_iload_n hx hb d_Ri_once_63 rfl (lv_at hl 3 rfl) ?_
      refine lv_imul hx hb d_Ri_once_64 ?_
      refine lv_topi (fun v3 ev => ?_)
      have hf := bn ev hf
      clear ev
      refine va_iast hx hb hK hP hD hS 4 1 rfl rfl (inb_in (by decide)) d_Ri_once_65 (fun H locs hP hD hS => ?_)
      obtain ⟨f4, ev, hf⟩ := bne hf
      have hP : va_P D classes [(a_state, .inl (cy 1, 5, .inl u0)), (a_left, .inl (cy 1, 5, .inl u1)), (a_right, .inl (cy 1, 5, .inl u2)), (o, .inr (8, [.ref a_state, .ref a_left, .ref a_right, .ref a_x])), (a_x, .inl (cy 1, 16, .inl f4)), (b1, .inl (cy 0, n1, .inl u4))] H := by rw [ev]; exact hP
      have hD : va_D A [(a_state, .inl (cy 1, 5, .inl u0)), (a_left, .inl (cy 1, 5, .inl u1)), (a_right, .inl (cy 1, 5, .inl u2)), (o, .inr (8, [.ref a_state, .ref a_left, .ref a_right, .ref a_x])), (a_x, .inl (cy 1, 16, .inl f4)), (b1, .inl (cy 0, n1, .inl u4))] := by rw [ev]; exact hD
      clear ev
      exact wb_Ri_once_e41_66 (fu := fu) F hk_27 _ _ _ _ _ _ _ _ _ _ _ hf _ _ _ (hP.sub (ws' := [(o, .inr (8, [.ref a_state, .ref a_left, .ref a_right, .ref a_x])), (a_state, .inl (cy 1, 5, .inl u0)), (a_left, .inl (cy 1, 5, .inl u1)), (a_right, .inl (cy 1, 5, .inl u2)), (a_x, .inl (cy 1, 16, .inl f4)), (b1, .inl (cy 0, n1, .inl u4))]) [3, 0, 1, 2, 4, 5] rfl) (hD.sub (ws' := [(o, .inr (8, [.ref a_state, .ref a_left, .ref a_right, .ref a_x])), (a_state, .inl (cy 1, 5, .inl u0)), (a_left, .inl (cy 1, 5, .inl u1)), (a_right, .inl (cy 1, 5, .inl u2)), (a_x, .inl (cy 1, 16, .inl f4)), (b1, .inl (cy 0, n1, .inl u4))]) [3, 0, 1, 2, 4, 5] (by decide) rfl) hS (lv_sub hl [0, 1, 2, 3, 4, 5, 6, 7] rfl)
theorem w_Ri_once_e41_27 {p : Program} {l : Launch} {e : Env} {s : State} {m : MethodId} {args : Array Value} {below : List Frame} {meth : Method} {c : Code} {D : va_G} {cy : Nat → ClassId} {A : Nat → Prop} {ad : Nat → Nat} {o : Nat} {a_state : Nat} {a_left : Nat} {a_right : Nat} {a_x : Nat} {b1 : Nat} {n1 : Nat} {fu : Nat} (F : Fx p s m args meth c b_Ri_once 9 "CoinKeeper$Ripemd160" "once" none D cy ad A) : ∀ n : Nat, I_Ri_once_e41_27 p l e s m args below meth c D cy A ad o a_state a_left a_right a_x b1 n1 (x_Ri_once_e41_27 fu n1 n)
  | 0 => fun _ _ _ _ _ _ _ _ _ _ _ hf => nomatch (show (none : Option ((Nat → Int32) × (Nat → Int32) × (Nat → Int32) × (Nat → Int32) × (Nat → Int32))) = some _ from hf)
  | n + 1 => wb_Ri_once_e41_27 F (w_Ri_once_e41_27 F n)
set_option maxHeartbeats 8000000 in
set_option maxRecDepth 100000 in
theorem we_Ri_once_e41 {p : Program} {l : Launch} {e : Env} {s : State} {m : MethodId} {args : Array Value} {below : List Frame} {meth : Method} {c : Code} {D : va_G} {cy : Nat → ClassId} {A : Nat → Prop} {ad : Nat → Nat} {o : Nat} {a_state : Nat} {a_left : Nat} {a_right : Nat} {a_x : Nat} {b1 : Nat} {n1 : Nat} {fu : Nat} (F : Fx p s m args meth c b_Ri_once 9 "CoinKeeper$Ripemd160" "once" none D cy ad A) : I_Ri_once_e41_e p l e s m args below meth c D cy A ad o a_state a_left a_right a_x b1 n1 (x_Ri_once_e41 fu n1) := by
  obtain ⟨hx, hb, hr, hml, hown, hts, hlocks, hK, hA, hSt, hnm, hex⟩ := id F
  intro a2 a3 a5 u0 u1 u2 u3 u4 res hf H locs ls hP hD hS hl
  unfold x_Ri_once_e41 at hf
  refine va_gets hx hb (hSt.1 7 _ rfl).1 hS hown (hts _ gw_1240) (fun _ h9 => h9) d_Ri_once_0 ?_
  refine lv_iconst (v := 0) hx hb d_Ri_once_3 (by decide) ?_
  refine lv_aload_n hx hb d_Ri_once_4 rfl (lv_at hl 0 rfl) ?_
  refine va_get (D := D) (ci := 8) (v := .ref a_state) (C := "CoinKeeper$Ripemd160") (T := F_8) (N := 4) hx hb hts i_8 hown hK hP 0 rfl rfl 0 (by decide) (hts _ gw_191) (fun _ h9 => h9) rfl d_Ri_once_5 ?_
  refine lv_iconst (v := 0) hx hb d_Ri_once_8 (by decide) ?_
  refine lv_iconst (v := 5) hx hb d_Ri_once_9 (by decide) ?_
  obtain ⟨hg, hf⟩ := gdp hf
  refine q_copyt (rest := []) hx hb (hml.trans hl.1.symm) hown (hts _ gw_1242) (hts _ gw_497) (hts _ gw_496) (hts _ gw_17) hK hP hD hS (hSt.1 7 _ rfl).2 1 1 rfl rfl (cpk_p hg).1 (cpk_p hg).2.1 (cpk_p hg).2.2.1 (cpk_p hg).2.2.2.1 (cpk_p hg).2.2.2.2 (by decide) (by decide) d_Ri_once_10 (fun H locs hP hD hS => ?_)
  obtain ⟨f1, ev, hf⟩ := bne hf
  have hP : va_P D classes [(o, .inr (8, [.ref a_state, .ref a_left, .ref a_right, .ref a_x])), (a_state, .inl (cy 1, 5, .inl f1)), (a_left, .inl (cy 1, 5, .inl u1)), (a_right, .inl (cy 1, 5, .inl u2)), (a_x, .inl (cy 1, 16, .inl u3)), (b1, .inl (cy 0, n1, .inl u4))] H := by rw [ev]; exact hP
  have hD : va_D A [(o, .inr (8, [.ref a_state, .ref a_left, .ref a_right, .ref a_x])), (a_state, .inl (cy 1, 5, .inl f1)), (a_left, .inl (cy 1, 5, .inl u1)), (a_right, .inl (cy 1, 5, .inl u2)), (a_x, .inl (cy 1, 16, .inl u3)), (b1, .inl (cy 0, n1, .inl u4))] := by rw [ev]; exact hD
  clear ev
  refine lv_iload_n hx hb d_Ri_once_13 rfl (lv_at hl 3 rfl) ?_
  refine lv_bipush (v := 8) hx hb d_Ri_once_14 (by decide) ?_
  refine lv_iadd hx hb d_Ri_once_16 ?_
  refine lv_topi (fun v2 ev => ?_)
  have hf := bn ev hf
  clear ev
  refine lv_bipush (v := 64) hx hb d_Ri_once_17 (by decide) ?_
  refine lv_idiv hx hb d_Ri_once_19 (by decide) ?_
  refine lv_topi (fun v3 ev => ?_)
  have hf := bn ev hf
  clear ev
  refine lv_iconst (v := 1) hx hb d_Ri_once_20 (by decide) ?_
  refine lv_iadd hx hb d_Ri_once_21 ?_
  refine lv_topi (fun v4 ev => ?_)
  have hf := bn ev hf
  clear ev
  refine lv_istore (lv' := [(6, .int v4), (0, .ref o), (1, .ref b1), (2, .int a2), (3, .int a3), (4, .ref b1), (5, .int a5)]) hx hb d_Ri_once_22 hl (by decide) rfl (fun ls hl => ?_)
  refine lv_iconst (v := 0) hx hb d_Ri_once_24 (by decide) ?_
  refine lv_istore (lv' := [(7, .int (0 : Int32)), (6, .int v4), (0, .ref o), (1, .ref b1), (2, .int a2), (3, .int a3), (4, .ref b1), (5, .int a5)]) hx hb d_Ri_once_25 hl (by decide) rfl (fun ls hl => ?_)
  exact w_Ri_once_e41_27 F fu _ _ _ _ _ _ _ _ _ _ _ hf _ _ _ hP hD hS (lv_sub hl [2, 3, 4, 5, 6, 7, 1, 0] rfl)
theorem c_Ri_once_e41 (l : Launch) (D : va_G) (cy : Nat → ClassId) (ad : Nat → Nat) (fu : Nat) (o : Nat) (a_state : Nat) (a_left : Nat) (a_right : Nat) (a_x : Nat) (b1 : Nat) (n1 : Nat) (a2 : Int32) (a3 : Int32) (a5 : Int32) (u0 : Nat → Int32) (u1 : Nat → Int32) (u2 : Nat → Int32) (u3 : Nat → Int32) (u4 : Nat → Int32) (res : (Nat → Int32) × (Nat → Int32) × (Nat → Int32) × (Nat → Int32) × (Nat → Int32)) (hf : x_Ri_once_e41 fu n1 a2 a3 a5 u0 u1 u2 u3 u4 = some res) (sz : Nat) : Met l ({ cls := "CoinKeeper$Ripemd160", name := "once", desc := "([BII[BI)V" } : Jvm.MethodName) (.code ({ cls := "CoinKeeper$Ripemd160", name := "once", desc := "([BII[BI)V" } : Jvm.MethodName) b_Ri_once 9 none :: gw) rm_Ri_once_e41 (va_Pc [.ref o, .ref b1, .int a2, .int a3, .ref b1, .int a5] (Pr D cy ad [(o, .inr (8, [.ref a_state, .ref a_left, .ref a_right, .ref a_x])), (a_state, .inl (cy 1, 5, .inl u0)), (a_left, .inl (cy 1, 5, .inl u1)), (a_right, .inl (cy 1, 5, .inl u2)), (a_x, .inl (cy 1, 16, .inl u3)), (b1, .inl (cy 0, n1, .inl u4))] sz)) (q_Ri_once_e41 D cy (va_A [(o, .inr (8, [.ref a_state, .ref a_left, .ref a_right, .ref a_x])), (a_state, .inl (cy 1, 5, .inl u0)), (a_left, .inl (cy 1, 5, .inl u1)), (a_right, .inl (cy 1, 5, .inl u2)), (a_x, .inl (cy 1, 16, .inl u3)), (b1, .inl (cy 0, n1, .inl u4))] sz) o a_state a_left a_right a_x b1 n1 res) 0 0 (va_A [(o, .inr (8, [.ref a_state, .ref a_left, .ref a_right, .ref a_x])), (a_state, .inl (cy 1, 5, .inl u0)), (a_left, .inl (cy 1, 5, .inl u1)), (a_right, .inl (cy 1, 5, .inl u2)), (a_x, .inl (cy 1, 16, .inl u3)), (b1, .inl (cy 0, n1, .inl u4))] sz) :=
  q_met (Qc := fun A => q_Ri_once_e41 D cy A o a_state a_left a_right a_x b1 n1 res) (by decide) rfl rfl (Nat.le_of_ble_eq_true rfl) (fun p e s m below meth c ls F hP hD hS hl => we_Ri_once_e41 (fu := fu) F a2 a3 a5 u0 u1 u2 u3 u4 res hf _ _ _ hP hD hS hl) sz
abbrev b_Po_becomePlain : ByteArray := prog_8_method_3_code
theorem d_Po_becomePlain_0 : decode b_Po_becomePlain 0 = .ok (.iconst 0, 1) := by decide +kernel
theorem d_Po_becomePlain_1 : decode b_Po_becomePlain 1 = .ok (.istore_n 1, 1) := by decide +kernel
theorem d_Po_becomePlain_2 : decode b_Po_becomePlain 2 = .ok (.iload_n 1, 1) := by decide +kernel
theorem d_Po_becomePlain_3 : decode b_Po_becomePlain 3 = .ok (.bipush 10, 2) := by decide +kernel
theorem d_Po_becomePlain_5 : decode b_Po_becomePlain 5 = .ok (.if_icmp .ge 24, 3) := by decide +kernel
theorem d_Po_becomePlain_8 : decode b_Po_becomePlain 8 = .ok (.aload_n 0, 1) := by decide +kernel
theorem d_Po_becomePlain_9 : decode b_Po_becomePlain 9 = .ok (.getfield 18, 3) := by decide +kernel
theorem d_Po_becomePlain_12 : decode b_Po_becomePlain 12 = .ok (.iload_n 1, 1) := by decide +kernel
theorem d_Po_becomePlain_13 : decode b_Po_becomePlain 13 = .ok (.iload_n 1, 1) := by decide +kernel
theorem d_Po_becomePlain_14 : decode b_Po_becomePlain 14 = .ok (.ifCond .ne 7, 3) := by decide +kernel
theorem d_Po_becomePlain_17 : decode b_Po_becomePlain 17 = .ok (.lconst 1, 1) := by decide +kernel
theorem d_Po_becomePlain_18 : decode b_Po_becomePlain 18 = .ok (.goto 4, 3) := by decide +kernel
theorem d_Po_becomePlain_21 : decode b_Po_becomePlain 21 = .ok (.lconst 0, 1) := by decide +kernel
theorem d_Po_becomePlain_22 : decode b_Po_becomePlain 22 = .ok (.lastore, 1) := by decide +kernel
theorem d_Po_becomePlain_23 : decode b_Po_becomePlain 23 = .ok (.iinc 1 1, 3) := by decide +kernel
theorem d_Po_becomePlain_26 : decode b_Po_becomePlain 26 = .ok (.goto (-24), 3) := by decide +kernel
theorem d_Po_becomePlain_29 : decode b_Po_becomePlain 29 = .ok (.aload_n 0, 1) := by decide +kernel
theorem d_Po_becomePlain_30 : decode b_Po_becomePlain 30 = .ok (.iconst 0, 1) := by decide +kernel
theorem d_Po_becomePlain_31 : decode b_Po_becomePlain 31 = .ok (.putfield 28, 3) := by decide +kernel
theorem d_Po_becomePlain_34 : decode b_Po_becomePlain 34 = .ok (.aload_n 0, 1) := by decide +kernel
theorem d_Po_becomePlain_35 : decode b_Po_becomePlain 35 = .ok (.iconst 1, 1) := by decide +kernel
theorem d_Po_becomePlain_36 : decode b_Po_becomePlain 36 = .ok (.putfield 32, 3) := by decide +kernel
theorem d_Po_becomePlain_39 : decode b_Po_becomePlain 39 = .ok (.return_, 1) := by decide +kernel
abbrev rm_Po_becomePlain : Room := { frames := 0, cells := 0, slots := 0, locals := 0 }
abbrev q_Po_becomePlain (D : va_G) (cy : Nat → ClassId) (A : Nat → Prop) (o : Nat) (v_a_x : Value) (v_a_y : Value) (a_z : Nat) (res : Int32 × Int32 × (Nat → Int64)) : Array Value → State → Outcome → State → Prop := va_Qv (fun (_ : Unit) => True) (fun _ t => Po D cy A [(o, .inr (7, [v_a_x, v_a_y, .ref a_z, .int res.1, .int res.2.1])), (a_z, .inl (cy 2, 10, .inr (.inl res.2.2)))] t) A
def I_Po_becomePlain_22 (p : Program) (l : Launch) (e : Env) (s : State) (m : MethodId) (args : Array Value) (below : List Frame) (meth : Method) (c : Code) (D : va_G) (cy : Nat → ClassId) (A : Nat → Prop) (ad : Nat → Nat) (o : Nat) (v_a_x : Value) (v_a_y : Value) (a_z : Nat) (k : Int32 → Int64 → Int32 → Int32 → Int32 → (Nat → Int64) → Option (Int32 × Int32 × (Nat → Int64))) : Prop :=
  ∀ (x1 : Int32) (y0 : Int64) (y1 : Int32) (u0 : Int32) (u1 : Int32) (u2 : Nat → Int64) (res : Int32 × Int32 × (Nat → Int64)), k x1 y0 y1 u0 u1 u2 = some res → ∀ (H : Heap) (locs : List Loc) (ls : Array Slot), va_P D classes [(o, .inr (7, [v_a_x, v_a_y, .ref a_z, .int u0, .int u1])), (a_z, .inl (cy 2, 10, .inr (.inl u2)))] H → va_D A [(o, .inr (7, [v_a_x, v_a_y, .ref a_z, .int u0, .int u1])), (a_z, .inl (cy 2, 10, .inr (.inl u2)))] → va_S A s.heap H locs → lv_has ls 2 [(0, .ref o), (1, .int x1)] → W p l e rm_Po_becomePlain s m args below meth c H locs 0 0 (MQ below (q_Po_becomePlain D cy A o v_a_x v_a_y a_z res) args s 0 0 A) (F0 m 22 ls [.long y0, .int y1, .ref a_z])
def I_Po_becomePlain_2 (p : Program) (l : Launch) (e : Env) (s : State) (m : MethodId) (args : Array Value) (below : List Frame) (meth : Method) (c : Code) (D : va_G) (cy : Nat → ClassId) (A : Nat → Prop) (ad : Nat → Nat) (o : Nat) (v_a_x : Value) (v_a_y : Value) (a_z : Nat) (k : Int32 → Int32 → Int32 → (Nat → Int64) → Option (Int32 × Int32 × (Nat → Int64))) : Prop :=
  ∀ (x1 : Int32) (u0 : Int32) (u1 : Int32) (u2 : Nat → Int64) (res : Int32 × Int32 × (Nat → Int64)), k x1 u0 u1 u2 = some res → ∀ (H : Heap) (locs : List Loc) (ls : Array Slot), va_P D classes [(o, .inr (7, [v_a_x, v_a_y, .ref a_z, .int u0, .int u1])), (a_z, .inl (cy 2, 10, .inr (.inl u2)))] H → va_D A [(o, .inr (7, [v_a_x, v_a_y, .ref a_z, .int u0, .int u1])), (a_z, .inl (cy 2, 10, .inr (.inl u2)))] → va_S A s.heap H locs → lv_has ls 2 [(0, .ref o), (1, .int x1)] → W p l e rm_Po_becomePlain s m args below meth c H locs 0 0 (MQ below (q_Po_becomePlain D cy A o v_a_x v_a_y a_z res) args s 0 0 A) (F0 m 2 ls [])
def I_Po_becomePlain_e (p : Program) (l : Launch) (e : Env) (s : State) (m : MethodId) (args : Array Value) (below : List Frame) (meth : Method) (c : Code) (D : va_G) (cy : Nat → ClassId) (A : Nat → Prop) (ad : Nat → Nat) (o : Nat) (v_a_x : Value) (v_a_y : Value) (a_z : Nat) (k : Int32 → Int32 → (Nat → Int64) → Option (Int32 × Int32 × (Nat → Int64))) : Prop :=
  ∀ (u0 : Int32) (u1 : Int32) (u2 : Nat → Int64) (res : Int32 × Int32 × (Nat → Int64)), k u0 u1 u2 = some res → ∀ (H : Heap) (locs : List Loc) (ls : Array Slot), va_P D classes [(o, .inr (7, [v_a_x, v_a_y, .ref a_z, .int u0, .int u1])), (a_z, .inl (cy 2, 10, .inr (.inl u2)))] H → va_D A [(o, .inr (7, [v_a_x, v_a_y, .ref a_z, .int u0, .int u1])), (a_z, .inl (cy 2, 10, .inr (.inl u2)))] → va_S A s.heap H locs → lv_has ls 2 [(0, .ref o)] → W p l e rm_Po_becomePlain s m args below meth c H locs 0 0 (MQ below (q_Po_becomePlain D cy A o v_a_x v_a_y a_z res) args s 0 0 A) (F0 m 0 ls [])
set_option maxHeartbeats 8000000 in
set_option maxRecDepth 100000 in
theorem wb_Po_becomePlain_22 {p : Program} {l : Launch} {e : Env} {s : State} {m : MethodId} {args : Array Value} {below : List Frame} {meth : Method} {c : Code} {D : va_G} {cy : Nat → ClassId} {A : Nat → Prop} {ad : Nat → Nat} {o : Nat} {v_a_x : Value} {v_a_y : Value} {a_z : Nat} {fu : Nat} {k_2 : Int32 → Int32 → Int32 → (Nat → Int64) → Option (Int32 × Int32 × (Nat → Int64))} (F : Fx p s m args meth c b_Po_becomePlain 2 "CoinKeeper$Point" "becomePlain" none D cy ad A) (hk_2 : I_Po_becomePlain_2 p l e s m args below meth c D cy A ad o v_a_x v_a_y a_z k_2) : I_Po_becomePlain_22 p l e s m args below meth c D cy A ad o v_a_x v_a_y a_z (xb_Po_becomePlain_22 fu k_2) := by
  obtain ⟨hx, hb, hr, hml, hown, hts, hlocks, hK, hA, hSt, hnm, hex⟩ := id F
  intro x1 y0 y1 u0 u1 u2 res hf H locs ls hP hD hS hl
  unfold xb_Po_becomePlain_22 at hf
  obtain ⟨hg, hf⟩ := gdp hf
  refine va_last hx hb hK hP hD hS 1 2 rfl rfl (inb_in hg) d_Po_becomePlain_22 (fun H locs hP hD hS => ?_)
  obtain ⟨f1, ev, hf⟩ := bne hf
  have hP : va_P D classes [(o, .inr (7, [v_a_x, v_a_y, .ref a_z, .int u0, .int u1])), (a_z, .inl (cy 2, 10, .inr (.inl f1)))] H := by rw [ev]; exact hP
  have hD : va_D A [(o, .inr (7, [v_a_x, v_a_y, .ref a_z, .int u0, .int u1])), (a_z, .inl (cy 2, 10, .inr (.inl f1)))] := by rw [ev]; exact hD
  clear ev
  obtain ⟨v2, ev, hf⟩ := bne hf
  refine lv_iinc (v := v2) (lv' := [(1, .int v2), (0, .ref o)]) hx hb d_Po_becomePlain_23 hl (k := 1) rfl (by rw [ev]; rfl) (by decide) rfl (fun ls hl => ?_)
  clear ev
  refine lv_goto (tgt := 2) hx hb d_Po_becomePlain_26 (by decide) ?_
  exact hk_2 _ _ _ _ _ hf _ _ _ hP hD hS (lv_sub hl [1, 0] rfl)
set_option maxHeartbeats 8000000 in
set_option maxRecDepth 100000 in
theorem wb_Po_becomePlain_2 {p : Program} {l : Launch} {e : Env} {s : State} {m : MethodId} {args : Array Value} {below : List Frame} {meth : Method} {c : Code} {D : va_G} {cy : Nat → ClassId} {A : Nat → Prop} {ad : Nat → Nat} {o : Nat} {v_a_x : Value} {v_a_y : Value} {a_z : Nat} {fu : Nat} {k_2 : Int32 → Int32 → Int32 → (Nat → Int64) → Option (Int32 × Int32 × (Nat → Int64))} (F : Fx p s m args meth c b_Po_becomePlain 2 "CoinKeeper$Point" "becomePlain" none D cy ad A) (hk_2 : I_Po_becomePlain_2 p l e s m args below meth c D cy A ad o v_a_x v_a_y a_z k_2) : I_Po_becomePlain_2 p l e s m args below meth c D cy A ad o v_a_x v_a_y a_z (xb_Po_becomePlain_2 fu k_2) := by
  obtain ⟨hx, hb, hr, hml, hown, hts, hlocks, hK, hA, hSt, hnm, hex⟩ := id F
  intro x1 u0 u1 u2 res hf H locs ls hP hD hS hl
  unfold xb_Po_becomePlain_2 at hf
  refine lv_iload_n hx hb d_Po_becomePlain_2 rfl (lv_at hl 1 rfl) ?_
  refine lv_bipush (v := 10) hx hb d_Po_becomePlain_3 (by decide) ?_
  refine lv_icmp_ge (tgt := 29) hx hb d_Po_becomePlain_5 (by decide) (fun cx => ?_) (fun cx => ?_)
  · have hf := ifp cx hf
    refine lv_aload_n hx hb d_Po_becomePlain_29 rfl (lv_at hl 0 rfl) ?_
    refine lv_iconst (v := 0) hx hb d_Po_becomePlain_30 (by decide) ?_
    refine va_put (D := D) (ci := 7) (v := .int (0 : Int32)) (ty := .boolean) (C := "CoinKeeper$Point") (T := F_7) (N := 5) hx hb hts i_7 t_7 t_7_ok n_7 hown hK hP hD hS 0 rfl rfl 3 (by decide) (hts _ gw_113) (fun _ h9 => h9) rfl (by decide +kernel) (isb_n (v := 0) (by decide)) (isb_f (v := 0) (by decide)) (Nat.le_of_ble_eq_true rfl) d_Po_becomePlain_31 (fun H locs hP hD hS => ?_)
    have hP : va_P D classes [(o, .inr (7, [v_a_x, v_a_y, .ref a_z, .int (0 : Int32), .int u1])), (a_z, .inl (cy 2, 10, .inr (.inl u2)))] H := hP
    have hD : va_D A [(o, .inr (7, [v_a_x, v_a_y, .ref a_z, .int (0 : Int32), .int u1])), (a_z, .inl (cy 2, 10, .inr (.inl u2)))] := hD
    refine lv_aload_n hx hb d_Po_becomePlain_34 rfl (lv_at hl 0 rfl) ?_
    refine lv_iconst (v := 1) hx hb d_Po_becomePlain_35 (by decide) ?_
    refine va_put (D := D) (ci := 7) (v := .int (1 : Int32)) (ty := .boolean) (C := "CoinKeeper$Point") (T := F_7) (N := 5) hx hb hts i_7 t_7 t_7_ok n_7 hown hK hP hD hS 0 rfl rfl 4 (by decide) (hts _ gw_116) (fun _ h9 => h9) rfl (by decide +kernel) (isb_n (v := 1) (by decide)) (isb_f (v := 1) (by decide)) (Nat.le_of_ble_eq_true rfl) d_Po_becomePlain_36 (fun H locs hP hD hS => ?_)
    have hP : va_P D classes [(o, .inr (7, [v_a_x, v_a_y, .ref a_z, .int (0 : Int32), .int (1 : Int32)])), (a_z, .inl (cy 2, 10, .inr (.inl u2)))] H := hP
    have hD : va_D A [(o, .inr (7, [v_a_x, v_a_y, .ref a_z, .int (0 : Int32), .int (1 : Int32)])), (a_z, .inl (cy 2, 10, .inr (.inl u2)))] := hD
    obtain rfl := Option.some.inj hf
    exact q_rv hx hb hr hlocks hK hP hD hS d_Po_becomePlain_39
  · have hf := ifn cx hf
    refine lv_aload_n hx hb d_Po_becomePlain_8 rfl (lv_at hl 0 rfl) ?_
    refine va_get (D := D) (ci := 7) (v := .ref a_z) (C := "CoinKeeper$Point") (T := F_7) (N := 5) hx hb hts i_7 hown hK hP 0 rfl rfl 2 (by decide) (hts _ gw_111) (fun _ h9 => h9) rfl d_Po_becomePlain_9 ?_
    refine lv_iload_n hx hb d_Po_becomePlain_12 rfl (lv_at hl 1 rfl) ?_
    refine lv_iload_n hx hb d_Po_becomePlain_13 rfl (lv_at hl 1 rfl) ?_
    refine lv_if_ne (tgt := 21) hx hb d_Po_becomePlain_14 (by decide) (fun cx => ?_) (fun cx => ?_)
    · have hf := ifn cx hf
      refine lv_lconst (v := 0) hx hb d_Po_becomePlain_21 (by decide) ?_
      exact wb_Po_becomePlain_22 (fu := fu) F hk_2 _ _ _ _ _ _ _ hf _ _ _ hP hD hS (lv_sub hl [0, 1] rfl)
    · have hf := ifp cx hf
      refine lv_lconst (v := 1) hx hb d_Po_becomePlain_17 (by decide) ?_
      refine lv_goto (tgt := 22) hx hb d_Po_becomePlain_18 (by decide) ?_
      exact wb_Po_becomePlain_22 (fu := fu) F hk_2 _ _ _ _ _ _ _ hf _ _ _ hP hD hS (lv_sub hl [0, 1] rfl)
theorem w_Po_becomePlain_2 {p : Program} {l : Launch} {e : Env} {s : State} {m : MethodId} {args : Array Value} {below : List Frame} {meth : Method} {c : Code} {D : va_G} {cy : Nat → ClassId} {A : Nat → Prop} {ad : Nat → Nat} {o : Nat} {v_a_x : Value} {v_a_y : Value} {a_z : Nat} {fu : Nat} (F : Fx p s m args meth c b_Po_becomePlain 2 "CoinKeeper$Point" "becomePlain" none D cy ad A) : ∀ n : Nat, I_Po_becomePlain_2 p l e s m args below meth c D cy A ad o v_a_x v_a_y a_z (x_Po_becomePlain_2 fu n)
  | 0 => fun _ _ _ _ _ hf => nomatch (show (none : Option (Int32 × Int32 × (Nat → Int64))) = some _ from hf)
  | n + 1 => wb_Po_becomePlain_2 F (w_Po_becomePlain_2 F n)
set_option maxHeartbeats 8000000 in
set_option maxRecDepth 100000 in
theorem we_Po_becomePlain {p : Program} {l : Launch} {e : Env} {s : State} {m : MethodId} {args : Array Value} {below : List Frame} {meth : Method} {c : Code} {D : va_G} {cy : Nat → ClassId} {A : Nat → Prop} {ad : Nat → Nat} {o : Nat} {v_a_x : Value} {v_a_y : Value} {a_z : Nat} {fu : Nat} (F : Fx p s m args meth c b_Po_becomePlain 2 "CoinKeeper$Point" "becomePlain" none D cy ad A) : I_Po_becomePlain_e p l e s m args below meth c D cy A ad o v_a_x v_a_y a_z (x_Po_becomePlain fu) := by
  obtain ⟨hx, hb, hr, hml, hown, hts, hlocks, hK, hA, hSt, hnm, hex⟩ := id F
  intro u0 u1 u2 res hf H locs ls hP hD hS hl
  unfold x_Po_becomePlain at hf
  refine lv_iconst (v := 0) hx hb d_Po_becomePlain_0 (by decide) ?_
  refine lv_istore_n (lv' := [(1, .int (0 : Int32)), (0, .ref o)]) hx hb d_Po_becomePlain_1 rfl hl (by decide) rfl (fun ls hl => ?_)
  exact w_Po_becomePlain_2 F fu _ _ _ _ _ hf _ _ _ hP hD hS (lv_sub hl [1, 0] rfl)
theorem c_Po_becomePlain (l : Launch) (D : va_G) (cy : Nat → ClassId) (ad : Nat → Nat) (fu : Nat) (o : Nat) (v_a_x : Value) (v_a_y : Value) (a_z : Nat) (u0 : Int32) (u1 : Int32) (u2 : Nat → Int64) (res : Int32 × Int32 × (Nat → Int64)) (hf : x_Po_becomePlain fu u0 u1 u2 = some res) (sz : Nat) : Met l ({ cls := "CoinKeeper$Point", name := "becomePlain", desc := "()V" } : Jvm.MethodName) (.code ({ cls := "CoinKeeper$Point", name := "becomePlain", desc := "()V" } : Jvm.MethodName) b_Po_becomePlain 2 none :: gw) rm_Po_becomePlain (va_Pc [.ref o] (Pr D cy ad [(o, .inr (7, [v_a_x, v_a_y, .ref a_z, .int u0, .int u1])), (a_z, .inl (cy 2, 10, .inr (.inl u2)))] sz)) (q_Po_becomePlain D cy (va_A [(o, .inr (7, [v_a_x, v_a_y, .ref a_z, .int u0, .int u1])), (a_z, .inl (cy 2, 10, .inr (.inl u2)))] sz) o v_a_x v_a_y a_z res) 0 0 (va_A [(o, .inr (7, [v_a_x, v_a_y, .ref a_z, .int u0, .int u1])), (a_z, .inl (cy 2, 10, .inr (.inl u2)))] sz) :=
  q_met (Qc := fun A => q_Po_becomePlain D cy A o v_a_x v_a_y a_z res) (by decide) rfl rfl (Nat.le_of_ble_eq_true rfl) (fun p e s m below meth c ls F hP hD hS hl => we_Po_becomePlain (fu := fu) F u0 u1 u2 res hf _ _ _ hP hD hS hl) sz
abbrev b_Po_becomeBase : ByteArray := prog_8_method_2_code
theorem d_Po_becomeBase_0 : decode b_Po_becomeBase 0 = .ok (.iconst 0, 1) := by decide +kernel
theorem d_Po_becomeBase_1 : decode b_Po_becomeBase 1 = .ok (.istore_n 2, 1) := by decide +kernel
theorem d_Po_becomeBase_2 : decode b_Po_becomeBase 2 = .ok (.iload_n 2, 1) := by decide +kernel
theorem d_Po_becomeBase_3 : decode b_Po_becomeBase 3 = .ok (.bipush 10, 2) := by decide +kernel
theorem d_Po_becomeBase_5 : decode b_Po_becomeBase 5 = .ok (.if_icmp .ge 49, 3) := by decide +kernel
theorem d_Po_becomeBase_8 : decode b_Po_becomeBase 8 = .ok (.aload_n 0, 1) := by decide +kernel
theorem d_Po_becomeBase_9 : decode b_Po_becomeBase 9 = .ok (.getfield 9, 3) := by decide +kernel
theorem d_Po_becomeBase_12 : decode b_Po_becomeBase 12 = .ok (.iload_n 2, 1) := by decide +kernel
theorem d_Po_becomeBase_13 : decode b_Po_becomeBase 13 = .ok (.getstatic 21, 3) := by decide +kernel
theorem d_Po_becomeBase_16 : decode b_Po_becomeBase 16 = .ok (.iconst 2, 1) := by decide +kernel
theorem d_Po_becomeBase_17 : decode b_Po_becomeBase 17 = .ok (.iload_n 1, 1) := by decide +kernel
theorem d_Po_becomeBase_18 : decode b_Po_becomeBase 18 = .ok (.imul, 1) := by decide +kernel
theorem d_Po_becomeBase_19 : decode b_Po_becomeBase 19 = .ok (.bipush 10, 2) := by decide +kernel
theorem d_Po_becomeBase_21 : decode b_Po_becomeBase 21 = .ok (.imul, 1) := by decide +kernel
theorem d_Po_becomeBase_22 : decode b_Po_becomeBase 22 = .ok (.iload_n 2, 1) := by decide +kernel
theorem d_Po_becomeBase_23 : decode b_Po_becomeBase 23 = .ok (.iadd, 1) := by decide +kernel
theorem d_Po_becomeBase_24 : decode b_Po_becomeBase 24 = .ok (.iaload, 1) := by decide +kernel
theorem d_Po_becomeBase_25 : decode b_Po_becomeBase 25 = .ok (.i2l, 1) := by decide +kernel
theorem d_Po_becomeBase_26 : decode b_Po_becomeBase 26 = .ok (.lastore, 1) := by decide +kernel
theorem d_Po_becomeBase_27 : decode b_Po_becomeBase 27 = .ok (.aload_n 0, 1) := by decide +kernel
theorem d_Po_becomeBase_28 : decode b_Po_becomeBase 28 = .ok (.getfield 15, 3) := by decide +kernel
theorem d_Po_becomeBase_31 : decode b_Po_becomeBase 31 = .ok (.iload_n 2, 1) := by decide +kernel
theorem d_Po_becomeBase_32 : decode b_Po_becomeBase 32 = .ok (.getstatic 21, 3) := by decide +kernel
theorem d_Po_becomeBase_35 : decode b_Po_becomeBase 35 = .ok (.iconst 2, 1) := by decide +kernel
theorem d_Po_becomeBase_36 : decode b_Po_becomeBase 36 = .ok (.iload_n 1, 1) := by decide +kernel
theorem d_Po_becomeBase_37 : decode b_Po_becomeBase 37 = .ok (.imul, 1) := by decide +kernel
theorem d_Po_becomeBase_38 : decode b_Po_becomeBase 38 = .ok (.iconst 1, 1) := by decide +kernel
theorem d_Po_becomeBase_39 : decode b_Po_becomeBase 39 = .ok (.iadd, 1) := by decide +kernel
theorem d_Po_becomeBase_40 : decode b_Po_becomeBase 40 = .ok (.bipush 10, 2) := by decide +kernel
theorem d_Po_becomeBase_42 : decode b_Po_becomeBase 42 = .ok (.imul, 1) := by decide +kernel
theorem d_Po_becomeBase_43 : decode b_Po_becomeBase 43 = .ok (.iload_n 2, 1) := by decide +kernel
theorem d_Po_becomeBase_44 : decode b_Po_becomeBase 44 = .ok (.iadd, 1) := by decide +kernel
theorem d_Po_becomeBase_45 : decode b_Po_becomeBase 45 = .ok (.iaload, 1) := by decide +kernel
theorem d_Po_becomeBase_46 : decode b_Po_becomeBase 46 = .ok (.i2l, 1) := by decide +kernel
theorem d_Po_becomeBase_47 : decode b_Po_becomeBase 47 = .ok (.lastore, 1) := by decide +kernel
theorem d_Po_becomeBase_48 : decode b_Po_becomeBase 48 = .ok (.iinc 2 1, 3) := by decide +kernel
theorem d_Po_becomeBase_51 : decode b_Po_becomeBase 51 = .ok (.goto (-49), 3) := by decide +kernel
theorem d_Po_becomeBase_54 : decode b_Po_becomeBase 54 = .ok (.aload_n 0, 1) := by decide +kernel
theorem d_Po_becomeBase_55 : decode b_Po_becomeBase 55 = .ok (.invokevirtual 25, 3) := by decide +kernel
theorem d_Po_becomeBase_58 : decode b_Po_becomeBase 58 = .ok (.return_, 1) := by decide +kernel
abbrev rm_Po_becomeBase : Room := { frames := 1, cells := 0, slots := 0, locals := 21 }
abbrev q_Po_becomeBase (D : va_G) (cy : Nat → ClassId) (A : Nat → Prop) (o : Nat) (a_x : Nat) (a_y : Nat) (a_z : Nat) (res : Int32 × Int32 × (Nat → Int64) × (Nat → Int64) × (Nat → Int64)) : Array Value → State → Outcome → State → Prop := va_Qv (fun (_ : Unit) => True) (fun _ t => Po D cy A [(o, .inr (7, [.ref a_x, .ref a_y, .ref a_z, .int res.1, .int res.2.1])), (a_x, .inl (cy 2, 10, .inr (.inl res.2.2.1))), (a_y, .inl (cy 2, 10, .inr (.inl res.2.2.2.1))), (a_z, .inl (cy 2, 10, .inr (.inl res.2.2.2.2)))] t) A
def I_Po_becomeBase_2 (p : Program) (l : Launch) (e : Env) (s : State) (m : MethodId) (args : Array Value) (below : List Frame) (meth : Method) (c : Code) (D : va_G) (cy : Nat → ClassId) (A : Nat → Prop) (ad : Nat → Nat) (o : Nat) (a_x : Nat) (a_y : Nat) (a_z : Nat) (k : Int32 → Int32 → Int32 → Int32 → (Nat → Int64) → (Nat → Int64) → (Nat → Int64) → Option (Int32 × Int32 × (Nat → Int64) × (Nat → Int64) × (Nat → Int64))) : Prop :=
  ∀ (x1 : Int32) (x2 : Int32) (u0 : Int32) (u1 : Int32) (u2 : Nat → Int64) (u3 : Nat → Int64) (u4 : Nat → Int64) (res : Int32 × Int32 × (Nat → Int64) × (Nat → Int64) × (Nat → Int64)), k x1 x2 u0 u1 u2 u3 u4 = some res → ∀ (H : Heap) (locs : List Loc) (ls : Array Slot), va_P D classes [(o, .inr (7, [.ref a_x, .ref a_y, .ref a_z, .int u0, .int u1])), (a_x, .inl (cy 2, 10, .inr (.inl u2))), (a_y, .inl (cy 2, 10, .inr (.inl u3))), (a_z, .inl (cy 2, 10, .inr (.inl u4)))] H → va_D A [(o, .inr (7, [.ref a_x, .ref a_y, .ref a_z, .int u0, .int u1])), (a_x, .inl (cy 2, 10, .inr (.inl u2))), (a_y, .inl (cy 2, 10, .inr (.inl u3))), (a_z, .inl (cy 2, 10, .inr (.inl u4)))] → va_S A s.heap H locs → lv_has ls 3 [(0, .ref o), (1, .int x1), (2, .int x2)] → W p l e rm_Po_becomeBase s m args below meth c H locs 0 0 (MQ below (q_Po_becomeBase D cy A o a_x a_y a_z res) args s 0 0 A) (F0 m 2 ls [])
def I_Po_becomeBase_e (p : Program) (l : Launch) (e : Env) (s : State) (m : MethodId) (args : Array Value) (below : List Frame) (meth : Method) (c : Code) (D : va_G) (cy : Nat → ClassId) (A : Nat → Prop) (ad : Nat → Nat) (o : Nat) (a_x : Nat) (a_y : Nat) (a_z : Nat) (k : Int32 → Int32 → Int32 → (Nat → Int64) → (Nat → Int64) → (Nat → Int64) → Option (Int32 × Int32 × (Nat → Int64) × (Nat → Int64) × (Nat → Int64))) : Prop :=
  ∀ (a1 : Int32) (u0 : Int32) (u1 : Int32) (u2 : Nat → Int64) (u3 : Nat → Int64) (u4 : Nat → Int64) (res : Int32 × Int32 × (Nat → Int64) × (Nat → Int64) × (Nat → Int64)), k a1 u0 u1 u2 u3 u4 = some res → ∀ (H : Heap) (locs : List Loc) (ls : Array Slot), va_P D classes [(o, .inr (7, [.ref a_x, .ref a_y, .ref a_z, .int u0, .int u1])), (a_x, .inl (cy 2, 10, .inr (.inl u2))), (a_y, .inl (cy 2, 10, .inr (.inl u3))), (a_z, .inl (cy 2, 10, .inr (.inl u4)))] H → va_D A [(o, .inr (7, [.ref a_x, .ref a_y, .ref a_z, .int u0, .int u1])), (a_x, .inl (cy 2, 10, .inr (.inl u2))), (a_y, .inl (cy 2, 10, .inr (.inl u3))), (a_z, .inl (cy 2, 10, .inr (.inl u4)))] → va_S A s.heap H locs → lv_has ls 3 [(0, .ref o), (1, .int a1)] → W p l e rm_Po_becomeBase s m args below meth c H locs 0 0 (MQ below (q_Po_becomeBase D cy A o a_x a_y a_z res) args s 0 0 A) (F0 m 0 ls [])
theorem hdc_12 : ({ cls := "CoinKeeper$Point", name := "becomePlain", desc := "()V" } : Jvm.MethodName).cls ≠ "java/lang/invoke/MethodHandle" ∧ ({ cls := "CoinKeeper$Point", name := "becomePlain", desc := "()V" } : Jvm.MethodName).cls ≠ "java/lang/invoke/VarHandle" ∧ (parseMethodDescriptor ({ cls := "CoinKeeper$Point", name := "becomePlain", desc := "()V" } : Jvm.MethodName).desc).map (fun d => d.parameters.length) = some 0 := by decide +kernel
set_option maxHeartbeats 8000000 in
set_option maxRecDepth 100000 in
theorem wb_Po_becomeBase_2 {p : Program} {l : Launch} {e : Env} {s : State} {m : MethodId} {args : Array Value} {below : List Frame} {meth : Method} {c : Code} {D : va_G} {cy : Nat → ClassId} {A : Nat → Prop} {ad : Nat → Nat} {o : Nat} {a_x : Nat} {a_y : Nat} {a_z : Nat} {fu : Nat} {k_2 : Int32 → Int32 → Int32 → Int32 → (Nat → Int64) → (Nat → Int64) → (Nat → Int64) → Option (Int32 × Int32 × (Nat → Int64) × (Nat → Int64) × (Nat → Int64))} (F : Fx p s m args meth c b_Po_becomeBase 3 "CoinKeeper$Point" "becomeBase" none D cy ad A) (hk_2 : I_Po_becomeBase_2 p l e s m args below meth c D cy A ad o a_x a_y a_z k_2) : I_Po_becomeBase_2 p l e s m args below meth c D cy A ad o a_x a_y a_z (xb_Po_becomeBase_2 fu k_2) := by
  obtain ⟨hx, hb, hr, hml, hown, hts, hlocks, hK, hA, hSt, hnm, hex⟩ := id F
  intro x1 x2 u0 u1 u2 u3 u4 res hf H locs ls hP hD hS hl
  unfold xb_Po_becomeBase_2 at hf
  refine lv_iload_n hx hb d_Po_becomeBase_2 rfl (lv_at hl 2 rfl) ?_
  refine lv_bipush (v := 10) hx hb d_Po_becomeBase_3 (by decide) ?_
  refine lv_icmp_ge (tgt := 54) hx hb d_Po_becomeBase_5 (by decide) (fun cx => ?_) (fun cx => ?_)
  · have hf := ifp cx hf
    refine lv_aload_n hx hb d_Po_becomeBase_54 rfl (lv_at hl 0 rfl) ?_
    obtain ⟨e1, e2, f3, hc, hf⟩ := bdp3 hf
    refine q_av (wr := [(a_x, .inl (cy 2, 10, .inr (.inl u2))), (a_y, .inl (cy 2, 10, .inr (.inl u3)))]) (va_runV (C := "CoinKeeper$Point") (As := []) (rest := []) ⟨hx, hb, hml, hown, hts⟩ (c_Po_becomePlain l D cy ad fu o (.ref a_x) (.ref a_y) a_z u0 u1 u4 _ hc H.size) ⟨q_cB hts gw_138 gw_5 gw_135 hdc_12 ⟨by decide, by decide⟩, hts _ gw_136, hts _ gw_137⟩ (q_preV (q_pre (hP.sub [0, 3] rfl) (hD.sub [0, 3] (by decide) rfl) hK hSt hS (va_free hD hS hA [0, 3] rfl) _) (va_recv hK (hP.sub [0, 3] rfl) (ci := 7) (q0 := 0) rfl rfl)) rfl rfl hl.1 rfl (lv_room (Nat.le_of_ble_eq_true rfl)) d_Po_becomeBase_55 ⟨Nat.le_of_ble_eq_true rfl, Nat.le_of_ble_eq_true rfl⟩) hP hD hS hA [0, 3] [1, 2] rfl rfl (by decide) (by decide) (fun H locs hP hD hS => ?_)
    clear hc
    have hP : va_P D classes [(a_x, .inl (cy 2, 10, .inr (.inl u2))), (a_y, .inl (cy 2, 10, .inr (.inl u3))), (o, .inr (7, [.ref a_x, .ref a_y, .ref a_z, .int e1, .int e2])), (a_z, .inl (cy 2, 10, .inr (.inl f3)))] H := hP
    have hD : va_D A [(a_x, .inl (cy 2, 10, .inr (.inl u2))), (a_y, .inl (cy 2, 10, .inr (.inl u3))), (o, .inr (7, [.ref a_x, .ref a_y, .ref a_z, .int e1, .int e2])), (a_z, .inl (cy 2, 10, .inr (.inl f3)))] := hD
    obtain rfl := Option.some.inj hf
    exact q_rv hx hb hr hlocks hK (hP.sub [2, 0, 1, 3] rfl) (hD.sub [2, 0, 1, 3] (by decide) rfl) hS d_Po_becomeBase_58
  · have hf := ifn cx hf
    refine lv_aload_n hx hb d_Po_becomeBase_8 rfl (lv_at hl 0 rfl) ?_
    refine va_get (D := D) (ci := 7) (v := .ref a_x) (C := "CoinKeeper$Point") (T := F_7) (N := 5) hx hb hts i_7 hown hK hP 0 rfl rfl 0 (by decide) (hts _ gw_107) (fun _ h9 => h9) rfl d_Po_becomeBase_9 ?_
    refine lv_iload_n hx hb d_Po_becomeBase_12 rfl (lv_at hl 2 rfl) ?_
    refine va_gets hx hb (hSt.1 0 _ rfl).1 hS hown (hts _ gw_133) (fun _ h9 => h9) d_Po_becomeBase_13 ?_
    refine lv_iconst (v := 2) hx hb d_Po_becomeBase_16 (by decide) ?_
    refine lv_iload_n hx hb d_Po_becomeBase_17 rfl (lv_at hl 1 rfl) ?_
    refine lv_imul hx hb d_Po_becomeBase_18 ?_
    refine lv_topi (fun v4 ev => ?_)
    have hf := bn ev hf
    clear ev
    refine lv_bipush (v := 10) hx hb d_Po_becomeBase_19 (by decide) ?_
    refine lv_imul hx hb d_Po_becomeBase_21 ?_
    refine lv_topi (fun v5 ev => ?_)
    have hf := bn ev hf
    clear ev
    refine lv_iload_n hx hb d_Po_becomeBase_22 rfl (lv_at hl 2 rfl) ?_
    refine lv_iadd hx hb d_Po_becomeBase_23 ?_
    refine lv_topi (fun v6 ev => ?_)
    have hf := bn ev hf
    clear ev
    obtain ⟨hg, hf⟩ := gdp hf
    refine va_ti (v := .int (tb_0.getD v6.toNatClampNeg 0)) hx hb (hSt.1 0 _ rfl).2 hS (inb_in hg) rfl d_Po_becomeBase_24 ?_
    refine lv_topi (fun v7 ev => ?_)
    have hf := bn ev hf
    clear ev
    refine lv_i2l hx hb d_Po_becomeBase_25 rfl ?_
    refine lv_topl (fun v8 ev => ?_)
    have hf := bn ev hf
    clear ev
    obtain ⟨hg, hf⟩ := gdp hf
    refine va_last hx hb hK hP hD hS 1 2 rfl rfl (inb_in hg) d_Po_becomeBase_26 (fun H locs hP hD hS => ?_)
    obtain ⟨f9, ev, hf⟩ := bne hf
    have hP : va_P D classes [(o, .inr (7, [.ref a_x, .ref a_y, .ref a_z, .int u0, .int u1])), (a_x, .inl (cy 2, 10, .inr (.inl f9))), (a_y, .inl (cy 2, 10, .inr (.inl u3))), (a_z, .inl (cy 2, 10, .inr (.inl u4)))] H := by rw [ev]; exact hP
    have hD : va_D A [(o, .inr (7, [.ref a_x, .ref a_y, .ref a_z, .int u0, .int u1])), (a_x, .inl (cy 2, 10, .inr (.inl f9))), (a_y, .inl (cy 2, 10, .inr (.inl u3))), (a_z, .inl (cy 2, 10, .inr (.inl u4)))] := by rw [ev]; exact hD
    clear ev
    refine lv_aload_n hx hb d_Po_becomeBase_27 rfl (lv_at hl 0 rfl) ?_
    refine va_get (D := D) (ci := 7) (v := .ref a_y) (C := "CoinKeeper$Point") (T := F_7) (N := 5) hx hb hts i_7 hown hK hP 0 rfl rfl 1 (by decide) (hts _ gw_109) (fun _ h9 => h9) rfl d_Po_becomeBase_28 ?_
    refine lv_iload_n hx hb d_Po_becomeBase_31 rfl (lv_at hl 2 rfl) ?_
    refine va_gets hx hb (hSt.1 0 _ rfl).1 hS hown (hts _ gw_133) (fun _ h9 => h9) d_Po_becomeBase_32 ?_
    refine lv_iconst (v := 2) hx hb d_Po_becomeBase_35 (by decide) ?_
    refine lv_iload_n hx hb d_Po_becomeBase_36 rfl (lv_at hl 1 rfl) ?_
    refine lv_imul hx hb d_Po_becomeBase_37 ?_
    refine lv_topi (fun v10 ev => ?_)
    have hf := bn ev hf
    clear ev
    refine lv_iconst (v := 1) hx hb d_Po_becomeBase_38 (by decide) ?_
    refine lv_iadd hx hb d_Po_becomeBase_39 ?_
    refine lv_topi (fun v11 ev => ?_)
    have hf := bn ev hf
    clear ev
    refine lv_bipush (v := 10) hx hb d_Po_becomeBase_40 (by decide) ?_
    refine lv_imul hx hb d_Po_becomeBase_42 ?_
    refine lv_topi (fun v12 ev => ?_)
    have hf := bn ev hf
    clear ev
    refine lv_iload_n hx hb d_Po_becomeBase_43 rfl (lv_at hl 2 rfl) ?_
    refine lv_iadd hx hb d_Po_becomeBase_44 ?_
    refine lv_topi (fun v13 ev => ?_)
    have hf := bn ev hf
    clear ev
    obtain ⟨hg, hf⟩ := gdp hf
    refine va_ti (v := .int (tb_0.getD v13.toNatClampNeg 0)) hx hb (hSt.1 0 _ rfl).2 hS (inb_in hg) rfl d_Po_becomeBase_45 ?_
    refine lv_topi (fun v14 ev => ?_)
    have hf := bn ev hf
    clear ev
    refine lv_i2l hx hb d_Po_becomeBase_46 rfl ?_
    refine lv_topl (fun v15 ev => ?_)
    have hf := bn ev hf
    clear ev
    obtain ⟨hg, hf⟩ := gdp hf
    refine va_last hx hb hK hP hD hS 2 2 rfl rfl (inb_in hg) d_Po_becomeBase_47 (fun H locs hP hD hS => ?_)
    obtain ⟨f16, ev, hf⟩ := bne hf
    have hP : va_P D classes [(o, .inr (7, [.ref a_x, .ref a_y, .ref a_z, .int u0, .int u1])), (a_x, .inl (cy 2, 10, .inr (.inl f9))), (a_y, .inl (cy 2, 10, .inr (.inl f16))), (a_z, .inl (cy 2, 10, .inr (.inl u4)))] H := by rw [ev]; exact hP
    have hD : va_D A [(o, .inr (7, [.ref a_x, .ref a_y, .ref a_z, .int u0, .int u1])), (a_x, .inl (cy 2, 10, .inr (.inl f9))), (a_y, .inl (cy 2, 10, .inr (.inl f16))), (a_z, .inl (cy 2, 10, .inr (.inl u4)))] := by rw [ev]; exact hD
    clear ev
    obtain ⟨v17, ev, hf⟩ := bne hf
    refine lv_iinc (v := v17) (lv' := [(2, .int v17), (0, .ref o), (1, .int x1)]) hx hb d_Po_becomeBase_48 hl (k := 2) rfl (by rw [ev]; rfl) (by decide) rfl (fun ls hl => ?_)
    clear ev
    refine lv_goto (tgt := 2) hx hb d_Po_becomeBase_51 (by decide) ?_
    exact hk_2 _ _ _ _ _ _ _ _ hf _ _ _ hP hD hS (lv_sub hl [1, 2, 0] rfl)
theorem w_Po_becomeBase_2 {p : Program} {l : Launch} {e : Env} {s : State} {m : MethodId} {args : Array Value} {below : List Frame} {meth : Method} {c : Code} {D : va_G} {cy : Nat → ClassId} {A : Nat → Prop} {ad : Nat → Nat} {o : Nat} {a_x : Nat} {a_y : Nat} {a_z : Nat} {fu : Nat} (F : Fx p s m args meth c b_Po_becomeBase 3 "CoinKeeper$Point" "becomeBase" none D cy ad A) : ∀ n : Nat, I_Po_becomeBase_2 p l e s m args below meth c D cy A ad o a_x a_y a_z (x_Po_becomeBase_2 fu n)
  | 0 => fun _ _ _ _ _ _ _ _ hf => nomatch (show (none : Option (Int32 × Int32 × (Nat → Int64) × (Nat → Int64) × (Nat → Int64))) = some _ from hf)
  | n + 1 => wb_Po_becomeBase_2 F (w_Po_becomeBase_2 F n)
set_option maxHeartbeats 8000000 in
set_option maxRecDepth 100000 in
theorem we_Po_becomeBase {p : Program} {l : Launch} {e : Env} {s : State} {m : MethodId} {args : Array Value} {below : List Frame} {meth : Method} {c : Code} {D : va_G} {cy : Nat → ClassId} {A : Nat → Prop} {ad : Nat → Nat} {o : Nat} {a_x : Nat} {a_y : Nat} {a_z : Nat} {fu : Nat} (F : Fx p s m args meth c b_Po_becomeBase 3 "CoinKeeper$Point" "becomeBase" none D cy ad A) : I_Po_becomeBase_e p l e s m args below meth c D cy A ad o a_x a_y a_z (x_Po_becomeBase fu) := by
  obtain ⟨hx, hb, hr, hml, hown, hts, hlocks, hK, hA, hSt, hnm, hex⟩ := id F
  intro a1 u0 u1 u2 u3 u4 res hf H locs ls hP hD hS hl
  unfold x_Po_becomeBase at hf
  refine lv_iconst (v := 0) hx hb d_Po_becomeBase_0 (by decide) ?_
  refine lv_istore_n (lv' := [(2, .int (0 : Int32)), (0, .ref o), (1, .int a1)]) hx hb d_Po_becomeBase_1 rfl hl (by decide) rfl (fun ls hl => ?_)
  exact w_Po_becomeBase_2 F fu _ _ _ _ _ _ _ _ hf _ _ _ hP hD hS (lv_sub hl [1, 2, 0] rfl)
theorem c_Po_becomeBase (l : Launch) (D : va_G) (cy : Nat → ClassId) (ad : Nat → Nat) (fu : Nat) (o : Nat) (a_x : Nat) (a_y : Nat) (a_z : Nat) (a1 : Int32) (u0 : Int32) (u1 : Int32) (u2 : Nat → Int64) (u3 : Nat → Int64) (u4 : Nat → Int64) (res : Int32 × Int32 × (Nat → Int64) × (Nat → Int64) × (Nat → Int64)) (hf : x_Po_becomeBase fu a1 u0 u1 u2 u3 u4 = some res) (sz : Nat) : Met l ({ cls := "CoinKeeper$Point", name := "becomeBase", desc := "(I)V" } : Jvm.MethodName) (.code ({ cls := "CoinKeeper$Point", name := "becomeBase", desc := "(I)V" } : Jvm.MethodName) b_Po_becomeBase 3 none :: gw) rm_Po_becomeBase (va_Pc [.ref o, .int a1] (Pr D cy ad [(o, .inr (7, [.ref a_x, .ref a_y, .ref a_z, .int u0, .int u1])), (a_x, .inl (cy 2, 10, .inr (.inl u2))), (a_y, .inl (cy 2, 10, .inr (.inl u3))), (a_z, .inl (cy 2, 10, .inr (.inl u4)))] sz)) (q_Po_becomeBase D cy (va_A [(o, .inr (7, [.ref a_x, .ref a_y, .ref a_z, .int u0, .int u1])), (a_x, .inl (cy 2, 10, .inr (.inl u2))), (a_y, .inl (cy 2, 10, .inr (.inl u3))), (a_z, .inl (cy 2, 10, .inr (.inl u4)))] sz) o a_x a_y a_z res) 0 0 (va_A [(o, .inr (7, [.ref a_x, .ref a_y, .ref a_z, .int u0, .int u1])), (a_x, .inl (cy 2, 10, .inr (.inl u2))), (a_y, .inl (cy 2, 10, .inr (.inl u3))), (a_z, .inl (cy 2, 10, .inr (.inl u4)))] sz) :=
  q_met (Qc := fun A => q_Po_becomeBase D cy A o a_x a_y a_z res) (by decide) rfl rfl (Nat.le_of_ble_eq_true rfl) (fun p e s m below meth c ls F hP hD hS hl => we_Po_becomeBase (fu := fu) F a1 u0 u1 u2 u3 u4 res hf _ _ _ hP hD hS hl) sz
abbrev b_Po_become : ByteArray := prog_8_method_4_code
theorem d_Po_become_0 : decode b_Po_become 0 = .ok (.aload_n 1, 1) := by decide +kernel
theorem d_Po_become_1 : decode b_Po_become 1 = .ok (.getfield 9, 3) := by decide +kernel
theorem d_Po_become_4 : decode b_Po_become 4 = .ok (.iconst 0, 1) := by decide +kernel
theorem d_Po_become_5 : decode b_Po_become 5 = .ok (.aload_n 0, 1) := by decide +kernel
theorem d_Po_become_6 : decode b_Po_become 6 = .ok (.getfield 9, 3) := by decide +kernel
theorem d_Po_become_9 : decode b_Po_become 9 = .ok (.iconst 0, 1) := by decide +kernel
theorem d_Po_become_10 : decode b_Po_become 10 = .ok (.bipush 10, 2) := by decide +kernel
theorem d_Po_become_12 : decode b_Po_become 12 = .ok (.invokestatic 35, 3) := by decide +kernel
theorem d_Po_become_15 : decode b_Po_become 15 = .ok (.aload_n 1, 1) := by decide +kernel
theorem d_Po_become_16 : decode b_Po_become 16 = .ok (.getfield 15, 3) := by decide +kernel
theorem d_Po_become_19 : decode b_Po_become 19 = .ok (.iconst 0, 1) := by decide +kernel
theorem d_Po_become_20 : decode b_Po_become 20 = .ok (.aload_n 0, 1) := by decide +kernel
theorem d_Po_become_21 : decode b_Po_become 21 = .ok (.getfield 15, 3) := by decide +kernel
theorem d_Po_become_24 : decode b_Po_become 24 = .ok (.iconst 0, 1) := by decide +kernel
theorem d_Po_become_25 : decode b_Po_become 25 = .ok (.bipush 10, 2) := by decide +kernel
theorem d_Po_become_27 : decode b_Po_become 27 = .ok (.invokestatic 35, 3) := by decide +kernel
theorem d_Po_become_30 : decode b_Po_become 30 = .ok (.aload_n 1, 1) := by decide +kernel
theorem d_Po_become_31 : decode b_Po_become 31 = .ok (.getfield 18, 3) := by decide +kernel
theorem d_Po_become_34 : decode b_Po_become 34 = .ok (.iconst 0, 1) := by decide +kernel
theorem d_Po_become_35 : decode b_Po_become 35 = .ok (.aload_n 0, 1) := by decide +kernel
theorem d_Po_become_36 : decode b_Po_become 36 = .ok (.getfield 18, 3) := by decide +kernel
theorem d_Po_become_39 : decode b_Po_become 39 = .ok (.iconst 0, 1) := by decide +kernel
theorem d_Po_become_40 : decode b_Po_become 40 = .ok (.bipush 10, 2) := by decide +kernel
theorem d_Po_become_42 : decode b_Po_become 42 = .ok (.invokestatic 35, 3) := by decide +kernel
theorem d_Po_become_45 : decode b_Po_become 45 = .ok (.aload_n 0, 1) := by decide +kernel
theorem d_Po_become_46 : decode b_Po_become 46 = .ok (.aload_n 1, 1) := by decide +kernel
theorem d_Po_become_47 : decode b_Po_become 47 = .ok (.getfield 28, 3) := by decide +kernel
theorem d_Po_become_50 : decode b_Po_become 50 = .ok (.putfield 28, 3) := by decide +kernel
theorem d_Po_become_53 : decode b_Po_become 53 = .ok (.aload_n 0, 1) := by decide +kernel
theorem d_Po_become_54 : decode b_Po_become 54 = .ok (.aload_n 1, 1) := by decide +kernel
theorem d_Po_become_55 : decode b_Po_become 55 = .ok (.getfield 32, 3) := by decide +kernel
theorem d_Po_become_58 : decode b_Po_become 58 = .ok (.putfield 32, 3) := by decide +kernel
theorem d_Po_become_61 : decode b_Po_become 61 = .ok (.return_, 1) := by decide +kernel
abbrev rm_Po_become : Room := { frames := 1, cells := 0, slots := 0, locals := 26 }
abbrev q_Po_become (D : va_G) (cy : Nat → ClassId) (A : Nat → Prop) (o : Nat) (a_x : Nat) (a_y : Nat) (a_z : Nat) (o1 : Nat) (a1_x : Nat) (a1_y : Nat) (a1_z : Nat) (i1_isNone : Int32) (i1_isPlain : Int32) (g1_x : Nat → Int64) (g1_y : Nat → Int64) (g1_z : Nat → Int64) (res : Int32 × Int32 × (Nat → Int64) × (Nat → Int64) × (Nat → Int64)) : Array Value → State → Outcome → State → Prop := va_Qv (fun (_ : Unit) => True) (fun _ t => Po D cy A [(o, .inr (7, [.ref a_x, .ref a_y, .ref a_z, .int res.1, .int res.2.1])), (a_x, .inl (cy 2, 10, .inr (.inl res.2.2.1))), (a_y, .inl (cy 2, 10, .inr (.inl res.2.2.2.1))), (a_z, .inl (cy 2, 10, .inr (.inl res.2.2.2.2))), (o1, .inr (7, [.ref a1_x, .ref a1_y, .ref a1_z, .int i1_isNone, .int i1_isPlain])), (a1_x, .inl (cy 2, 10, .inr (.inl g1_x))), (a1_y, .inl (cy 2, 10, .inr (.inl g1_y))), (a1_z, .inl (cy 2, 10, .inr (.inl g1_z)))] t) A
def I_Po_become_e (p : Program) (l : Launch) (e : Env) (s : State) (m : MethodId) (args : Array Value) (below : List Frame) (meth : Method) (c : Code) (D : va_G) (cy : Nat → ClassId) (A : Nat → Prop) (ad : Nat → Nat) (o : Nat) (a_x : Nat) (a_y : Nat) (a_z : Nat) (o1 : Nat) (a1_x : Nat) (a1_y : Nat) (a1_z : Nat) (i1_isNone : Int32) (i1_isPlain : Int32) (g1_x : Nat → Int64) (g1_y : Nat → Int64) (g1_z : Nat → Int64) (k : Int32 → Int32 → (Nat → Int64) → (Nat → Int64) → (Nat → Int64) → Option (Int32 × Int32 × (Nat → Int64) × (Nat → Int64) × (Nat → Int64))) : Prop :=
  ∀ (u0 : Int32) (u1 : Int32) (u2 : Nat → Int64) (u3 : Nat → Int64) (u4 : Nat → Int64) (res : Int32 × Int32 × (Nat → Int64) × (Nat → Int64) × (Nat → Int64)), k u0 u1 u2 u3 u4 = some res → ∀ (H : Heap) (locs : List Loc) (ls : Array Slot), va_P D classes [(o, .inr (7, [.ref a_x, .ref a_y, .ref a_z, .int u0, .int u1])), (a_x, .inl (cy 2, 10, .inr (.inl u2))), (a_y, .inl (cy 2, 10, .inr (.inl u3))), (a_z, .inl (cy 2, 10, .inr (.inl u4))), (o1, .inr (7, [.ref a1_x, .ref a1_y, .ref a1_z, .int i1_isNone, .int i1_isPlain])), (a1_x, .inl (cy 2, 10, .inr (.inl g1_x))), (a1_y, .inl (cy 2, 10, .inr (.inl g1_y))), (a1_z, .inl (cy 2, 10, .inr (.inl g1_z)))] H → va_D A [(o, .inr (7, [.ref a_x, .ref a_y, .ref a_z, .int u0, .int u1])), (a_x, .inl (cy 2, 10, .inr (.inl u2))), (a_y, .inl (cy 2, 10, .inr (.inl u3))), (a_z, .inl (cy 2, 10, .inr (.inl u4))), (o1, .inr (7, [.ref a1_x, .ref a1_y, .ref a1_z, .int i1_isNone, .int i1_isPlain])), (a1_x, .inl (cy 2, 10, .inr (.inl g1_x))), (a1_y, .inl (cy 2, 10, .inr (.inl g1_y))), (a1_z, .inl (cy 2, 10, .inr (.inl g1_z)))] → va_S A s.heap H locs → lv_has ls 2 [(0, .ref o), (1, .ref o1)] → W p l e rm_Po_become s m args below meth c H locs 0 0 (MQ below (q_Po_become D cy A o a_x a_y a_z o1 a1_x a1_y a1_z i1_isNone i1_isPlain g1_x g1_y g1_z res) args s 0 0 A) (F0 m 0 ls [])
set_option maxHeartbeats 8000000 in
set_option maxRecDepth 100000 in
theorem we_Po_become {p : Program} {l : Launch} {e : Env} {s : State} {m : MethodId} {args : Array Value} {below : List Frame} {meth : Method} {c : Code} {D : va_G} {cy : Nat → ClassId} {A : Nat → Prop} {ad : Nat → Nat} {o : Nat} {a_x : Nat} {a_y : Nat} {a_z : Nat} {o1 : Nat} {a1_x : Nat} {a1_y : Nat} {a1_z : Nat} {i1_isNone : Int32} {i1_isPlain : Int32} {g1_x : Nat → Int64} {g1_y : Nat → Int64} {g1_z : Nat → Int64} {fu : Nat} (F : Fx p s m args meth c b_Po_become 2 "CoinKeeper$Point" "become" none D cy ad A) : I_Po_become_e p l e s m args below meth c D cy A ad o a_x a_y a_z o1 a1_x a1_y a1_z i1_isNone i1_isPlain g1_x g1_y g1_z (x_Po_become fu i1_isNone i1_isPlain g1_x g1_y g1_z) := by
  obtain ⟨hx, hb, hr, hml, hown, hts, hlocks, hK, hA, hSt, hnm, hex⟩ := id F
  intro u0 u1 u2 u3 u4 res hf H locs ls hP hD hS hl
  unfold x_Po_become at hf
  refine lv_aload_n hx hb d_Po_become_0 rfl (lv_at hl 1 rfl) ?_
  refine va_get (D := D) (ci := 7) (v := .ref a1_x) (C := "CoinKeeper$Point") (T := F_7) (N := 5) hx hb hts i_7 hown hK hP 4 rfl rfl 0 (by decide) (hts _ gw_107) (fun _ h9 => h9) rfl d_Po_become_1 ?_
  refine lv_iconst (v := 0) hx hb d_Po_become_4 (by decide) ?_
  refine lv_aload_n hx hb d_Po_become_5 rfl (lv_at hl 0 rfl) ?_
  refine va_get (D := D) (ci := 7) (v := .ref a_x) (C := "CoinKeeper$Point") (T := F_7) (N := 5) hx hb hts i_7 hown hK hP 0 rfl rfl 0 (by decide) (hts _ gw_107) (fun _ h9 => h9) rfl d_Po_become_6 ?_
  refine lv_iconst (v := 0) hx hb d_Po_become_9 (by decide) ?_
  refine lv_bipush (v := 10) hx hb d_Po_become_10 (by decide) ?_
  obtain ⟨hg, hf⟩ := gdp hf
  refine va_copyl (rest := []) hx hb (hml.trans hl.1.symm) hown (hts _ gw_1141) (hts _ gw_497) (hts _ gw_496) (hts _ gw_17) hK hP hD hS 5 1 2 2 rfl rfl rfl rfl rfl (cpk_p hg).1 (cpk_p hg).2.1 (cpk_p hg).2.2.1 (cpk_p hg).2.2.2.1 (cpk_p hg).2.2.2.2 (fun _ _ => rfl) (by decide) (by decide) d_Po_become_12 (fun H locs hP hD hS => ?_)
  obtain ⟨f1, ev, hf⟩ := bne hf
  have hP : va_P D classes [(o, .inr (7, [.ref a_x, .ref a_y, .ref a_z, .int u0, .int u1])), (a_x, .inl (cy 2, 10, .inr (.inl f1))), (a_y, .inl (cy 2, 10, .inr (.inl u3))), (a_z, .inl (cy 2, 10, .inr (.inl u4))), (o1, .inr (7, [.ref a1_x, .ref a1_y, .ref a1_z, .int i1_isNone, .int i1_isPlain])), (a1_x, .inl (cy 2, 10, .inr (.inl g1_x))), (a1_y, .inl (cy 2, 10, .inr (.inl g1_y))), (a1_z, .inl (cy 2, 10, .inr (.inl g1_z)))] H := by rw [ev]; exact hP
  have hD : va_D A [(o, .inr (7, [.ref a_x, .ref a_y, .ref a_z, .int u0, .int u1])), (a_x, .inl (cy 2, 10, .inr (.inl f1))), (a_y, .inl (cy 2, 10, .inr (.inl u3))), (a_z, .inl (cy 2, 10, .inr (.inl u4))), (o1, .inr (7, [.ref a1_x, .ref a1_y, .ref a1_z, .int i1_isNone, .int i1_isPlain])), (a1_x, .inl (cy 2, 10, .inr (.inl g1_x))), (a1_y, .inl (cy 2, 10, .inr (.inl g1_y))), (a1_z, .inl (cy 2, 10, .inr (.inl g1_z)))] := by rw [ev]; exact hD
  clear ev
  refine lv_aload_n hx hb d_Po_become_15 rfl (lv_at hl 1 rfl) ?_
  refine va_get (D := D) (ci := 7) (v := .ref a1_y) (C := "CoinKeeper$Point") (T := F_7) (N := 5) hx hb hts i_7 hown hK hP 4 rfl rfl 1 (by decide) (hts _ gw_109) (fun _ h9 => h9) rfl d_Po_become_16 ?_
  refine lv_iconst (v := 0) hx hb d_Po_become_19 (by decide) ?_
  refine lv_aload_n hx hb d_Po_become_20 rfl (lv_at hl 0 rfl) ?_
  refine va_get (D := D) (ci := 7) (v := .ref a_y) (C := "CoinKeeper$Point") (T := F_7) (N := 5) hx hb hts i_7 hown hK hP 0 rfl rfl 1 (by decide) (hts _ gw_109) (fun _ h9 => h9) rfl d_Po_become_21 ?_
  refine lv_iconst (v := 0) hx hb d_Po_become_24 (by decide) ?_
  refine lv_bipush (v := 10) hx hb d_Po_become_25 (by decide) ?_
  obtain ⟨hg, hf⟩ := gdp hf
  refine va_copyl (rest := []) hx hb (hml.trans hl.1.symm) hown (hts _ gw_1141) (hts _ gw_497) (hts _ gw_496) (hts _ gw_17) hK hP hD hS 6 2 2 2 rfl rfl rfl rfl rfl (cpk_p hg).1 (cpk_p hg).2.1 (cpk_p hg).2.2.1 (cpk_p hg).2.2.2.1 (cpk_p hg).2.2.2.2 (fun _ _ => rfl) (by decide) (by decide) d_Po_become_27 (fun H locs hP hD hS => ?_)
  obtain ⟨f2, ev, hf⟩ := bne hf
  have hP : va_P D classes [(o, .inr (7, [.ref a_x, .ref a_y, .ref a_z, .int u0, .int u1])), (a_x, .inl (cy 2, 10, .inr (.inl f1))), (a_y, .inl (cy 2, 10, .inr (.inl f2))), (a_z, .inl (cy 2, 10, .inr (.inl u4))), (o1, .inr (7, [.ref a1_x, .ref a1_y, .ref a1_z, .int i1_isNone, .int i1_isPlain])), (a1_x, .inl (cy 2, 10, .inr (.inl g1_x))), (a1_y, .inl (cy 2, 10, .inr (.inl g1_y))), (a1_z, .inl (cy 2, 10, .inr (.inl g1_z)))] H := by rw [ev]; exact hP
  have hD : va_D A [(o, .inr (7, [.ref a_x, .ref a_y, .ref a_z, .int u0, .int u1])), (a_x, .inl (cy 2, 10, .inr (.inl f1))), (a_y, .inl (cy 2, 10, .inr (.inl f2))), (a_z, .inl (cy 2, 10, .inr (.inl u4))), (o1, .inr (7, [.ref a1_x, .ref a1_y, .ref a1_z, .int i1_isNone, .int i1_isPlain])), (a1_x, .inl (cy 2, 10, .inr (.inl g1_x))), (a1_y, .inl (cy 2, 10, .inr (.inl g1_y))), (a1_z, .inl (cy 2, 10, .inr (.inl g1_z)))] := by rw [ev]; exact hD
  clear ev
  refine lv_aload_n hx hb d_Po_become_30 rfl (lv_at hl 1 rfl) ?_
  refine va_get (D := D) (ci := 7) (v := .ref a1_z) (C := "CoinKeeper$Point") (T := F_7) (N := 5) hx hb hts i_7 hown hK hP 4 rfl rfl 2 (by decide) (hts _ gw_111) (fun _ h9 => h9) rfl d_Po_become_31 ?_
  refine lv_iconst (v := 0) hx hb d_Po_become_34 (by decide) ?_
  refine lv_aload_n hx hb d_Po_become_35 rfl (lv_at hl 0 rfl) ?_
  refine va_get (D := D) (ci := 7) (v := .ref a_z) (C := "CoinKeeper$Point") (T := F_7) (N := 5) hx hb hts i_7 hown hK hP 0 rfl rfl 2 (by decide) (hts _ gw_111) (fun _ h9 => h9) rfl d_Po_become_36 ?_
  refine lv_iconst (v := 0) hx hb d_Po_become_39 (by decide) ?_
  refine lv_bipush (v := 10) hx hb d_Po_become_40 (by decide) ?_
  obtain ⟨hg, hf⟩ := gdp hf
  refine va_copyl (rest := []) hx hb (hml.trans hl.1.symm) hown (hts _ gw_1141) (hts _ gw_497) (hts _ gw_496) (hts _ gw_17) hK hP hD hS 7 3 2 2 rfl rfl rfl rfl rfl (cpk_p hg).1 (cpk_p hg).2.1 (cpk_p hg).2.2.1 (cpk_p hg).2.2.2.1 (cpk_p hg).2.2.2.2 (fun _ _ => rfl) (by decide) (by decide) d_Po_become_42 (fun H locs hP hD hS => ?_)
  obtain ⟨f3, ev, hf⟩ := bne hf
  have hP : va_P D classes [(o, .inr (7, [.ref a_x, .ref a_y, .ref a_z, .int u0, .int u1])), (a_x, .inl (cy 2, 10, .inr (.inl f1))), (a_y, .inl (cy 2, 10, .inr (.inl f2))), (a_z, .inl (cy 2, 10, .inr (.inl f3))), (o1, .inr (7, [.ref a1_x, .ref a1_y, .ref a1_z, .int i1_isNone, .int i1_isPlain])), (a1_x, .inl (cy 2, 10, .inr (.inl g1_x))), (a1_y, .inl (cy 2, 10, .inr (.inl g1_y))), (a1_z, .inl (cy 2, 10, .inr (.inl g1_z)))] H := by rw [ev]; exact hP
  have hD : va_D A [(o, .inr (7, [.ref a_x, .ref a_y, .ref a_z, .int u0, .int u1])), (a_x, .inl (cy 2, 10, .inr (.inl f1))), (a_y, .inl (cy 2, 10, .inr (.inl f2))), (a_z, .inl (cy 2, 10, .inr (.inl f3))), (o1, .inr (7, [.ref a1_x, .ref a1_y, .ref a1_z, .int i1_isNone, .int i1_isPlain])), (a1_x, .inl (cy 2, 10, .inr (.inl g1_x))), (a1_y, .inl (cy 2, 10, .inr (.inl g1_y))), (a1_z, .inl (cy 2, 10, .inr (.inl g1_z)))] := by rw [ev]; exact hD
  clear ev
  refine lv_aload_n hx hb d_Po_become_45 rfl (lv_at hl 0 rfl) ?_
  refine lv_aload_n hx hb d_Po_become_46 rfl (lv_at hl 1 rfl) ?_
  refine va_get (D := D) (ci := 7) (v := .int i1_isNone) (C := "CoinKeeper$Point") (T := F_7) (N := 5) hx hb hts i_7 hown hK hP 4 rfl rfl 3 (by decide) (hts _ gw_113) (fun _ h9 => h9) rfl d_Po_become_47 ?_
  obtain ⟨hg, hf⟩ := gdp hf
  refine va_put (D := D) (ci := 7) (v := .int i1_isNone) (ty := .boolean) (C := "CoinKeeper$Point") (T := F_7) (N := 5) hx hb hts i_7 t_7 t_7_ok n_7 hown hK hP hD hS 0 rfl rfl 3 (by decide) (hts _ gw_113) (fun _ h9 => h9) rfl (by decide +kernel) (isb_n hg) (isb_f hg) (Nat.le_of_ble_eq_true rfl) d_Po_become_50 (fun H locs hP hD hS => ?_)
  have hP : va_P D classes [(o, .inr (7, [.ref a_x, .ref a_y, .ref a_z, .int i1_isNone, .int u1])), (a_x, .inl (cy 2, 10, .inr (.inl f1))), (a_y, .inl (cy 2, 10, .inr (.inl f2))), (a_z, .inl (cy 2, 10, .inr (.inl f3))), (o1, .inr (7, [.ref a1_x, .ref a1_y, .ref a1_z, .int i1_isNone, .int i1_isPlain])), (a1_x, .inl (cy 2, 10, .inr (.inl g1_x))), (a1_y, .inl (cy 2, 10, .inr (.inl g1_y))), (a1_z, .inl (cy 2, 10, .inr (.inl g1_z)))] H := hP
  have hD : va_D A [(o, .inr (7, [.ref a_x, .ref a_y, .ref a_z, .int i1_isNone, .int u1])), (a_x, .inl (cy 2, 10, .inr (.inl f1))), (a_y, .inl (cy 2, 10, .inr (.inl f2))), (a_z, .inl (cy 2, 10, .inr (.inl f3))), (o1, .inr (7, [.ref a1_x, .ref a1_y, .ref a1_z, .int i1_isNone, .int i1_isPlain])), (a1_x, .inl (cy 2, 10, .inr (.inl g1_x))), (a1_y, .inl (cy 2, 10, .inr (.inl g1_y))), (a1_z, .inl (cy 2, 10, .inr (.inl g1_z)))] := hD
  refine lv_aload_n hx hb d_Po_become_53 rfl (lv_at hl 0 rfl) ?_
  refine lv_aload_n hx hb d_Po_become_54 rfl (lv_at hl 1 rfl) ?_
  refine va_get (D := D) (ci := 7) (v := .int i1_isPlain) (C := "CoinKeeper$Point") (T := F_7) (N := 5) hx hb hts i_7 hown hK hP 4 rfl rfl 4 (by decide) (hts _ gw_116) (fun _ h9 => h9) rfl d_Po_become_55 ?_
  obtain ⟨hg, hf⟩ := gdp hf
  refine va_put (D := D) (ci := 7) (v := .int i1_isPlain) (ty := .boolean) (C := "CoinKeeper$Point") (T := F_7) (N := 5) hx hb hts i_7 t_7 t_7_ok n_7 hown hK hP hD hS 0 rfl rfl 4 (by decide) (hts _ gw_116) (fun _ h9 => h9) rfl (by decide +kernel) (isb_n hg) (isb_f hg) (Nat.le_of_ble_eq_true rfl) d_Po_become_58 (fun H locs hP hD hS => ?_)
  have hP : va_P D classes [(o, .inr (7, [.ref a_x, .ref a_y, .ref a_z, .int i1_isNone, .int i1_isPlain])), (a_x, .inl (cy 2, 10, .inr (.inl f1))), (a_y, .inl (cy 2, 10, .inr (.inl f2))), (a_z, .inl (cy 2, 10, .inr (.inl f3))), (o1, .inr (7, [.ref a1_x, .ref a1_y, .ref a1_z, .int i1_isNone, .int i1_isPlain])), (a1_x, .inl (cy 2, 10, .inr (.inl g1_x))), (a1_y, .inl (cy 2, 10, .inr (.inl g1_y))), (a1_z, .inl (cy 2, 10, .inr (.inl g1_z)))] H := hP
  have hD : va_D A [(o, .inr (7, [.ref a_x, .ref a_y, .ref a_z, .int i1_isNone, .int i1_isPlain])), (a_x, .inl (cy 2, 10, .inr (.inl f1))), (a_y, .inl (cy 2, 10, .inr (.inl f2))), (a_z, .inl (cy 2, 10, .inr (.inl f3))), (o1, .inr (7, [.ref a1_x, .ref a1_y, .ref a1_z, .int i1_isNone, .int i1_isPlain])), (a1_x, .inl (cy 2, 10, .inr (.inl g1_x))), (a1_y, .inl (cy 2, 10, .inr (.inl g1_y))), (a1_z, .inl (cy 2, 10, .inr (.inl g1_z)))] := hD
  obtain rfl := Option.some.inj hf
  exact q_rv hx hb hr hlocks hK hP hD hS d_Po_become_61
theorem c_Po_become (l : Launch) (D : va_G) (cy : Nat → ClassId) (ad : Nat → Nat) (fu : Nat) (o : Nat) (a_x : Nat) (a_y : Nat) (a_z : Nat) (o1 : Nat) (a1_x : Nat) (a1_y : Nat) (a1_z : Nat) (i1_isNone : Int32) (i1_isPlain : Int32) (g1_x : Nat → Int64) (g1_y : Nat → Int64) (g1_z : Nat → Int64) (u0 : Int32) (u1 : Int32) (u2 : Nat → Int64) (u3 : Nat → Int64) (u4 : Nat → Int64) (res : Int32 × Int32 × (Nat → Int64) × (Nat → Int64) × (Nat → Int64)) (hf : x_Po_become fu i1_isNone i1_isPlain g1_x g1_y g1_z u0 u1 u2 u3 u4 = some res) (sz : Nat) : Met l ({ cls := "CoinKeeper$Point", name := "become", desc := "(LCoinKeeper$Point;)V" } : Jvm.MethodName) (.code ({ cls := "CoinKeeper$Point", name := "become", desc := "(LCoinKeeper$Point;)V" } : Jvm.MethodName) b_Po_become 2 none :: gw) rm_Po_become (va_Pc [.ref o, .ref o1] (Pr D cy ad [(o, .inr (7, [.ref a_x, .ref a_y, .ref a_z, .int u0, .int u1])), (a_x, .inl (cy 2, 10, .inr (.inl u2))), (a_y, .inl (cy 2, 10, .inr (.inl u3))), (a_z, .inl (cy 2, 10, .inr (.inl u4))), (o1, .inr (7, [.ref a1_x, .ref a1_y, .ref a1_z, .int i1_isNone, .int i1_isPlain])), (a1_x, .inl (cy 2, 10, .inr (.inl g1_x))), (a1_y, .inl (cy 2, 10, .inr (.inl g1_y))), (a1_z, .inl (cy 2, 10, .inr (.inl g1_z)))] sz)) (q_Po_become D cy (va_A [(o, .inr (7, [.ref a_x, .ref a_y, .ref a_z, .int u0, .int u1])), (a_x, .inl (cy 2, 10, .inr (.inl u2))), (a_y, .inl (cy 2, 10, .inr (.inl u3))), (a_z, .inl (cy 2, 10, .inr (.inl u4))), (o1, .inr (7, [.ref a1_x, .ref a1_y, .ref a1_z, .int i1_isNone, .int i1_isPlain])), (a1_x, .inl (cy 2, 10, .inr (.inl g1_x))), (a1_y, .inl (cy 2, 10, .inr (.inl g1_y))), (a1_z, .inl (cy 2, 10, .inr (.inl g1_z)))] sz) o a_x a_y a_z o1 a1_x a1_y a1_z i1_isNone i1_isPlain g1_x g1_y g1_z res) 0 0 (va_A [(o, .inr (7, [.ref a_x, .ref a_y, .ref a_z, .int u0, .int u1])), (a_x, .inl (cy 2, 10, .inr (.inl u2))), (a_y, .inl (cy 2, 10, .inr (.inl u3))), (a_z, .inl (cy 2, 10, .inr (.inl u4))), (o1, .inr (7, [.ref a1_x, .ref a1_y, .ref a1_z, .int i1_isNone, .int i1_isPlain])), (a1_x, .inl (cy 2, 10, .inr (.inl g1_x))), (a1_y, .inl (cy 2, 10, .inr (.inl g1_y))), (a1_z, .inl (cy 2, 10, .inr (.inl g1_z)))] sz) :=
  q_met (Qc := fun A => q_Po_become D cy A o a_x a_y a_z o1 a1_x a1_y a1_z i1_isNone i1_isPlain g1_x g1_y g1_z res) (by decide) rfl rfl (Nat.le_of_ble_eq_true rfl) (fun p e s m below meth c ls F hP hD hS hl => we_Po_become (fu := fu) F u0 u1 u2 u3 u4 res hf _ _ _ hP hD hS hl) sz
abbrev b_Cu_split : ByteArray := prog_4_method_4_code
theorem d_Cu_split_0 : decode b_Cu_split 0 = .ok (.iconst 0, 1) := by decide +kernel
theorem d_Cu_split_1 : decode b_Cu_split 1 = .ok (.istore_n 2, 1) := by decide +kernel
theorem d_Cu_split_2 : decode b_Cu_split 2 = .ok (.iload_n 2, 1) := by decide +kernel
theorem d_Cu_split_3 : decode b_Cu_split 3 = .ok (.iconst 5, 1) := by decide +kernel
theorem d_Cu_split_4 : decode b_Cu_split 4 = .ok (.if_icmp .ge 34, 3) := by decide +kernel
theorem d_Cu_split_7 : decode b_Cu_split 7 = .ok (.aload_n 1, 1) := by decide +kernel
theorem d_Cu_split_8 : decode b_Cu_split 8 = .ok (.iconst 2, 1) := by decide +kernel
theorem d_Cu_split_9 : decode b_Cu_split 9 = .ok (.iload_n 2, 1) := by decide +kernel
theorem d_Cu_split_10 : decode b_Cu_split 10 = .ok (.imul, 1) := by decide +kernel
theorem d_Cu_split_11 : decode b_Cu_split 11 = .ok (.aload_n 0, 1) := by decide +kernel
theorem d_Cu_split_12 : decode b_Cu_split 12 = .ok (.iload_n 2, 1) := by decide +kernel
theorem d_Cu_split_13 : decode b_Cu_split 13 = .ok (.laload, 1) := by decide +kernel
theorem d_Cu_split_14 : decode b_Cu_split 14 = .ok (.ldc2_w 85, 3) := by decide +kernel
theorem d_Cu_split_17 : decode b_Cu_split 17 = .ok (.land, 1) := by decide +kernel
theorem d_Cu_split_18 : decode b_Cu_split 18 = .ok (.lastore, 1) := by decide +kernel
theorem d_Cu_split_19 : decode b_Cu_split 19 = .ok (.aload_n 1, 1) := by decide +kernel
theorem d_Cu_split_20 : decode b_Cu_split 20 = .ok (.iconst 2, 1) := by decide +kernel
theorem d_Cu_split_21 : decode b_Cu_split 21 = .ok (.iload_n 2, 1) := by decide +kernel
theorem d_Cu_split_22 : decode b_Cu_split 22 = .ok (.imul, 1) := by decide +kernel
theorem d_Cu_split_23 : decode b_Cu_split 23 = .ok (.iconst 1, 1) := by decide +kernel
theorem d_Cu_split_24 : decode b_Cu_split 24 = .ok (.iadd, 1) := by decide +kernel
theorem d_Cu_split_25 : decode b_Cu_split 25 = .ok (.aload_n 0, 1) := by decide +kernel
theorem d_Cu_split_26 : decode b_Cu_split 26 = .ok (.iload_n 2, 1) := by decide +kernel
theorem d_Cu_split_27 : decode b_Cu_split 27 = .ok (.laload, 1) := by decide +kernel
theorem d_Cu_split_28 : decode b_Cu_split 28 = .ok (.bipush 26, 2) := by decide +kernel
theorem d_Cu_split_30 : decode b_Cu_split 30 = .ok (.lshr, 1) := by decide +kernel
theorem d_Cu_split_31 : decode b_Cu_split 31 = .ok (.lastore, 1) := by decide +kernel
theorem d_Cu_split_32 : decode b_Cu_split 32 = .ok (.iinc 2 1, 3) := by decide +kernel
theorem d_Cu_split_35 : decode b_Cu_split 35 = .ok (.goto (-33), 3) := by decide +kernel
theorem d_Cu_split_38 : decode b_Cu_split 38 = .ok (.return_, 1) := by decide +kernel
abbrev rm_Cu_split : Room := { frames := 0, cells := 0, slots := 0, locals := 0 }
abbrev q_Cu_split (D : va_G) (cy : Nat → ClassId) (A : Nat → Prop) (b0 : Nat) (b1 : Nat) (h0 : Nat → Int64) (res : (Nat → Int64)) : Array Value → State → Outcome → State → Prop := va_Qv (fun (_ : Unit) => True) (fun _ t => Po D cy A [(b0, .inl (cy 2, 5, .inr (.inl h0))), (b1, .inl (cy 2, 10, .inr (.inl res)))] t) A
def I_Cu_split_2 (p : Program) (l : Launch) (e : Env) (s : State) (m : MethodId) (args : Array Value) (below : List Frame) (meth : Method) (c : Code) (D : va_G) (cy : Nat → ClassId) (A : Nat → Prop) (ad : Nat → Nat) (b0 : Nat) (b1 : Nat) (h0 : Nat → Int64) (k : Int32 → (Nat → Int64) → Option ((Nat → Int64))) : Prop :=
  ∀ (x2 : Int32) (u0 : Nat → Int64) (res : (Nat → Int64)), k x2 u0 = some res → ∀ (H : Heap) (locs : List Loc) (ls : Array Slot), va_P D classes [(b0, .inl (cy 2, 5, .inr (.inl h0))), (b1, .inl (cy 2, 10, .inr (.inl u0)))] H → va_D A [(b0, .inl (cy 2, 5, .inr (.inl h0))), (b1, .inl (cy 2, 10, .inr (.inl u0)))] → va_S A s.heap H locs → lv_has ls 3 [(0, .ref b0), (1, .ref b1), (2, .int x2)] → W p l e rm_Cu_split s m args below meth c H locs 0 0 (MQ below (q_Cu_split D cy A b0 b1 h0 res) args s 0 0 A) (F0 m 2 ls [])
def I_Cu_split_e (p : Program) (l : Launch) (e : Env) (s : State) (m : MethodId) (args : Array Value) (below : List Frame) (meth : Method) (c : Code) (D : va_G) (cy : Nat → ClassId) (A : Nat → Prop) (ad : Nat → Nat) (b0 : Nat) (b1 : Nat) (h0 : Nat → Int64) (k : (Nat → Int64) → Option ((Nat → Int64))) : Prop :=
  ∀ (u0 : Nat → Int64) (res : (Nat → Int64)), k u0 = some res → ∀ (H : Heap) (locs : List Loc) (ls : Array Slot), va_P D classes [(b0, .inl (cy 2, 5, .inr (.inl h0))), (b1, .inl (cy 2, 10, .inr (.inl u0)))] H → va_D A [(b0, .inl (cy 2, 5, .inr (.inl h0))), (b1, .inl (cy 2, 10, .inr (.inl u0)))] → va_S A s.heap H locs → lv_has ls 3 [(0, .ref b0), (1, .ref b1)] → W p l e rm_Cu_split s m args below meth c H locs 0 0 (MQ below (q_Cu_split D cy A b0 b1 h0 res) args s 0 0 A) (F0 m 0 ls [])
set_option maxHeartbeats 8000000 in
set_option maxRecDepth 100000 in
theorem wb_Cu_split_2 {p : Program} {l : Launch} {e : Env} {s : State} {m : MethodId} {args : Array Value} {below : List Frame} {meth : Method} {c : Code} {D : va_G} {cy : Nat → ClassId} {A : Nat → Prop} {ad : Nat → Nat} {b0 : Nat} {b1 : Nat} {h0 : Nat → Int64} {fu : Nat} {k_2 : Int32 → (Nat → Int64) → Option ((Nat → Int64))} (F : Fx p s m args meth c b_Cu_split 3 "CoinKeeper$Curve" "split" none D cy ad A) (hk_2 : I_Cu_split_2 p l e s m args below meth c D cy A ad b0 b1 h0 k_2) : I_Cu_split_2 p l e s m args below meth c D cy A ad b0 b1 h0 (xb_Cu_split_2 fu h0 k_2) := by
  obtain ⟨hx, hb, hr, hml, hown, hts, hlocks, hK, hA, hSt, hnm, hex⟩ := id F
  intro x2 u0 res hf H locs ls hP hD hS hl
  unfold xb_Cu_split_2 at hf
  refine lv_iload_n hx hb d_Cu_split_2 rfl (lv_at hl 2 rfl) ?_
  refine lv_iconst (v := 5) hx hb d_Cu_split_3 (by decide) ?_
  refine lv_icmp_ge (tgt := 38) hx hb d_Cu_split_4 (by decide) (fun cx => ?_) (fun cx => ?_)
  · have hf := ifp cx hf
    obtain rfl := Option.some.inj hf
    exact q_rv hx hb hr hlocks hK hP hD hS d_Cu_split_38
  · have hf := ifn cx hf
    refine lv_aload_n hx hb d_Cu_split_7 rfl (lv_at hl 1 rfl) ?_
    refine lv_iconst (v := 2) hx hb d_Cu_split_8 (by decide) ?_
    refine lv_iload_n hx hb d_Cu_split_9 rfl (lv_at hl 2 rfl) ?_
    refine lv_imul hx hb d_Cu_split_10 ?_
    refine lv_topi (fun v1 ev => ?_)
    have hf := bn ev hf
    clear ev
    refine lv_aload_n hx hb d_Cu_split_11 rfl (lv_at hl 0 rfl) ?_
    refine lv_iload_n hx hb d_Cu_split_12 rfl (lv_at hl 2 rfl) ?_
    obtain ⟨hg, hf⟩ := gdp hf
    refine va_lald hx hb hK hP 0 2 rfl rfl (inb_in hg) d_Cu_split_13 ?_
    refine lv_topl (fun v2 ev => ?_)
    have hf := bn ev hf
    clear ev
    refine lv_ldc2 (v := 67108863) hx hb hown (hts _ gw_1075) d_Cu_split_14 ?_
    refine lv_land hx hb d_Cu_split_17 ?_
    refine lv_topl (fun v3 ev => ?_)
    have hf := bn ev hf
    clear ev
    obtain ⟨hg, hf⟩ := gdp hf
    refine va_last hx hb hK hP hD hS 1 2 rfl rfl (inb_in hg) d_Cu_split_18 (fun H locs hP hD hS => ?_)
    obtain ⟨f4, ev, hf⟩ := bne hf
    have hP : va_P D classes [(b0, .inl (cy 2, 5, .inr (.inl h0))), (b1, .inl (cy 2, 10, .inr (.inl f4)))] H := by rw [ev]; exact hP
    have hD : va_D A [(b0, .inl (cy 2, 5, .inr (.inl h0))), (b1, .inl (cy 2, 10, .inr (.inl f4)))] := by rw [ev]; exact hD
    clear ev
    refine lv_aload_n hx hb d_Cu_split_19 rfl (lv_at hl 1 rfl) ?_
    refine lv_iconst (v := 2) hx hb d_Cu_split_20 (by decide) ?_
    refine lv_iload_n hx hb d_Cu_split_21 rfl (lv_at hl 2 rfl) ?_
    refine lv_imul hx hb d_Cu_split_22 ?_
    refine lv_topi (fun v5 ev => ?_)
    have hf := bn ev hf
    clear ev
    refine lv_iconst (v := 1) hx hb d_Cu_split_23 (by decide) ?_
    refine lv_iadd hx hb d_Cu_split_24 ?_
    refine lv_topi (fun v6 ev => ?_)
    have hf := bn ev hf
    clear ev
    refine lv_aload_n hx hb d_Cu_split_25 rfl (lv_at hl 0 rfl) ?_
    refine lv_iload_n hx hb d_Cu_split_26 rfl (lv_at hl 2 rfl) ?_
    obtain ⟨hg, hf⟩ := gdp hf
    refine va_lald hx hb hK hP 0 2 rfl rfl (inb_in hg) d_Cu_split_27 ?_
    refine lv_topl (fun v7 ev => ?_)
    have hf := bn ev hf
    clear ev
    refine lv_bipush (v := 26) hx hb d_Cu_split_28 (by decide) ?_
    refine lv_lshr hx hb d_Cu_split_30 rfl ?_
    refine lv_topl (fun v8 ev => ?_)
    have hf := bn ev hf
    clear ev
    obtain ⟨hg, hf⟩ := gdp hf
    refine va_last hx hb hK hP hD hS 1 2 rfl rfl (inb_in hg) d_Cu_split_31 (fun H locs hP hD hS => ?_)
    obtain ⟨f9, ev, hf⟩ := bne hf
    have hP : va_P D classes [(b0, .inl (cy 2, 5, .inr (.inl h0))), (b1, .inl (cy 2, 10, .inr (.inl f9)))] H := by rw [ev]; exact hP
    have hD : va_D A [(b0, .inl (cy 2, 5, .inr (.inl h0))), (b1, .inl (cy 2, 10, .inr (.inl f9)))] := by rw [ev]; exact hD
    clear ev
    obtain ⟨v10, ev, hf⟩ := bne hf
    refine lv_iinc (v := v10) (lv' := [(2, .int v10), (0, .ref b0), (1, .ref b1)]) hx hb d_Cu_split_32 hl (k := 2) rfl (by rw [ev]; rfl) (by decide) rfl (fun ls hl => ?_)
    clear ev
    refine lv_goto (tgt := 2) hx hb d_Cu_split_35 (by decide) ?_
    exact hk_2 _ _ _ hf _ _ _ hP hD hS (lv_sub hl [1, 2, 0] rfl)
theorem w_Cu_split_2 {p : Program} {l : Launch} {e : Env} {s : State} {m : MethodId} {args : Array Value} {below : List Frame} {meth : Method} {c : Code} {D : va_G} {cy : Nat → ClassId} {A : Nat → Prop} {ad : Nat → Nat} {b0 : Nat} {b1 : Nat} {h0 : Nat → Int64} {fu : Nat} (F : Fx p s m args meth c b_Cu_split 3 "CoinKeeper$Curve" "split" none D cy ad A) : ∀ n : Nat, I_Cu_split_2 p l e s m args below meth c D cy A ad b0 b1 h0 (x_Cu_split_2 fu h0 n)
  | 0 => fun _ _ _ hf => nomatch (show (none : Option ((Nat → Int64))) = some _ from hf)
  | n + 1 => wb_Cu_split_2 F (w_Cu_split_2 F n)
set_option maxHeartbeats 8000000 in
set_option maxRecDepth 100000 in
theorem we_Cu_split {p : Program} {l : Launch} {e : Env} {s : State} {m : MethodId} {args : Array Value} {below : List Frame} {meth : Method} {c : Code} {D : va_G} {cy : Nat → ClassId} {A : Nat → Prop} {ad : Nat → Nat} {b0 : Nat} {b1 : Nat} {h0 : Nat → Int64} {fu : Nat} (F : Fx p s m args meth c b_Cu_split 3 "CoinKeeper$Curve" "split" none D cy ad A) : I_Cu_split_e p l e s m args below meth c D cy A ad b0 b1 h0 (x_Cu_split fu h0) := by
  obtain ⟨hx, hb, hr, hml, hown, hts, hlocks, hK, hA, hSt, hnm, hex⟩ := id F
  intro u0 res hf H locs ls hP hD hS hl
  unfold x_Cu_split at hf
  refine lv_iconst (v := 0) hx hb d_Cu_split_0 (by decide) ?_
  refine lv_istore_n (lv' := [(2, .int (0 : Int32)), (0, .ref b0), (1, .ref b1)]) hx hb d_Cu_split_1 rfl hl (by decide) rfl (fun ls hl => ?_)
  exact w_Cu_split_2 F fu _ _ _ hf _ _ _ hP hD hS (lv_sub hl [1, 2, 0] rfl)
theorem c_Cu_split (l : Launch) (D : va_G) (cy : Nat → ClassId) (ad : Nat → Nat) (fu : Nat) (b0 : Nat) (b1 : Nat) (h0 : Nat → Int64) (u0 : Nat → Int64) (res : (Nat → Int64)) (hf : x_Cu_split fu h0 u0 = some res) (sz : Nat) : Met l ({ cls := "CoinKeeper$Curve", name := "split", desc := "([J[J)V" } : Jvm.MethodName) (.code ({ cls := "CoinKeeper$Curve", name := "split", desc := "([J[J)V" } : Jvm.MethodName) b_Cu_split 3 none :: gw) rm_Cu_split (va_Pc [.ref b0, .ref b1] (Pr D cy ad [(b0, .inl (cy 2, 5, .inr (.inl h0))), (b1, .inl (cy 2, 10, .inr (.inl u0)))] sz)) (q_Cu_split D cy (va_A [(b0, .inl (cy 2, 5, .inr (.inl h0))), (b1, .inl (cy 2, 10, .inr (.inl u0)))] sz) b0 b1 h0 res) 0 0 (va_A [(b0, .inl (cy 2, 5, .inr (.inl h0))), (b1, .inl (cy 2, 10, .inr (.inl u0)))] sz) :=
  q_met (Qc := fun A => q_Cu_split D cy A b0 b1 h0 res) (by decide) rfl rfl (Nat.le_of_ble_eq_true rfl) (fun p e s m below meth c ls F hP hD hS hl => we_Cu_split (fu := fu) F u0 res hf _ _ _ hP hD hS hl) sz
abbrev b_Cu_negate : ByteArray := prog_4_method_5_code
theorem d_Cu_negate_0 : decode b_Cu_negate 0 = .ok (.iconst 0, 1) := by decide +kernel
theorem d_Cu_negate_1 : decode b_Cu_negate 1 = .ok (.istore_n 1, 1) := by decide +kernel
theorem d_Cu_negate_2 : decode b_Cu_negate 2 = .ok (.iload_n 1, 1) := by decide +kernel
theorem d_Cu_negate_3 : decode b_Cu_negate 3 = .ok (.bipush 10, 2) := by decide +kernel
theorem d_Cu_negate_5 : decode b_Cu_negate 5 = .ok (.if_icmp .ge 16, 3) := by decide +kernel
theorem d_Cu_negate_8 : decode b_Cu_negate 8 = .ok (.aload_n 0, 1) := by decide +kernel
theorem d_Cu_negate_9 : decode b_Cu_negate 9 = .ok (.iload_n 1, 1) := by decide +kernel
theorem d_Cu_negate_10 : decode b_Cu_negate 10 = .ok (.aload_n 0, 1) := by decide +kernel
theorem d_Cu_negate_11 : decode b_Cu_negate 11 = .ok (.iload_n 1, 1) := by decide +kernel
theorem d_Cu_negate_12 : decode b_Cu_negate 12 = .ok (.laload, 1) := by decide +kernel
theorem d_Cu_negate_13 : decode b_Cu_negate 13 = .ok (.lneg, 1) := by decide +kernel
theorem d_Cu_negate_14 : decode b_Cu_negate 14 = .ok (.lastore, 1) := by decide +kernel
theorem d_Cu_negate_15 : decode b_Cu_negate 15 = .ok (.iinc 1 1, 3) := by decide +kernel
theorem d_Cu_negate_18 : decode b_Cu_negate 18 = .ok (.goto (-16), 3) := by decide +kernel
theorem d_Cu_negate_21 : decode b_Cu_negate 21 = .ok (.return_, 1) := by decide +kernel
abbrev rm_Cu_negate : Room := { frames := 0, cells := 0, slots := 0, locals := 0 }
abbrev q_Cu_negate (D : va_G) (cy : Nat → ClassId) (A : Nat → Prop) (b0 : Nat) (res : (Nat → Int64)) : Array Value → State → Outcome → State → Prop := va_Qv (fun (_ : Unit) => True) (fun _ t => Po D cy A [(b0, .inl (cy 2, 10, .inr (.inl res)))] t) A
def I_Cu_negate_2 (p : Program) (l : Launch) (e : Env) (s : State) (m : MethodId) (args : Array Value) (below : List Frame) (meth : Method) (c : Code) (D : va_G) (cy : Nat → ClassId) (A : Nat → Prop) (ad : Nat → Nat) (b0 : Nat) (k : Int32 → (Nat → Int64) → Option ((Nat → Int64))) : Prop :=
  ∀ (x1 : Int32) (u0 : Nat → Int64) (res : (Nat → Int64)), k x1 u0 = some res → ∀ (H : Heap) (locs : List Loc) (ls : Array Slot), va_P D classes [(b0, .inl (cy 2, 10, .inr (.inl u0)))] H → va_D A [(b0, .inl (cy 2, 10, .inr (.inl u0)))] → va_S A s.heap H locs → lv_has ls 2 [(0, .ref b0), (1, .int x1)] → W p l e rm_Cu_negate s m args below meth c H locs 0 0 (MQ below (q_Cu_negate D cy A b0 res) args s 0 0 A) (F0 m 2 ls [])
def I_Cu_negate_e (p : Program) (l : Launch) (e : Env) (s : State) (m : MethodId) (args : Array Value) (below : List Frame) (meth : Method) (c : Code) (D : va_G) (cy : Nat → ClassId) (A : Nat → Prop) (ad : Nat → Nat) (b0 : Nat) (k : (Nat → Int64) → Option ((Nat → Int64))) : Prop :=
  ∀ (u0 : Nat → Int64) (res : (Nat → Int64)), k u0 = some res → ∀ (H : Heap) (locs : List Loc) (ls : Array Slot), va_P D classes [(b0, .inl (cy 2, 10, .inr (.inl u0)))] H → va_D A [(b0, .inl (cy 2, 10, .inr (.inl u0)))] → va_S A s.heap H locs → lv_has ls 2 [(0, .ref b0)] → W p l e rm_Cu_negate s m args below meth c H locs 0 0 (MQ below (q_Cu_negate D cy A b0 res) args s 0 0 A) (F0 m 0 ls [])
set_option maxHeartbeats 8000000 in
set_option maxRecDepth 100000 in
theorem wb_Cu_negate_2 {p : Program} {l : Launch} {e : Env} {s : State} {m : MethodId} {args : Array Value} {below : List Frame} {meth : Method} {c : Code} {D : va_G} {cy : Nat → ClassId} {A : Nat → Prop} {ad : Nat → Nat} {b0 : Nat} {fu : Nat} {k_2 : Int32 → (Nat → Int64) → Option ((Nat → Int64))} (F : Fx p s m args meth c b_Cu_negate 2 "CoinKeeper$Curve" "negate" none D cy ad A) (hk_2 : I_Cu_negate_2 p l e s m args below meth c D cy A ad b0 k_2) : I_Cu_negate_2 p l e s m args below meth c D cy A ad b0 (xb_Cu_negate_2 fu k_2) := by
  obtain ⟨hx, hb, hr, hml, hown, hts, hlocks, hK, hA, hSt, hnm, hex⟩ := id F
  intro x1 u0 res hf H locs ls hP hD hS hl
  unfold xb_Cu_negate_2 at hf
  refine lv_iload_n hx hb d_Cu_negate_2 rfl (lv_at hl 1 rfl) ?_
  refine lv_bipush (v := 10) hx hb d_Cu_negate_3 (by decide) ?_
  refine lv_icmp_ge (tgt := 21) hx hb d_Cu_negate_5 (by decide) (fun cx => ?_) (fun cx => ?_)
  · have hf := ifp cx hf
    obtain rfl := Option.some.inj hf
    exact q_rv hx hb hr hlocks hK hP hD hS d_Cu_negate_21
  · have hf := ifn cx hf
    refine lv_aload_n hx hb d_Cu_negate_8 rfl (lv_at hl 0 rfl) ?_
    refine lv_iload_n hx hb d_Cu_negate_9 rfl (lv_at hl 1 rfl) ?_
    refine lv_aload_n hx hb d_Cu_negate_10 rfl (lv_at hl 0 rfl) ?_
    refine lv_iload_n hx hb d_Cu_negate_11 rfl (lv_at hl 1 rfl) ?_
    obtain ⟨hg, hf⟩ := gdp hf
    refine va_lald hx hb hK hP 0 2 rfl rfl (inb_in hg) d_Cu_negate_12 ?_
    refine lv_topl (fun v1 ev => ?_)
    have hf := bn ev hf
    clear ev
    refine lv_lneg hx hb d_Cu_negate_13 ?_
    refine lv_topl (fun v2 ev => ?_)
    have hf := bn ev hf
    clear ev
    obtain ⟨hg, hf⟩ := gdp hf
    refine va_last hx hb hK hP hD hS 0 2 rfl rfl (inb_in hg) d_Cu_negate_14 (fun H locs hP hD hS => ?_)
    obtain ⟨f3, ev, hf⟩ := bne hf
    have hP : va_P D classes [(b0, .inl (cy 2, 10, .inr (.inl f3)))] H := by rw [ev]; exact hP
    have hD : va_D A [(b0, .inl (cy 2, 10, .inr (.inl f3)))] := by rw [ev]; exact hD
    clear ev
    obtain ⟨v4, ev, hf⟩ := bne hf
    refine lv_iinc (v := v4) (lv' := [(1, .int v4), (0, .ref b0)]) hx hb d_Cu_negate_15 hl (k := 1) rfl (by rw [ev]; rfl) (by decide) rfl (fun ls hl => ?_)
    clear ev
    refine lv_goto (tgt := 2) hx hb d_Cu_negate_18 (by decide) ?_
    exact hk_2 _ _ _ hf _ _ _ hP hD hS (lv_sub hl [1, 0] rfl)
theorem w_Cu_negate_2 {p : Program} {l : Launch} {e : Env} {s : State} {m : MethodId} {args : Array Value} {below : List Frame} {meth : Method} {c : Code} {D : va_G} {cy : Nat → ClassId} {A : Nat → Prop} {ad : Nat → Nat} {b0 : Nat} {fu : Nat} (F : Fx p s m args meth c b_Cu_negate 2 "CoinKeeper$Curve" "negate" none D cy ad A) : ∀ n : Nat, I_Cu_negate_2 p l e s m args below meth c D cy A ad b0 (x_Cu_negate_2 fu n)
  | 0 => fun _ _ _ hf => nomatch (show (none : Option ((Nat → Int64))) = some _ from hf)
  | n + 1 => wb_Cu_negate_2 F (w_Cu_negate_2 F n)
set_option maxHeartbeats 8000000 in
set_option maxRecDepth 100000 in
theorem we_Cu_negate {p : Program} {l : Launch} {e : Env} {s : State} {m : MethodId} {args : Array Value} {below : List Frame} {meth : Method} {c : Code} {D : va_G} {cy : Nat → ClassId} {A : Nat → Prop} {ad : Nat → Nat} {b0 : Nat} {fu : Nat} (F : Fx p s m args meth c b_Cu_negate 2 "CoinKeeper$Curve" "negate" none D cy ad A) : I_Cu_negate_e p l e s m args below meth c D cy A ad b0 (x_Cu_negate fu) := by
  obtain ⟨hx, hb, hr, hml, hown, hts, hlocks, hK, hA, hSt, hnm, hex⟩ := id F
  intro u0 res hf H locs ls hP hD hS hl
  unfold x_Cu_negate at hf
  refine lv_iconst (v := 0) hx hb d_Cu_negate_0 (by decide) ?_
  refine lv_istore_n (lv' := [(1, .int (0 : Int32)), (0, .ref b0)]) hx hb d_Cu_negate_1 rfl hl (by decide) rfl (fun ls hl => ?_)
  exact w_Cu_negate_2 F fu _ _ _ hf _ _ _ hP hD hS (lv_sub hl [1, 0] rfl)
theorem c_Cu_negate (l : Launch) (D : va_G) (cy : Nat → ClassId) (ad : Nat → Nat) (fu : Nat) (b0 : Nat) (u0 : Nat → Int64) (res : (Nat → Int64)) (hf : x_Cu_negate fu u0 = some res) (sz : Nat) : Met l ({ cls := "CoinKeeper$Curve", name := "negate", desc := "([J)V" } : Jvm.MethodName) (.code ({ cls := "CoinKeeper$Curve", name := "negate", desc := "([J)V" } : Jvm.MethodName) b_Cu_negate 2 none :: gw) rm_Cu_negate (va_Pc [.ref b0] (Pr D cy ad [(b0, .inl (cy 2, 10, .inr (.inl u0)))] sz)) (q_Cu_negate D cy (va_A [(b0, .inl (cy 2, 10, .inr (.inl u0)))] sz) b0 res) 0 0 (va_A [(b0, .inl (cy 2, 10, .inr (.inl u0)))] sz) :=
  q_met (Qc := fun A => q_Cu_negate D cy A b0 res) (by decide) rfl rfl (Nat.le_of_ble_eq_true rfl) (fun p e s m below meth c ls F hP hD hS hl => we_Cu_negate (fu := fu) F u0 res hf _ _ _ hP hD hS hl) sz
abbrev b_Cu_hasNoBit : ByteArray := prog_4_method_10_code
theorem d_Cu_hasNoBit_0 : decode b_Cu_hasNoBit 0 = .ok (.lconst 0, 1) := by decide +kernel
theorem d_Cu_hasNoBit_1 : decode b_Cu_hasNoBit 1 = .ok (.lstore_n 1, 1) := by decide +kernel
theorem d_Cu_hasNoBit_2 : decode b_Cu_hasNoBit 2 = .ok (.iconst 0, 1) := by decide +kernel
theorem d_Cu_hasNoBit_3 : decode b_Cu_hasNoBit 3 = .ok (.istore_n 3, 1) := by decide +kernel
theorem d_Cu_hasNoBit_4 : decode b_Cu_hasNoBit 4 = .ok (.iload_n 3, 1) := by decide +kernel
theorem d_Cu_hasNoBit_5 : decode b_Cu_hasNoBit 5 = .ok (.bipush 10, 2) := by decide +kernel
theorem d_Cu_hasNoBit_7 : decode b_Cu_hasNoBit 7 = .ok (.if_icmp .ge 15, 3) := by decide +kernel
theorem d_Cu_hasNoBit_10 : decode b_Cu_hasNoBit 10 = .ok (.lload_n 1, 1) := by decide +kernel
theorem d_Cu_hasNoBit_11 : decode b_Cu_hasNoBit 11 = .ok (.aload_n 0, 1) := by decide +kernel
theorem d_Cu_hasNoBit_12 : decode b_Cu_hasNoBit 12 = .ok (.iload_n 3, 1) := by decide +kernel
theorem d_Cu_hasNoBit_13 : decode b_Cu_hasNoBit 13 = .ok (.laload, 1) := by decide +kernel
theorem d_Cu_hasNoBit_14 : decode b_Cu_hasNoBit 14 = .ok (.lor, 1) := by decide +kernel
theorem d_Cu_hasNoBit_15 : decode b_Cu_hasNoBit 15 = .ok (.lstore_n 1, 1) := by decide +kernel
theorem d_Cu_hasNoBit_16 : decode b_Cu_hasNoBit 16 = .ok (.iinc 3 1, 3) := by decide +kernel
theorem d_Cu_hasNoBit_19 : decode b_Cu_hasNoBit 19 = .ok (.goto (-15), 3) := by decide +kernel
theorem d_Cu_hasNoBit_22 : decode b_Cu_hasNoBit 22 = .ok (.lload_n 1, 1) := by decide +kernel
theorem d_Cu_hasNoBit_23 : decode b_Cu_hasNoBit 23 = .ok (.lconst 0, 1) := by decide +kernel
theorem d_Cu_hasNoBit_24 : decode b_Cu_hasNoBit 24 = .ok (.lcmp, 1) := by decide +kernel
theorem d_Cu_hasNoBit_25 : decode b_Cu_hasNoBit 25 = .ok (.ifCond .ne 7, 3) := by decide +kernel
theorem d_Cu_hasNoBit_28 : decode b_Cu_hasNoBit 28 = .ok (.iconst 1, 1) := by decide +kernel
theorem d_Cu_hasNoBit_29 : decode b_Cu_hasNoBit 29 = .ok (.goto 4, 3) := by decide +kernel
theorem d_Cu_hasNoBit_32 : decode b_Cu_hasNoBit 32 = .ok (.iconst 0, 1) := by decide +kernel
theorem d_Cu_hasNoBit_33 : decode b_Cu_hasNoBit 33 = .ok (.ireturn, 1) := by decide +kernel
abbrev rm_Cu_hasNoBit : Room := { frames := 0, cells := 0, slots := 0, locals := 0 }
abbrev q_Cu_hasNoBit (D : va_G) (cy : Nat → ClassId) (A : Nat → Prop) (b0 : Nat) (h0 : Nat → Int64) (res : Int32) : Array Value → State → Outcome → State → Prop := va_Qi (fun r' (_ : Unit) => r' = res) (fun _ t => Po D cy A [(b0, .inl (cy 2, 10, .inr (.inl h0)))] t) A
def I_Cu_hasNoBit_4 (p : Program) (l : Launch) (e : Env) (s : State) (m : MethodId) (args : Array Value) (below : List Frame) (meth : Method) (c : Code) (D : va_G) (cy : Nat → ClassId) (A : Nat → Prop) (ad : Nat → Nat) (b0 : Nat) (h0 : Nat → Int64) (k : Int64 → Int32 → Option (Int32)) : Prop :=
  ∀ (x1 : Int64) (x3 : Int32) (res : Int32), k x1 x3 = some res → ∀ (H : Heap) (locs : List Loc) (ls : Array Slot), va_P D classes [(b0, .inl (cy 2, 10, .inr (.inl h0)))] H → va_D A [(b0, .inl (cy 2, 10, .inr (.inl h0)))] → va_S A s.heap H locs → lv_has ls 4 [(0, .ref b0), (1, .long x1), (3, .int x3)] → W p l e rm_Cu_hasNoBit s m args below meth c H locs 0 0 (MQ below (q_Cu_hasNoBit D cy A b0 h0 res) args s 0 0 A) (F0 m 4 ls [])
def I_Cu_hasNoBit_e (p : Program) (l : Launch) (e : Env) (s : State) (m : MethodId) (args : Array Value) (below : List Frame) (meth : Method) (c : Code) (D : va_G) (cy : Nat → ClassId) (A : Nat → Prop) (ad : Nat → Nat) (b0 : Nat) (h0 : Nat → Int64) (k : Option (Int32)) : Prop :=
  ∀ (res : Int32), k  = some res → ∀ (H : Heap) (locs : List Loc) (ls : Array Slot), va_P D classes [(b0, .inl (cy 2, 10, .inr (.inl h0)))] H → va_D A [(b0, .inl (cy 2, 10, .inr (.inl h0)))] → va_S A s.heap H locs → lv_has ls 4 [(0, .ref b0)] → W p l e rm_Cu_hasNoBit s m args below meth c H locs 0 0 (MQ below (q_Cu_hasNoBit D cy A b0 h0 res) args s 0 0 A) (F0 m 0 ls [])
set_option maxHeartbeats 8000000 in
set_option maxRecDepth 100000 in
theorem wb_Cu_hasNoBit_4 {p : Program} {l : Launch} {e : Env} {s : State} {m : MethodId} {args : Array Value} {below : List Frame} {meth : Method} {c : Code} {D : va_G} {cy : Nat → ClassId} {A : Nat → Prop} {ad : Nat → Nat} {b0 : Nat} {h0 : Nat → Int64} {fu : Nat} {k_4 : Int64 → Int32 → Option (Int32)} (F : Fx p s m args meth c b_Cu_hasNoBit 4 "CoinKeeper$Curve" "hasNoBit" (some .boolean) D cy ad A) (hk_4 : I_Cu_hasNoBit_4 p l e s m args below meth c D cy A ad b0 h0 k_4) : I_Cu_hasNoBit_4 p l e s m args below meth c D cy A ad b0 h0 (xb_Cu_hasNoBit_4 fu h0 k_4) := by
  obtain ⟨hx, hb, hr, hml, hown, hts, hlocks, hK, hA, hSt, hnm, hex⟩ := id F
  intro x1 x3 res hf H locs ls hP hD hS hl
  unfold xb_Cu_hasNoBit_4 at hf
  refine lv_iload_n hx hb d_Cu_hasNoBit_4 rfl (lv_at hl 2 rfl) ?_
  refine lv_bipush (v := 10) hx hb d_Cu_hasNoBit_5 (by decide) ?_
  refine lv_icmp_ge (tgt := 22) hx hb d_Cu_hasNoBit_7 (by decide) (fun cx => ?_) (fun cx => ?_)
  · have hf := ifp cx hf
    refine lv_lload_n hx hb d_Cu_hasNoBit_22 rfl (lv_at hl 1 rfl) ?_
    refine lv_lconst (v := 0) hx hb d_Cu_hasNoBit_23 (by decide) ?_
    refine W.lcmp hx hb d_Cu_hasNoBit_24 ?_
    refine lv_if_ne (tgt := 32) hx hb d_Cu_hasNoBit_25 (by decide) (fun cx => ?_) (fun cx => ?_)
    · have hf := ifn cx hf
      refine lv_iconst (v := 0) hx hb d_Cu_hasNoBit_32 (by decide) ?_
      obtain rfl := Option.some.inj hf
      exact q_rz hx hb hr hlocks hK hP hD hS (isb_n (v := 0) (by decide)) d_Cu_hasNoBit_33
    · have hf := ifp cx hf
      refine lv_iconst (v := 1) hx hb d_Cu_hasNoBit_28 (by decide) ?_
      refine lv_goto (tgt := 33) hx hb d_Cu_hasNoBit_29 (by decide) ?_
      obtain rfl := Option.some.inj hf
      exact q_rz hx hb hr hlocks hK hP hD hS (isb_n (v := 1) (by decide)) d_Cu_hasNoBit_33
  · have hf := ifn cx hf
    refine lv_lload_n hx hb d_Cu_hasNoBit_10 rfl (lv_at hl 1 rfl) ?_
    refine lv_aload_n hx hb d_Cu_hasNoBit_11 rfl (lv_at hl 0 rfl) ?_
    refine lv_iload_n hx hb d_Cu_hasNoBit_12 rfl (lv_at hl 2 rfl) ?_
    obtain ⟨hg, hf⟩ := gdp hf
    refine va_lald hx hb hK hP 0 2 rfl rfl (inb_in hg) d_Cu_hasNoBit_13 ?_
    refine lv_topl (fun v1 ev => ?_)
    have hf := bn ev hf
    clear ev
    refine lv_lor hx hb d_Cu_hasNoBit_14 ?_
    refine lv_topl (fun v2 ev => ?_)
    have hf := bn ev hf
    clear ev
    refine lv_lstore_n (lv' := [(1, .long v2), (0, .ref b0), (3, .int x3)]) hx hb d_Cu_hasNoBit_15 rfl hl (by decide) rfl (fun ls hl => ?_)
    obtain ⟨v3, ev, hf⟩ := bne hf
    refine lv_iinc (v := v3) (lv' := [(3, .int v3), (1, .long v2), (0, .ref b0)]) hx hb d_Cu_hasNoBit_16 hl (k := 2) rfl (by rw [ev]; rfl) (by decide) rfl (fun ls hl => ?_)
    clear ev
    refine lv_goto (tgt := 4) hx hb d_Cu_hasNoBit_19 (by decide) ?_
    exact hk_4 _ _ _ hf _ _ _ hP hD hS (lv_sub hl [2, 1, 0] rfl)
theorem w_Cu_hasNoBit_4 {p : Program} {l : Launch} {e : Env} {s : State} {m : MethodId} {args : Array Value} {below : List Frame} {meth : Method} {c : Code} {D : va_G} {cy : Nat → ClassId} {A : Nat → Prop} {ad : Nat → Nat} {b0 : Nat} {h0 : Nat → Int64} {fu : Nat} (F : Fx p s m args meth c b_Cu_hasNoBit 4 "CoinKeeper$Curve" "hasNoBit" (some .boolean) D cy ad A) : ∀ n : Nat, I_Cu_hasNoBit_4 p l e s m args below meth c D cy A ad b0 h0 (x_Cu_hasNoBit_4 fu h0 n)
  | 0 => fun _ _ _ hf => nomatch (show (none : Option (Int32)) = some _ from hf)
  | n + 1 => wb_Cu_hasNoBit_4 F (w_Cu_hasNoBit_4 F n)
set_option maxHeartbeats 8000000 in
set_option maxRecDepth 100000 in
theorem we_Cu_hasNoBit {p : Program} {l : Launch} {e : Env} {s : State} {m : MethodId} {args : Array Value} {below : List Frame} {meth : Method} {c : Code} {D : va_G} {cy : Nat → ClassId} {A : Nat → Prop} {ad : Nat → Nat} {b0 : Nat} {h0 : Nat → Int64} {fu : Nat} (F : Fx p s m args meth c b_Cu_hasNoBit 4 "CoinKeeper$Curve" "hasNoBit" (some .boolean) D cy ad A) : I_Cu_hasNoBit_e p l e s m args below meth c D cy A ad b0 h0 (x_Cu_hasNoBit fu h0) := by
  obtain ⟨hx, hb, hr, hml, hown, hts, hlocks, hK, hA, hSt, hnm, hex⟩ := id F
  intro  res hf H locs ls hP hD hS hl
  unfold x_Cu_hasNoBit at hf
  refine lv_lconst (v := 0) hx hb d_Cu_hasNoBit_0 (by decide) ?_
  refine lv_lstore_n (lv' := [(1, .long (0 : Int64)), (0, .ref b0)]) hx hb d_Cu_hasNoBit_1 rfl hl (by decide) rfl (fun ls hl => ?_)
  refine lv_iconst (v := 0) hx hb d_Cu_hasNoBit_2 (by decide) ?_
  refine lv_istore_n (lv' := [(3, .int (0 : Int32)), (1, .long (0 : Int64)), (0, .ref b0)]) hx hb d_Cu_hasNoBit_3 rfl hl (by decide) rfl (fun ls hl => ?_)
  exact w_Cu_hasNoBit_4 F fu _ _ _ hf _ _ _ hP hD hS (lv_sub hl [2, 1, 0] rfl)
theorem c_Cu_hasNoBit (l : Launch) (D : va_G) (cy : Nat → ClassId) (ad : Nat → Nat) (fu : Nat) (b0 : Nat) (h0 : Nat → Int64) (res : Int32) (hf : x_Cu_hasNoBit fu h0 = some res) (sz : Nat) : Met l ({ cls := "CoinKeeper$Curve", name := "hasNoBit", desc := "([J)Z" } : Jvm.MethodName) (.code ({ cls := "CoinKeeper$Curve", name := "hasNoBit", desc := "([J)Z" } : Jvm.MethodName) b_Cu_hasNoBit 4 (some .boolean) :: gw) rm_Cu_hasNoBit (va_Pc [.ref b0] (Pr D cy ad [(b0, .inl (cy 2, 10, .inr (.inl h0)))] sz)) (q_Cu_hasNoBit D cy (va_A [(b0, .inl (cy 2, 10, .inr (.inl h0)))] sz) b0 h0 res) 0 0 (va_A [(b0, .inl (cy 2, 10, .inr (.inl h0)))] sz) :=
  q_met (Qc := fun A => q_Cu_hasNoBit D cy A b0 h0 res) (by decide) rfl rfl (Nat.le_of_ble_eq_true rfl) (fun p e s m below meth c ls F hP hD hS hl => we_Cu_hasNoBit (fu := fu) F  res hf _ _ _ hP hD hS hl) sz
