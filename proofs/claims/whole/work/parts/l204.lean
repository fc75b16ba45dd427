abbrev b_Cu_settle : ByteArray := prog_4_method_11_code
theorem d_Cu_settle_0 : decode b_Cu_settle 0 = .ok (.iconst 0, 1) := by decide +kernel
theorem d_Cu_settle_1 : decode b_Cu_settle 1 = .ok (.istore_n 1, 1) := by decide +kernel
theorem d_Cu_settle_2 : decode b_Cu_settle 2 = .ok (.iload_n 1, 1) := by decide +kernel
theorem d_Cu_settle_3 : decode b_Cu_settle 3 = .ok (.iconst 2, 1) := by decide +kernel
theorem d_Cu_settle_4 : decode b_Cu_settle 4 = .ok (.if_icmp .ge 90, 3) := by decide +kernel
theorem d_Cu_settle_7 : decode b_Cu_settle 7 = .ok (.aload_n 0, 1) := by decide +kernel
theorem d_Cu_settle_8 : decode b_Cu_settle 8 = .ok (.bipush 9, 2) := by decide +kernel
theorem d_Cu_settle_10 : decode b_Cu_settle 10 = .ok (.laload, 1) := by decide +kernel
theorem d_Cu_settle_11 : decode b_Cu_settle 11 = .ok (.bipush 22, 2) := by decide +kernel
theorem d_Cu_settle_13 : decode b_Cu_settle 13 = .ok (.lshr, 1) := by decide +kernel
theorem d_Cu_settle_14 : decode b_Cu_settle 14 = .ok (.lstore_n 2, 1) := by decide +kernel
theorem d_Cu_settle_15 : decode b_Cu_settle 15 = .ok (.aload_n 0, 1) := by decide +kernel
theorem d_Cu_settle_16 : decode b_Cu_settle 16 = .ok (.bipush 9, 2) := by decide +kernel
theorem d_Cu_settle_18 : decode b_Cu_settle 18 = .ok (.dup2, 1) := by decide +kernel
theorem d_Cu_settle_19 : decode b_Cu_settle 19 = .ok (.laload, 1) := by decide +kernel
theorem d_Cu_settle_20 : decode b_Cu_settle 20 = .ok (.ldc2_w 119, 3) := by decide +kernel
theorem d_Cu_settle_23 : decode b_Cu_settle 23 = .ok (.land, 1) := by decide +kernel
theorem d_Cu_settle_24 : decode b_Cu_settle 24 = .ok (.lastore, 1) := by decide +kernel
theorem d_Cu_settle_25 : decode b_Cu_settle 25 = .ok (.aload_n 0, 1) := by decide +kernel
theorem d_Cu_settle_26 : decode b_Cu_settle 26 = .ok (.iconst 0, 1) := by decide +kernel
theorem d_Cu_settle_27 : decode b_Cu_settle 27 = .ok (.dup2, 1) := by decide +kernel
theorem d_Cu_settle_28 : decode b_Cu_settle 28 = .ok (.laload, 1) := by decide +kernel
theorem d_Cu_settle_29 : decode b_Cu_settle 29 = .ok (.lload_n 2, 1) := by decide +kernel
theorem d_Cu_settle_30 : decode b_Cu_settle 30 = .ok (.ldc2_w 121, 3) := by decide +kernel
theorem d_Cu_settle_33 : decode b_Cu_settle 33 = .ok (.lmul, 1) := by decide +kernel
theorem d_Cu_settle_34 : decode b_Cu_settle 34 = .ok (.ladd, 1) := by decide +kernel
theorem d_Cu_settle_35 : decode b_Cu_settle 35 = .ok (.lastore, 1) := by decide +kernel
theorem d_Cu_settle_36 : decode b_Cu_settle 36 = .ok (.aload_n 0, 1) := by decide +kernel
theorem d_Cu_settle_37 : decode b_Cu_settle 37 = .ok (.iconst 1, 1) := by decide +kernel
theorem d_Cu_settle_38 : decode b_Cu_settle 38 = .ok (.dup2, 1) := by decide +kernel
theorem d_Cu_settle_39 : decode b_Cu_settle 39 = .ok (.laload, 1) := by decide +kernel
theorem d_Cu_settle_40 : decode b_Cu_settle 40 = .ok (.lload_n 2, 1) := by decide +kernel
theorem d_Cu_settle_41 : decode b_Cu_settle 41 = .ok (.bipush 6, 2) := by decide +kernel
theorem d_Cu_settle_43 : decode b_Cu_settle 43 = .ok (.lshl, 1) := by decide +kernel
theorem d_Cu_settle_44 : decode b_Cu_settle 44 = .ok (.ladd, 1) := by decide +kernel
theorem d_Cu_settle_45 : decode b_Cu_settle 45 = .ok (.lastore, 1) := by decide +kernel
theorem d_Cu_settle_46 : decode b_Cu_settle 46 = .ok (.iconst 0, 1) := by decide +kernel
theorem d_Cu_settle_47 : decode b_Cu_settle 47 = .ok (.istore 4, 2) := by decide +kernel
theorem d_Cu_settle_49 : decode b_Cu_settle 49 = .ok (.iload 4, 2) := by decide +kernel
theorem d_Cu_settle_51 : decode b_Cu_settle 51 = .ok (.bipush 9, 2) := by decide +kernel
theorem d_Cu_settle_53 : decode b_Cu_settle 53 = .ok (.if_icmp .ge 35, 3) := by decide +kernel
theorem d_Cu_settle_56 : decode b_Cu_settle 56 = .ok (.aload_n 0, 1) := by decide +kernel
theorem d_Cu_settle_57 : decode b_Cu_settle 57 = .ok (.iload 4, 2) := by decide +kernel
theorem d_Cu_settle_59 : decode b_Cu_settle 59 = .ok (.iconst 1, 1) := by decide +kernel
theorem d_Cu_settle_60 : decode b_Cu_settle 60 = .ok (.iadd, 1) := by decide +kernel
theorem d_Cu_settle_61 : decode b_Cu_settle 61 = .ok (.dup2, 1) := by decide +kernel
theorem d_Cu_settle_62 : decode b_Cu_settle 62 = .ok (.laload, 1) := by decide +kernel
theorem d_Cu_settle_63 : decode b_Cu_settle 63 = .ok (.aload_n 0, 1) := by decide +kernel
theorem d_Cu_settle_64 : decode b_Cu_settle 64 = .ok (.iload 4, 2) := by decide +kernel
theorem d_Cu_settle_66 : decode b_Cu_settle 66 = .ok (.laload, 1) := by decide +kernel
theorem d_Cu_settle_67 : decode b_Cu_settle 67 = .ok (.bipush 26, 2) := by decide +kernel
theorem d_Cu_settle_69 : decode b_Cu_settle 69 = .ok (.lshr, 1) := by decide +kernel
theorem d_Cu_settle_70 : decode b_Cu_settle 70 = .ok (.ladd, 1) := by decide +kernel
theorem d_Cu_settle_71 : decode b_Cu_settle 71 = .ok (.lastore, 1) := by decide +kernel
theorem d_Cu_settle_72 : decode b_Cu_settle 72 = .ok (.aload_n 0, 1) := by decide +kernel
theorem d_Cu_settle_73 : decode b_Cu_settle 73 = .ok (.iload 4, 2) := by decide +kernel
theorem d_Cu_settle_75 : decode b_Cu_settle 75 = .ok (.dup2, 1) := by decide +kernel
theorem d_Cu_settle_76 : decode b_Cu_settle 76 = .ok (.laload, 1) := by decide +kernel
theorem d_Cu_settle_77 : decode b_Cu_settle 77 = .ok (.ldc2_w 85, 3) := by decide +kernel
theorem d_Cu_settle_80 : decode b_Cu_settle 80 = .ok (.land, 1) := by decide +kernel
theorem d_Cu_settle_81 : decode b_Cu_settle 81 = .ok (.lastore, 1) := by decide +kernel
theorem d_Cu_settle_82 : decode b_Cu_settle 82 = .ok (.iinc 4 1, 3) := by decide +kernel
theorem d_Cu_settle_85 : decode b_Cu_settle 85 = .ok (.goto (-36), 3) := by decide +kernel
theorem d_Cu_settle_88 : decode b_Cu_settle 88 = .ok (.iinc 1 1, 3) := by decide +kernel
theorem d_Cu_settle_91 : decode b_Cu_settle 91 = .ok (.goto (-89), 3) := by decide +kernel
theorem d_Cu_settle_94 : decode b_Cu_settle 94 = .ok (.aload_n 0, 1) := by decide +kernel
theorem d_Cu_settle_95 : decode b_Cu_settle 95 = .ok (.bipush 9, 2) := by decide +kernel
theorem d_Cu_settle_97 : decode b_Cu_settle 97 = .ok (.laload, 1) := by decide +kernel
theorem d_Cu_settle_98 : decode b_Cu_settle 98 = .ok (.ldc2_w 119, 3) := by decide +kernel
theorem d_Cu_settle_101 : decode b_Cu_settle 101 = .ok (.lcmp, 1) := by decide +kernel
theorem d_Cu_settle_102 : decode b_Cu_settle 102 = .ok (.ifCond .ne 9, 3) := by decide +kernel
theorem d_Cu_settle_105 : decode b_Cu_settle 105 = .ok (.ldc2_w 85, 3) := by decide +kernel
theorem d_Cu_settle_108 : decode b_Cu_settle 108 = .ok (.goto 4, 3) := by decide +kernel
theorem d_Cu_settle_111 : decode b_Cu_settle 111 = .ok (.lconst 0, 1) := by decide +kernel
theorem d_Cu_settle_112 : decode b_Cu_settle 112 = .ok (.lstore_n 1, 1) := by decide +kernel
theorem d_Cu_settle_113 : decode b_Cu_settle 113 = .ok (.iconst 2, 1) := by decide +kernel
theorem d_Cu_settle_114 : decode b_Cu_settle 114 = .ok (.istore_n 3, 1) := by decide +kernel
theorem d_Cu_settle_115 : decode b_Cu_settle 115 = .ok (.iload_n 3, 1) := by decide +kernel
theorem d_Cu_settle_116 : decode b_Cu_settle 116 = .ok (.bipush 9, 2) := by decide +kernel
theorem d_Cu_settle_118 : decode b_Cu_settle 118 = .ok (.if_icmp .ge 15, 3) := by decide +kernel
theorem d_Cu_settle_121 : decode b_Cu_settle 121 = .ok (.lload_n 1, 1) := by decide +kernel
theorem d_Cu_settle_122 : decode b_Cu_settle 122 = .ok (.aload_n 0, 1) := by decide +kernel
theorem d_Cu_settle_123 : decode b_Cu_settle 123 = .ok (.iload_n 3, 1) := by decide +kernel
theorem d_Cu_settle_124 : decode b_Cu_settle 124 = .ok (.laload, 1) := by decide +kernel
theorem d_Cu_settle_125 : decode b_Cu_settle 125 = .ok (.land, 1) := by decide +kernel
theorem d_Cu_settle_126 : decode b_Cu_settle 126 = .ok (.lstore_n 1, 1) := by decide +kernel
theorem d_Cu_settle_127 : decode b_Cu_settle 127 = .ok (.iinc 3 1, 3) := by decide +kernel
theorem d_Cu_settle_130 : decode b_Cu_settle 130 = .ok (.goto (-15), 3) := by decide +kernel
theorem d_Cu_settle_133 : decode b_Cu_settle 133 = .ok (.aload_n 0, 1) := by decide +kernel
theorem d_Cu_settle_134 : decode b_Cu_settle 134 = .ok (.iconst 0, 1) := by decide +kernel
theorem d_Cu_settle_135 : decode b_Cu_settle 135 = .ok (.laload, 1) := by decide +kernel
theorem d_Cu_settle_136 : decode b_Cu_settle 136 = .ok (.ldc2_w 121, 3) := by decide +kernel
theorem d_Cu_settle_139 : decode b_Cu_settle 139 = .ok (.ladd, 1) := by decide +kernel
theorem d_Cu_settle_140 : decode b_Cu_settle 140 = .ok (.lstore_n 3, 1) := by decide +kernel
theorem d_Cu_settle_141 : decode b_Cu_settle 141 = .ok (.aload_n 0, 1) := by decide +kernel
theorem d_Cu_settle_142 : decode b_Cu_settle 142 = .ok (.iconst 1, 1) := by decide +kernel
theorem d_Cu_settle_143 : decode b_Cu_settle 143 = .ok (.laload, 1) := by decide +kernel
theorem d_Cu_settle_144 : decode b_Cu_settle 144 = .ok (.ldc2_w 123, 3) := by decide +kernel
theorem d_Cu_settle_147 : decode b_Cu_settle 147 = .ok (.ladd, 1) := by decide +kernel
theorem d_Cu_settle_148 : decode b_Cu_settle 148 = .ok (.lload_n 3, 1) := by decide +kernel
theorem d_Cu_settle_149 : decode b_Cu_settle 149 = .ok (.bipush 26, 2) := by decide +kernel
theorem d_Cu_settle_151 : decode b_Cu_settle 151 = .ok (.lshr, 1) := by decide +kernel
theorem d_Cu_settle_152 : decode b_Cu_settle 152 = .ok (.ladd, 1) := by decide +kernel
theorem d_Cu_settle_153 : decode b_Cu_settle 153 = .ok (.lstore 5, 2) := by decide +kernel
theorem d_Cu_settle_155 : decode b_Cu_settle 155 = .ok (.lload_n 1, 1) := by decide +kernel
theorem d_Cu_settle_156 : decode b_Cu_settle 156 = .ok (.ldc2_w 85, 3) := by decide +kernel
theorem d_Cu_settle_159 : decode b_Cu_settle 159 = .ok (.lcmp, 1) := by decide +kernel
theorem d_Cu_settle_160 : decode b_Cu_settle 160 = .ok (.ifCond .ne 50, 3) := by decide +kernel
theorem d_Cu_settle_163 : decode b_Cu_settle 163 = .ok (.lload 5, 2) := by decide +kernel
theorem d_Cu_settle_165 : decode b_Cu_settle 165 = .ok (.ldc2_w 85, 3) := by decide +kernel
theorem d_Cu_settle_168 : decode b_Cu_settle 168 = .ok (.lcmp, 1) := by decide +kernel
theorem d_Cu_settle_169 : decode b_Cu_settle 169 = .ok (.ifCond .le 41, 3) := by decide +kernel
theorem d_Cu_settle_172 : decode b_Cu_settle 172 = .ok (.iconst 2, 1) := by decide +kernel
theorem d_Cu_settle_173 : decode b_Cu_settle 173 = .ok (.istore 7, 2) := by decide +kernel
theorem d_Cu_settle_175 : decode b_Cu_settle 175 = .ok (.iload 7, 2) := by decide +kernel
theorem d_Cu_settle_177 : decode b_Cu_settle 177 = .ok (.bipush 10, 2) := by decide +kernel
theorem d_Cu_settle_179 : decode b_Cu_settle 179 = .ok (.if_icmp .ge 14, 3) := by decide +kernel
theorem d_Cu_settle_182 : decode b_Cu_settle 182 = .ok (.aload_n 0, 1) := by decide +kernel
theorem d_Cu_settle_183 : decode b_Cu_settle 183 = .ok (.iload 7, 2) := by decide +kernel
theorem d_Cu_settle_185 : decode b_Cu_settle 185 = .ok (.lconst 0, 1) := by decide +kernel
theorem d_Cu_settle_186 : decode b_Cu_settle 186 = .ok (.lastore, 1) := by decide +kernel
theorem d_Cu_settle_187 : decode b_Cu_settle 187 = .ok (.iinc 7 1, 3) := by decide +kernel
theorem d_Cu_settle_190 : decode b_Cu_settle 190 = .ok (.goto (-15), 3) := by decide +kernel
theorem d_Cu_settle_193 : decode b_Cu_settle 193 = .ok (.aload_n 0, 1) := by decide +kernel
theorem d_Cu_settle_194 : decode b_Cu_settle 194 = .ok (.iconst 1, 1) := by decide +kernel
theorem d_Cu_settle_195 : decode b_Cu_settle 195 = .ok (.lload 5, 2) := by decide +kernel
theorem d_Cu_settle_197 : decode b_Cu_settle 197 = .ok (.ldc2_w 85, 3) := by decide +kernel
theorem d_Cu_settle_200 : decode b_Cu_settle 200 = .ok (.land, 1) := by decide +kernel
theorem d_Cu_settle_201 : decode b_Cu_settle 201 = .ok (.lastore, 1) := by decide +kernel
theorem d_Cu_settle_202 : decode b_Cu_settle 202 = .ok (.aload_n 0, 1) := by decide +kernel
theorem d_Cu_settle_203 : decode b_Cu_settle 203 = .ok (.iconst 0, 1) := by decide +kernel
theorem d_Cu_settle_204 : decode b_Cu_settle 204 = .ok (.lload_n 3, 1) := by decide +kernel
theorem d_Cu_settle_205 : decode b_Cu_settle 205 = .ok (.ldc2_w 85, 3) := by decide +kernel
theorem d_Cu_settle_208 : decode b_Cu_settle 208 = .ok (.land, 1) := by decide +kernel
theorem d_Cu_settle_209 : decode b_Cu_settle 209 = .ok (.lastore, 1) := by decide +kernel
theorem d_Cu_settle_210 : decode b_Cu_settle 210 = .ok (.return_, 1) := by decide +kernel
abbrev rm_Cu_settle : Room := { frames := 0, cells := 0, slots := 0, locals := 0 }
abbrev q_Cu_settle (D : va_G) (cy : Nat → ClassId) (A : Nat → Prop) (b0 : Nat) (res : (Nat → Int64)) : Array Value → State → Outcome → State → Prop := va_Qv (fun (_ : Unit) => True) (fun _ t => Po D cy A [(b0, .inl (cy 2, 10, .inr (.inl res)))] t) A
def I_Cu_settle_175 (p : Program) (l : Launch) (e : Env) (s : State) (m : MethodId) (args : Array Value) (below : List Frame) (meth : Method) (c : Code) (D : va_G) (cy : Nat → ClassId) (A : Nat → Prop) (ad : Nat → Nat) (b0 : Nat) (k : Int64 → Int64 → Int32 → (Nat → Int64) → Option ((Nat → Int64))) : Prop :=
  ∀ (x3 : Int64) (x5 : Int64) (x7 : Int32) (u0 : Nat → Int64) (res : (Nat → Int64)), k x3 x5 x7 u0 = some res → ∀ (H : Heap) (locs : List Loc) (ls : Array Slot), va_P D classes [(b0, .inl (cy 2, 10, .inr (.inl u0)))] H → va_D A [(b0, .inl (cy 2, 10, .inr (.inl u0)))] → va_S A s.heap H locs → lv_has ls 8 [(0, .ref b0), (3, .long x3), (5, .long x5), (7, .int x7)] → W p l e rm_Cu_settle s m args below meth c H locs 0 0 (MQ below (q_Cu_settle D cy A b0 res) args s 0 0 A) (F0 m 175 ls [])
def I_Cu_settle_115 (p : Program) (l : Launch) (e : Env) (s : State) (m : MethodId) (args : Array Value) (below : List Frame) (meth : Method) (c : Code) (D : va_G) (cy : Nat → ClassId) (A : Nat → Prop) (ad : Nat → Nat) (b0 : Nat) (k : Int64 → Int32 → (Nat → Int64) → Option ((Nat → Int64))) : Prop :=
  ∀ (x1 : Int64) (x3 : Int32) (u0 : Nat → Int64) (res : (Nat → Int64)), k x1 x3 u0 = some res → ∀ (H : Heap) (locs : List Loc) (ls : Array Slot), va_P D classes [(b0, .inl (cy 2, 10, .inr (.inl u0)))] H → va_D A [(b0, .inl (cy 2, 10, .inr (.inl u0)))] → va_S A s.heap H locs → lv_has ls 8 [(0, .ref b0), (1, .long x1), (3, .int x3)] → W p l e rm_Cu_settle s m args below meth c H locs 0 0 (MQ below (q_Cu_settle D cy A b0 res) args s 0 0 A) (F0 m 115 ls [])
def I_Cu_settle_112 (p : Program) (l : Launch) (e : Env) (s : State) (m : MethodId) (args : Array Value) (below : List Frame) (meth : Method) (c : Code) (D : va_G) (cy : Nat → ClassId) (A : Nat → Prop) (ad : Nat → Nat) (b0 : Nat) (k : Int64 → (Nat → Int64) → Option ((Nat → Int64))) : Prop :=
  ∀ (y0 : Int64) (u0 : Nat → Int64) (res : (Nat → Int64)), k y0 u0 = some res → ∀ (H : Heap) (locs : List Loc) (ls : Array Slot), va_P D classes [(b0, .inl (cy 2, 10, .inr (.inl u0)))] H → va_D A [(b0, .inl (cy 2, 10, .inr (.inl u0)))] → va_S A s.heap H locs → lv_has ls 8 [(0, .ref b0)] → W p l e rm_Cu_settle s m args below meth c H locs 0 0 (MQ below (q_Cu_settle D cy A b0 res) args s 0 0 A) (F0 m 112 ls [.long y0])
def I_Cu_settle_49 (p : Program) (l : Launch) (e : Env) (s : State) (m : MethodId) (args : Array Value) (below : List Frame) (meth : Method) (c : Code) (D : va_G) (cy : Nat → ClassId) (A : Nat → Prop) (ad : Nat → Nat) (b0 : Nat) (k : Int32 → Int32 → (Nat → Int64) → Option ((Nat → Int64))) : Prop :=
  ∀ (x1 : Int32) (x4 : Int32) (u0 : Nat → Int64) (res : (Nat → Int64)), k x1 x4 u0 = some res → ∀ (H : Heap) (locs : List Loc) (ls : Array Slot), va_P D classes [(b0, .inl (cy 2, 10, .inr (.inl u0)))] H → va_D A [(b0, .inl (cy 2, 10, .inr (.inl u0)))] → va_S A s.heap H locs → lv_has ls 8 [(0, .ref b0), (1, .int x1), (4, .int x4)] → W p l e rm_Cu_settle s m args below meth c H locs 0 0 (MQ below (q_Cu_settle D cy A b0 res) args s 0 0 A) (F0 m 49 ls [])
def I_Cu_settle_2 (p : Program) (l : Launch) (e : Env) (s : State) (m : MethodId) (args : Array Value) (below : List Frame) (meth : Method) (c : Code) (D : va_G) (cy : Nat → ClassId) (A : Nat → Prop) (ad : Nat → Nat) (b0 : Nat) (k : Int32 → (Nat → Int64) → Option ((Nat → Int64))) : Prop :=
  ∀ (x1 : Int32) (u0 : Nat → Int64) (res : (Nat → Int64)), k x1 u0 = some res → ∀ (H : Heap) (locs : List Loc) (ls : Array Slot), va_P D classes [(b0, .inl (cy 2, 10, .inr (.inl u0)))] H → va_D A [(b0, .inl (cy 2, 10, .inr (.inl u0)))] → va_S A s.heap H locs → lv_has ls 8 [(0, .ref b0), (1, .int x1)] → W p l e rm_Cu_settle s m args below meth c H locs 0 0 (MQ below (q_Cu_settle D cy A b0 res) args s 0 0 A) (F0 m 2 ls [])
def I_Cu_settle_e (p : Program) (l : Launch) (e : Env) (s : State) (m : MethodId) (args : Array Value) (below : List Frame) (meth : Method) (c : Code) (D : va_G) (cy : Nat → ClassId) (A : Nat → Prop) (ad : Nat → Nat) (b0 : Nat) (k : (Nat → Int64) → Option ((Nat → Int64))) : Prop :=
  ∀ (u0 : Nat → Int64) (res : (Nat → Int64)), k u0 = some res → ∀ (H : Heap) (locs : List Loc) (ls : Array Slot), va_P D classes [(b0, .inl (cy 2, 10, .inr (.inl u0)))] H → va_D A [(b0, .inl (cy 2, 10, .inr (.inl u0)))] → va_S A s.heap H locs → lv_has ls 8 [(0, .ref b0)] → W p l e rm_Cu_settle s m args below meth c H locs 0 0 (MQ below (q_Cu_settle D cy A b0 res) args s 0 0 A) (F0 m 0 ls [])
set_option maxHeartbeats 8000000 in
set_option maxRecDepth 100000 in
theorem wb_Cu_settle_175 {p : Program} {l : Launch} {e : Env} {s : State} {m : MethodId} {args : Array Value} {below : List Frame} {meth : Method} {c : Code} {D : va_G} {cy : Nat → ClassId} {A : Nat → Prop} {ad : Nat → Nat} {b0 : Nat} {fu : Nat} {k_175 : Int64 → Int64 → Int32 → (Nat → Int64) → Option ((Nat → Int64))} (F : Fx p s m args meth c b_Cu_settle 8 "CoinKeeper$Curve" "settle" none D cy ad A) (hk_175 : I_Cu_settle_175 p l e s m args below meth c D cy A ad b0 k_175) : I_Cu_settle_175 p l e s m args below meth c D cy A ad b0 (xb_Cu_settle_175 fu k_175) := by
  obtain ⟨hx, hb, hr, hml, hown, hts, hlocks, hK, hA, hSt, hnm, hex⟩ := id F
  intro x3 x5 x7 u0 res hf H locs ls hP hD hS hl
  unfold xb_Cu_settle_175 at hf
  refine lv_iload hx hb d_Cu_settle_175 (lv_at hl 3 rfl) ?_
  refine lv_bipush (v := 10) hx hb d_Cu_settle_177 (by decide) ?_
  refine lv_icmp_ge (tgt := 193) hx hb d_Cu_settle_179 (by decide) (fun cx => ?_) (fun cx => ?_)
  · have hf := ifp cx hf
    refine lv_aload_n hx hb d_Cu_settle_193 rfl (lv_at hl 0 rfl) ?_
    refine lv_iconst (v := 1) hx hb d_Cu_settle_194 (by decide) ?_
    refine lv_lload hx hb d_Cu_settle_195 (lv_at hl 2 rfl) ?_
    refine lv_ldc2 (v := 67108863) hx hb hown (hts _ gw_1075) d_Cu_settle_197 ?_
    refine lv_land hx hb d_Cu_settle_200 ?_
    refine lv_topl (fun v1 ev => ?_)
    have hf := bn ev hf
    clear ev
    refine va_last hx hb hK hP hD hS 0 2 rfl rfl (inb_in (by decide)) d_Cu_settle_201 (fun H locs hP hD hS => ?_)
    obtain ⟨f2, ev, hf⟩ := bne hf
    have hP : va_P D classes [(b0, .inl (cy 2, 10, .inr (.inl f2)))] H := by rw [ev]; exact hP
    have hD : va_D A [(b0, .inl (cy 2, 10, .inr (.inl f2)))] := by rw [ev]; exact hD
    clear ev
    refine lv_aload_n hx hb d_Cu_settle_202 rfl (lv_at hl 0 rfl) ?_
    refine lv_iconst (v := 0) hx hb d_Cu_settle_203 (by decide) ?_
    refine lv_lload_n hx hb d_Cu_settle_204 rfl (lv_at hl 1 rfl) ?_
    refine lv_ldc2 (v := 67108863) hx hb hown (hts _ gw_1075) d_Cu_settle_205 ?_
    refine lv_land hx hb d_Cu_settle_208 ?_
    refine lv_topl (fun v3 ev => ?_)
    have hf := bn ev hf
    clear ev
    refine va_last hx hb hK hP hD hS 0 2 rfl rfl (inb_in (by decide)) d_Cu_settle_209 (fun H locs hP hD hS => ?_)
    obtain ⟨f4, ev, hf⟩ := bne hf
    have hP : va_P D classes [(b0, .inl (cy 2, 10, .inr (.inl f4)))] H := by rw [ev]; exact hP
    have hD : va_D A [(b0, .inl (cy 2, 10, .inr (.inl f4)))] := by rw [ev]; exact hD
    clear ev
    obtain rfl := Option.some.inj hf
    exact q_rv hx hb hr hlocks hK hP hD hS d_Cu_settle_210
  · have hf := ifn cx hf
    refine lv_aload_n hx hb d_Cu_settle_182 rfl (lv_at hl 0 rfl) ?_
    refine lv_iload hx hb d_Cu_settle_183 (lv_at hl 3 rfl) ?_
    refine lv_lconst (v := 0) hx hb d_Cu_settle_185 (by decide) ?_
    obtain ⟨hg, hf⟩ := gdp hf
    refine va_last hx hb hK hP hD hS 0 2 rfl rfl (inb_in hg) d_Cu_settle_186 (fun H locs hP hD hS => ?_)
    obtain ⟨f5, ev, hf⟩ := bne hf
    have hP : va_P D classes [(b0, .inl (cy 2, 10, .inr (.inl f5)))] H := by rw [ev]; exact hP
    have hD : va_D A [(b0, .inl (cy 2, 10, .inr (.inl f5)))] := by rw [ev]; exact hD
    clear ev
    obtain ⟨v6, ev, hf⟩ := bne hf
    refine lv_iinc (v := v6) (lv' := [(7, .int v6), (0, .ref b0), (3, .long x3), (5, .long x5)]) hx hb d_Cu_settle_187 hl (k := 3) rfl (by rw [ev]; rfl) (by decide) rfl (fun ls hl => ?_)
    clear ev
    refine lv_goto (tgt := 175) hx hb d_Cu_settle_190 (by decide) ?_
    exact hk_175 _ _ _ _ _ hf _ _ _ hP hD hS (lv_sub hl [1, 2, 3, 0] rfl)
theorem w_Cu_settle_175 {p : Program} {l : Launch} {e : Env} {s : State} {m : MethodId} {args : Array Value} {below : List Frame} {meth : Method} {c : Code} {D : va_G} {cy : Nat → ClassId} {A : Nat → Prop} {ad : Nat → Nat} {b0 : Nat} {fu : Nat} (F : Fx p s m args meth c b_Cu_settle 8 "CoinKeeper$Curve" "settle" none D cy ad A) : ∀ n : Nat, I_Cu_settle_175 p l e s m args below meth c D cy A ad b0 (x_Cu_settle_175 fu n)
  | 0 => fun _ _ _ _ _ hf => nomatch (show (none : Option ((Nat → Int64))) = some _ from hf)
  | n + 1 => wb_Cu_settle_175 F (w_Cu_settle_175 F n)
set_option maxHeartbeats 8000000 in
set_option maxRecDepth 100000 in
theorem wb_Cu_settle_115 {p : Program} {l : Launch} {e : Env} {s : State} {m : MethodId} {args : Array Value} {below : List Frame} {meth : Method} {c : Code} {D : va_G} {cy : Nat → ClassId} {A : Nat → Prop} {ad : Nat → Nat} {b0 : Nat} {fu : Nat} {k_115 : Int64 → Int32 → (Nat → Int64) → Option ((Nat → Int64))} (F : Fx p s m args meth c b_Cu_settle 8 "CoinKeeper$Curve" "settle" none D cy ad A) (hk_115 : I_Cu_settle_115 p l e s m args below meth c D cy A ad b0 k_115) : I_Cu_settle_115 p l e s m args below meth c D cy A ad b0 (xb_Cu_settle_115 fu k_115) := by
  obtain ⟨hx, hb, hr, hml, hown, hts, hlocks, hK, hA, hSt, hnm, hex⟩ := id F
  intro x1 x3 u0 res hf H locs ls hP hD hS hl
  unfold xb_Cu_settle_115 at hf
  refine lv_iload_n hx hb d_Cu_settle_115 rfl (lv_at hl 2 rfl) ?_
  refine lv_bipush (v := 9) hx hb d_Cu_settle_116 (by decide) ?_
  refine lv_icmp_ge (tgt := 133) hx hb d_Cu_settle_118 (by decide) (fun cx => ?_) (fun cx => ?_)
  · have hf := ifp cx hf
    refine lv_aload_n hx hb d_Cu_settle_133 rfl (lv_at hl 0 rfl) ?_
    refine lv_iconst (v := 0) hx hb d_Cu_settle_134 (by decide) ?_
    refine va_lald hx hb hK hP 0 2 rfl rfl (inb_in (by decide)) d_Cu_settle_135 ?_
    refine lv_topl (fun v1 ev => ?_)
    have hf := bn ev hf
    clear ev
    refine lv_ldc2 (v := 977) hx hb hown (hts _ gw_1084) d_Cu_settle_136 ?_
    refine lv_ladd hx hb d_Cu_settle_139 ?_
    refine lv_topl (fun v2 ev => ?_)
    have hf := bn ev hf
    clear ev
    refine lv_lstore_n (lv' := [(3, .long v2), (0, .ref b0), (1, .long x1)]) hx hb d_Cu_settle_140 rfl hl (by decide) rfl (fun ls hl => ?_)
    refine lv_aload_n hx hb d_Cu_settle_141 rfl (lv_at hl 1 rfl) ?_
    refine lv_iconst (v := 1) hx hb d_Cu_settle_142 (by decide) ?_
    refine va_lald hx hb hK hP 0 2 rfl rfl (inb_in (by decide)) d_Cu_settle_143 ?_
    refine lv_topl (fun v3 ev => ?_)
    have hf := bn ev hf
    clear ev
    refine lv_ldc2 (v := 64) hx hb hown (hts _ gw_1096) d_Cu_settle_144 ?_
    refine lv_ladd hx hb d_Cu_settle_147 ?_
    refine lv_topl (fun v4 ev => ?_)
    have hf := bn ev hf
    clear ev
    refine lv_lload_n hx hb d_Cu_settle_148 rfl (lv_at hl 0 rfl) ?_
    refine lv_bipush (v := 26) hx hb d_Cu_settle_149 (by decide) ?_
    refine lv_lshr hx hb d_Cu_settle_151 rfl ?_
    refine lv_ladd hx hb d_Cu_settle_152 ?_
    refine lv_topl (fun v5 ev => ?_)
    have hf := bn ev hf
    clear ev
    refine lv_lstore (lv' := [(5, .long v5), (3, .long v2), (0, .ref b0), (1, .long x1)]) hx hb d_Cu_settle_153 hl (by decide) rfl (fun ls hl => ?_)
    refine lv_lload_n hx hb d_Cu_settle_155 rfl (lv_at hl 3 rfl) ?_
    refine lv_ldc2 (v := 67108863) hx hb hown (hts _ gw_1075) d_Cu_settle_156 ?_
    refine W.lcmp hx hb d_Cu_settle_159 ?_
    refine lv_if_ne (tgt := 210) hx hb d_Cu_settle_160 (by decide) (fun cx => ?_) (fun cx => ?_)
    · have hf := ifn cx hf
      obtain rfl := Option.some.inj hf
      exact q_rv hx hb hr hlocks hK hP hD hS d_Cu_settle_210
    · have hf := ifp cx hf
      refine lv_lload hx hb d_Cu_settle_163 (lv_at hl 0 rfl) ?_
      refine lv_ldc2 (v := 67108863) hx hb hown (hts _ gw_1075) d_Cu_settle_165 ?_
      refine W.lcmp hx hb d_Cu_settle_168 ?_
      refine lv_if_le (tgt := 210) hx hb d_Cu_settle_169 (by decide) (fun cx => ?_) (fun cx => ?_)
      · have hf := ifp cx hf
        obtain rfl := Option.some.inj hf
        exact q_rv hx hb hr hlocks hK hP hD hS d_Cu_settle_210
      · have hf := ifn cx hf
        refine lv_iconst (v := 2) hx hb d_Cu_settle_172 (by decide) ?_
        refine lv_istore (lv' := [(7, .int (2 : Int32)), (5, .long v5), (3, .long v2), (0, .ref b0), (1, .long x1)]) hx hb d_Cu_settle_173 hl (by decide) rfl (fun ls hl => ?_)
        exact w_Cu_settle_175 F fu _ _ _ _ _ hf _ _ _ hP hD hS (lv_sub hl [3, 2, 1, 0] rfl)
  · have hf := ifn cx hf
    refine lv_lload_n hx hb d_Cu_settle_121 rfl (lv_at hl 1 rfl) ?_
    refine lv_aload_n hx hb d_Cu_settle_122 rfl (lv_at hl 0 rfl) ?_
    refine lv_iload_n hx hb d_Cu_settle_123 rfl (lv_at hl 2 rfl) ?_
    obtain ⟨hg, hf⟩ := gdp hf
    refine va_lald hx hb hK hP 0 2 rfl rfl (inb_in hg) d_Cu_settle_124 ?_
    refine lv_topl (fun v6 ev => ?_)
    have hf := bn ev hf
    clear ev
    refine lv_land hx hb d_Cu_settle_125 ?_
    refine lv_topl (fun v7 ev => ?_)
    have hf := bn ev hf
    clear ev
    refine lv_lstore_n (lv' := [(1, .long v7), (0, .ref b0), (3, .int x3)]) hx hb d_Cu_settle_126 rfl hl (by decide) rfl (fun ls hl => ?_)
    obtain ⟨v8, ev, hf⟩ := bne hf
    refine lv_iinc (v := v8) (lv' := [(3, .int v8), (1, .long v7), (0, .ref b0)]) hx hb d_Cu_settle_127 hl (k := 2) rfl (by rw [ev]; rfl) (by decide) rfl (fun ls hl => ?_)
    clear ev
    refine lv_goto (tgt := 115) hx hb d_Cu_settle_130 (by decide) ?_
    exact hk_115 _ _ _ _ hf _ _ _ hP hD hS (lv_sub hl [2, 1, 0] rfl)
theorem w_Cu_settle_115 {p : Program} {l : Launch} {e : Env} {s : State} {m : MethodId} {args : Array Value} {below : List Frame} {meth : Method} {c : Code} {D : va_G} {cy : Nat → ClassId} {A : Nat → Prop} {ad : Nat → Nat} {b0 : Nat} {fu : Nat} (F : Fx p s m args meth c b_Cu_settle 8 "CoinKeeper$Curve" "settle" none D cy ad A) : ∀ n : Nat, I_Cu_settle_115 p l e s m args below meth c D cy A ad b0 (x_Cu_settle_115 fu n)
  | 0 => fun _ _ _ _ hf => nomatch (show (none : Option ((Nat → Int64))) = some _ from hf)
  | n + 1 => wb_Cu_settle_115 F (w_Cu_settle_115 F n)
set_option maxHeartbeats 8000000 in
set_option maxRecDepth 100000 in
theorem wb_Cu_settle_112 {p : Program} {l : Launch} {e : Env} {s : State} {m : MethodId} {args : Array Value} {below : List Frame} {meth : Method} {c : Code} {D : va_G} {cy : Nat → ClassId} {A : Nat → Prop} {ad : Nat → Nat} {b0 : Nat} {fu : Nat} (F : Fx p s m args meth c b_Cu_settle 8 "CoinKeeper$Curve" "settle" none D cy ad A) : I_Cu_settle_112 p l e s m args below meth c D cy A ad b0 (xb_Cu_settle_112 fu) := by
  obtain ⟨hx, hb, hr, hml, hown, hts, hlocks, hK, hA, hSt, hnm, hex⟩ := id F
  intro y0 u0 res hf H locs ls hP hD hS hl
  unfold xb_Cu_settle_112 at hf
  refine lv_lstore_n (lv' := [(1, .long y0), (0, .ref b0)]) hx hb d_Cu_settle_112 rfl hl (by decide) rfl (fun ls hl => ?_)
  refine lv_iconst (v := 2) hx hb d_Cu_settle_113 (by decide) ?_
  refine lv_istore_n (lv' := [(3, .int (2 : Int32)), (1, .long y0), (0, .ref b0)]) hx hb d_Cu_settle_114 rfl hl (by decide) rfl (fun ls hl => ?_)
  exact w_Cu_settle_115 F fu _ _ _ _ hf _ _ _ hP hD hS (lv_sub hl [2, 1, 0] rfl)
set_option maxHeartbeats 8000000 in
set_option maxRecDepth 100000 in
theorem wb_Cu_settle_49 {p : Program} {l : Launch} {e : Env} {s : State} {m : MethodId} {args : Array Value} {below : List Frame} {meth : Method} {c : Code} {D : va_G} {cy : Nat → ClassId} {A : Nat → Prop} {ad : Nat → Nat} {b0 : Nat} {fu : Nat} {k_2 : Int32 → (Nat → Int64) → Option ((Nat → Int64))} {k_49 : Int32 → Int32 → (Nat → Int64) → Option ((Nat → Int64))} (F : Fx p s m args meth c b_Cu_settle 8 "CoinKeeper$Curve" "settle" none D cy ad A) (hk_2 : I_Cu_settle_2 p l e s m args below meth c D cy A ad b0 k_2) (hk_49 : I_Cu_settle_49 p l e s m args below meth c D cy A ad b0 k_49) : I_Cu_settle_49 p l e s m args below meth c D cy A ad b0 (xb_Cu_settle_49 fu k_2 k_49) := by
  obtain ⟨hx, hb, hr, hml, hown, hts, hlocks, hK, hA, hSt, hnm, hex⟩ := id F
  intro x1 x4 u0 res hf H locs ls hP hD hS hl
  unfold xb_Cu_settle_49 at hf
  refine lv_iload hx hb d_Cu_settle_49 (lv_at hl 2 rfl) ?_
  refine lv_bipush (v := 9) hx hb d_Cu_settle_51 (by decide) ?_
  refine lv_icmp_ge (tgt := 88) hx hb d_Cu_settle_53 (by decide) (fun cx => ?_) (fun cx => ?_)
  · have hf := ifp cx hf
    obtain ⟨v1, ev, hf⟩ := bne hf
    refine lv_iinc (v := v1) (lv' := [(1, .int v1), (0, .ref b0), (4, .int x4)]) hx hb d_Cu_settle_88 hl (k := 1) rfl (by rw [ev]; rfl) (by decide) rfl (fun ls hl => ?_)
    clear ev
    refine lv_goto (tgt := 2) hx hb d_Cu_settle_91 (by decide) ?_
    exact hk_2 _ _ _ hf _ _ _ hP hD hS (lv_sub hl [1, 0] rfl)
  · have hf := ifn cx hf
    refine lv_aload_n hx hb d_Cu_settle_56 rfl (lv_at hl 0 rfl) ?_
    refine lv_iload hx hb d_Cu_settle_57 (lv_at hl 2 rfl) ?_
    refine lv_iconst (v := 1) hx hb d_Cu_settle_59 (by decide) ?_
    refine lv_iadd hx hb d_Cu_settle_60 ?_
    refine lv_topi (fun v2 ev => ?_)
    have hf := bn ev hf
    clear ev
    refine lv_dup2_11 hx hb d_Cu_settle_61 rfl rfl ?_
    obtain ⟨hg, hf⟩ := gdp hf
    refine va_lald hx hb hK hP 0 2 rfl rfl (inb_in hg) d_Cu_settle_62 ?_
    refine lv_topl (fun v3 ev => ?_)
    have hf := bn ev hf
    clear ev
    refine lv_aload_n hx hb d_Cu_settle_63 rfl (lv_at hl 0 rfl) ?_
    refine lv_iload hx hb d_Cu_settle_64 (lv_at hl 2 rfl) ?_
    obtain ⟨hg, hf⟩ := gdp hf
    refine va_lald hx hb hK hP 0 2 rfl rfl (inb_in hg) d_Cu_settle_66 ?_
    refine lv_topl (fun v4 ev => ?_)
    have hf := bn ev hf
    clear ev
    refine lv_bipush (v := 26) hx hb d_Cu_settle_67 (by decide) ?_
    refine lv_lshr hx hb d_Cu_settle_69 rfl ?_
    refine lv_ladd hx hb d_Cu_settle_70 ?_
    refine lv_topl (fun v5 ev => ?_)
    have hf := bn ev hf
    clear ev
    obtain ⟨hg, hf⟩ := gdp hf
    refine va_last hx hb hK hP hD hS 0 2 rfl rfl (inb_in hg) d_Cu_settle_71 (fun H locs hP hD hS => ?_)
    obtain ⟨f6, ev, hf⟩ := bne hf
    have hP : va_P D classes [(b0, .inl (cy 2, 10, .inr (.inl f6)))] H := by rw [ev]; exact hP
    have hD : va_D A [(b0, .inl (cy 2, 10, .inr (.inl f6)))] := by rw [ev]; exact hD
    clear ev
    refine lv_aload_n hx hb d_Cu_settle_72 rfl (lv_at hl 0 rfl) ?_
    refine lv_iload hx hb d_Cu_settle_73 (lv_at hl 2 rfl) ?_
    refine lv_dup2_11 hx hb d_Cu_settle_75 rfl rfl ?_
    obtain ⟨hg, hf⟩ := gdp hf
    refine va_lald hx hb hK hP 0 2 rfl rfl (inb_in hg) d_Cu_settle_76 ?_
    refine lv_topl (fun v7 ev => ?_)
    have hf := bn ev hf
    clear ev
    refine lv_ldc2 (v := 67108863) hx hb hown (hts _ gw_1075) d_Cu_settle_77 ?_
    refine lv_land hx hb d_Cu_settle_80 ?_
    refine lv_topl (fun v8 ev => ?_)
    have hf := bn ev hf
    clear ev
    obtain ⟨hg, hf⟩ := gdp hf
    refine va_last hx hb hK hP hD hS 0 2 rfl rfl (inb_in hg) d_Cu_settle_81 (fun H locs hP hD hS => ?_)
    obtain ⟨f9, ev, hf⟩ := bne hf
    have hP : va_P D classes [(b0, .inl (cy 2, 10, .inr (.inl f9)))] H := by rw [ev]; exact hP
    have hD : va_D A [(b0, .inl (cy 2, 10, .inr (.inl f9)))] := by rw [ev]; exact hD
    clear ev
    obtain ⟨v10, ev, hf⟩ := bne hf
    refine lv_iinc (v := v10) (lv' := [(4, .int v10), (0, .ref b0), (1, .int x1)]) hx hb d_Cu_settle_82 hl (k := 2) rfl (by rw [ev]; rfl) (by decide) rfl (fun ls hl => ?_)
    clear ev
    refine lv_goto (tgt := 49) hx hb d_Cu_settle_85 (by decide) ?_
    exact hk_49 _ _ _ _ hf _ _ _ hP hD hS (lv_sub hl [1, 2, 0] rfl)
theorem w_Cu_settle_49 {p : Program} {l : Launch} {e : Env} {s : State} {m : MethodId} {args : Array Value} {below : List Frame} {meth : Method} {c : Code} {D : va_G} {cy : Nat → ClassId} {A : Nat → Prop} {ad : Nat → Nat} {b0 : Nat} {fu : Nat} {k_2 : Int32 → (Nat → Int64) → Option ((Nat → Int64))} (F : Fx p s m args meth c b_Cu_settle 8 "CoinKeeper$Curve" "settle" none D cy ad A) (hk_2 : I_Cu_settle_2 p l e s m args below meth c D cy A ad b0 k_2) : ∀ n : Nat, I_Cu_settle_49 p l e s m args below meth c D cy A ad b0 (x_Cu_settle_49 fu k_2 n)
  | 0 => fun _ _ _ _ hf => nomatch (show (none : Option ((Nat → Int64))) = some _ from hf)
  | n + 1 => wb_Cu_settle_49 F hk_2 (w_Cu_settle_49 F hk_2 n)
set_option maxHeartbeats 8000000 in
set_option maxRecDepth 100000 in
theorem wb_Cu_settle_2 {p : Program} {l : Launch} {e : Env} {s : State} {m : MethodId} {args : Array Value} {below : List Frame} {meth : Method} {c : Code} {D : va_G} {cy : Nat → ClassId} {A : Nat → Prop} {ad : Nat → Nat} {b0 : Nat} {fu : Nat} {k_2 : Int32 → (Nat → Int64) → Option ((Nat → Int64))} (F : Fx p s m args meth c b_Cu_settle 8 "CoinKeeper$Curve" "settle" none D cy ad A) (hk_2 : I_Cu_settle_2 p l e s m args below meth c D cy A ad b0 k_2) : I_Cu_settle_2 p l e s m args below meth c D cy A ad b0 (xb_Cu_settle_2 fu k_2) := by
  obtain ⟨hx, hb, hr, hml, hown, hts, hlocks, hK, hA, hSt, hnm, hex⟩ := id F
  intro x1 u0 res hf H locs ls hP hD hS hl
  unfold xb_Cu_settle_2 at hf
  refine lv_iload_n hx hb d_Cu_settle_2 rfl (lv_at hl 1 rfl) ?_
  refine lv_iconst (v := 2) hx hb d_Cu_settle_3 (by decide) ?_
  refine lv_icmp_ge (tgt := 94) hx hb d_Cu_settle_4 (by decide) (fun cx => ?_) (fun cx => ?_)
  · have hf := ifp cx hf
    refine lv_aload_n hx hb d_Cu_settle_94 rfl (lv_at hl 0 rfl) ?_
    refine lv_bipush (v := 9) hx hb d_Cu_settle_95 (by decide) ?_
    refine va_lald hx hb hK hP 0 2 rfl rfl (inb_in (by decide)) d_Cu_settle_97 ?_
    refine lv_topl (fun v1 ev => ?_)
    have hf := bn ev hf
    clear ev
    refine lv_ldc2 (v := 4194303) hx hb hown (hts _ gw_1083) d_Cu_settle_98 ?_
    refine W.lcmp hx hb d_Cu_settle_101 ?_
    refine lv_if_ne (tgt := 111) hx hb d_Cu_settle_102 (by decide) (fun cx => ?_) (fun cx => ?_)
    · have hf := ifn cx hf
      refine lv_lconst (v := 0) hx hb d_Cu_settle_111 (by decide) ?_
      exact wb_Cu_settle_112 (fu := fu) F _ _ _ hf _ _ _ hP hD hS (lv_sub hl [0] rfl)
    · have hf := ifp cx hf
      refine lv_ldc2 (v := 67108863) hx hb hown (hts _ gw_1075) d_Cu_settle_105 ?_
      refine lv_goto (tgt := 112) hx hb d_Cu_settle_108 (by decide) ?_
      exact wb_Cu_settle_112 (fu := fu) F _ _ _ hf _ _ _ hP hD hS (lv_sub hl [0] rfl)
  · have hf := ifn cx hf
    refine lv_aload_n hx hb d_Cu_settle_7 rfl (lv_at hl 0 rfl) ?_
    refine lv_bipush (v := 9) hx hb d_Cu_settle_8 (by decide) ?_
    refine va_lald hx hb hK hP 0 2 rfl rfl (inb_in (by decide)) d_Cu_settle_10 ?_
    refine lv_topl (fun v2 ev => ?_)
    have hf := bn ev hf
    clear ev
    refine lv_bipush (v := 22) hx hb d_Cu_settle_11 (by decide) ?_
    refine lv_lshr hx hb d_Cu_settle_13 rfl ?_
    refine lv_topl (fun v3 ev => ?_)
    have hf := bn ev hf
    clear ev
    refine lv_lstore_n (lv' := [(2, .long v3), (0, .ref b0), (1, .int x1)]) hx hb d_Cu_settle_14 rfl hl (by decide) rfl (fun ls hl => ?_)
    refine lv_aload_n hx hb d_Cu_settle_15 rfl (lv_at hl 1 rfl) ?_
    refine lv_bipush (v := 9) hx hb d_Cu_settle_16 (by decide) ?_
    refine lv_dup2_11 hx hb d_Cu_settle_18 rfl rfl ?_
    refine va_lald hx hb hK hP 0 2 rfl rfl (inb_in (by decide)) d_Cu_settle_19 ?_
    refine lv_topl (fun v4 ev => ?_)
    have hf := bn ev hf
    clear ev
    refine lv_ldc2 (v := 4194303) hx hb hown (hts _ gw_1083) d_Cu_settle_20 ?_
    refine lv_land hx hb d_Cu_settle_23 ?_
    refine lv_topl (fun v5 ev => ?_)
    have hf := bn ev hf
    clear ev
    refine va_last hx hb hK hP hD hS 0 2 rfl rfl (inb_in (by decide)) d_Cu_settle_24 (fun H locs hP hD hS => ?_)
    obtain ⟨f6, ev, hf⟩ := bne hf
    have hP : va_P D classes [(b0, .inl (cy 2, 10, .inr (.inl f6)))] H := by rw [ev]; exact hP
    have hD : va_D A [(b0, .inl (cy 2, 10, .inr (.inl f6)))] := by rw [ev]; exact hD
    clear ev
    refine lv_aload_n hx hb d_Cu_settle_25 rfl (lv_at hl 1 rfl) ?_
    refine lv_iconst (v := 0) hx hb d_Cu_settle_26 (by decide) ?_
    refine lv_dup2_11 hx hb d_Cu_settle_27 rfl rfl ?_
    refine va_lald hx hb hK hP 0 2 rfl rfl (inb_in (by decide)) d_Cu_settle_28 ?_
    refine lv_topl (fun v7 ev => ?_)
    have hf := bn ev hf
    clear ev
    refine lv_lload_n hx hb d_Cu_settle_29 rfl (lv_at hl 0 rfl) ?_
    refine lv_ldc2 (v := 977) hx hb hown (hts _ gw_1084) d_Cu_settle_30 ?_
    refine lv_lmul hx hb d_Cu_settle_33 ?_
    refine lv_ladd hx hb d_Cu_settle_34 ?_
    refine lv_topl (fun v8 ev => ?_)
    have hf := bn ev hf
    clear ev
    refine va_last hx hb hK hP hD hS 0 2 rfl rfl (inb_in (by decide)) d_Cu_settle_35 (fun H locs hP hD hS => ?_)
    obtain ⟨f9, ev, hf⟩ := bne hf
    have hP : va_P D classes [(b0, .inl (cy 2, 10, .inr (.inl f9)))] H := by rw [ev]; exact hP
    have hD : va_D A [(b0, .inl (cy 2, 10, .inr (.inl f9)))] := by rw [ev]; exact hD
    clear ev
    refine lv_aload_n hx hb d_Cu_settle_36 rfl (lv_at hl 1 rfl) ?_
    refine lv_iconst (v := 1) hx hb d_Cu_settle_37 (by decide) ?_
    refine lv_dup2_11 hx hb d_Cu_settle_38 rfl rfl ?_
    refine va_lald hx hb hK hP 0 2 rfl rfl (inb_in (by decide)) d_Cu_settle_39 ?_
    refine lv_topl (fun v10 ev => ?_)
    have hf := bn ev hf
    clear ev
    refine lv_lload_n hx hb d_Cu_settle_40 rfl (lv_at hl 0 rfl) ?_
    refine lv_bipush (v := 6) hx hb d_Cu_settle_41 (by decide) ?_
    refine lv_lshl hx hb d_Cu_settle_43 rfl ?_
    refine lv_ladd hx hb d_Cu_settle_44 ?_
    refine lv_topl (fun v11 ev => ?_)
    have hf := bn ev hf
    clear ev
    refine va_last hx hb hK hP hD hS 0 2 rfl rfl (inb_in (by decide)) d_Cu_settle_45 (fun H locs hP hD hS => ?_)
    obtain ⟨f12, ev, hf⟩ := bne hf
    have hP : va_P D classes [(b0, .inl (cy 2, 10, .inr (.inl f12)))] H := by rw [ev]; exact hP
    have hD : va_D A [(b0, .inl (cy 2, 10, .inr (.inl f12)))] := by rw [ev]; exact hD
    clear ev
    refine lv_iconst (v := 0) hx hb d_Cu_settle_46 (by decide) ?_
    refine lv_istore (lv' := [(4, .int (0 : Int32)), (2, .long v3), (0, .ref b0), (1, .int x1)]) hx hb d_Cu_settle_47 hl (by decide) rfl (fun ls hl => ?_)
    exact w_Cu_settle_49 F hk_2 fu _ _ _ _ hf _ _ _ hP hD hS (lv_sub hl [2, 3, 0] rfl)
theorem w_Cu_settle_2 {p : Program} {l : Launch} {e : Env} {s : State} {m : MethodId} {args : Array Value} {below : List Frame} {meth : Method} {c : Code} {D : va_G} {cy : Nat → ClassId} {A : Nat → Prop} {ad : Nat → Nat} {b0 : Nat} {fu : Nat} (F : Fx p s m args meth c b_Cu_settle 8 "CoinKeeper$Curve" "settle" none D cy ad A) : ∀ n : Nat, I_Cu_settle_2 p l e s m args below meth c D cy A ad b0 (x_Cu_settle_2 fu n)
  | 0 => fun _ _ _ hf => nomatch (show (none : Option ((Nat → Int64))) = some _ from hf)
  | n + 1 => wb_Cu_settle_2 F (w_Cu_settle_2 F n)
set_option maxHeartbeats 8000000 in
set_option maxRecDepth 100000 in
theorem we_Cu_settle {p : Program} {l : Launch} {e : Env} {s : State} {m : MethodId} {args : Array Value} {below : List Frame} {meth : Method} {c : Code} {D : va_G} {cy : Nat → ClassId} {A : Nat → Prop} {ad : Nat → Nat} {b0 : Nat} {fu : Nat} (F : Fx p s m args meth c b_Cu_settle 8 "CoinKeeper$Curve" "settle" none D cy ad A) : I_Cu_settle_e p l e s m args below meth c D cy A ad b0 (x_Cu_settle fu) := by
  obtain ⟨hx, hb, hr, hml, hown, hts, hlocks, hK, hA, hSt, hnm, hex⟩ := id F
  intro u0 res hf H locs ls hP hD hS hl
  unfold x_Cu_settle at hf
  refine lv_iconst (v := 0) hx hb d_Cu_settle_0 (by decide) ?_
  refine lv_istore_n (lv' := [(1, .int (0 : Int32)), (0, .ref b0)]) hx hb d_Cu_settle_1 rfl hl (by decide) rfl (fun ls hl => ?_)
  exact w_Cu_settle_2 F fu _ _ _ hf _ _ _ hP hD hS (lv_sub hl [1, 0] rfl)
theorem c_Cu_settle (l : Launch) (D : va_G) (cy : Nat → ClassId) (ad : Nat → Nat) (fu : Nat) (b0 : Nat) (u0 : Nat → Int64) (res : (Nat → Int64)) (hf : x_Cu_settle fu u0 = some res) (sz : Nat) : Met l ({ cls := "CoinKeeper$Curve", name := "settle", desc := "([J)V" } : Jvm.MethodName) (.code ({ cls := "CoinKeeper$Curve", name := "settle", desc := "([J)V" } : Jvm.MethodName) b_Cu_settle 8 none :: gw) rm_Cu_settle (va_Pc [.ref b0] (Pr D cy ad [(b0, .inl (cy 2, 10, .inr (.inl u0)))] sz)) (q_Cu_settle D cy (va_A [(b0, .inl (cy 2, 10, .inr (.inl u0)))] sz) b0 res) 0 0 (va_A [(b0, .inl (cy 2, 10, .inr (.inl u0)))] sz) :=
  q_met (Qc := fun A => q_Cu_settle D cy A b0 res) (by decide) rfl rfl (Nat.le_of_ble_eq_true rfl) (fun p e s m below meth c ls F hP hD hS hl => we_Cu_settle (fu := fu) F u0 res hf _ _ _ hP hD hS hl) sz
abbrev b_Cu_multiply : ByteArray := prog_4_method_12_code
theorem d_Cu_multiply_0 : decode b_Cu_multiply 0 = .ok (.aload_n 0, 1) := by decide +kernel
theorem d_Cu_multiply_1 : decode b_Cu_multiply 1 = .ok (.iconst 0, 1) := by decide +kernel
theorem d_Cu_multiply_2 : decode b_Cu_multiply 2 = .ok (.laload, 1) := by decide +kernel
theorem d_Cu_multiply_3 : decode b_Cu_multiply 3 = .ok (.lstore_n 3, 1) := by decide +kernel
theorem d_Cu_multiply_4 : decode b_Cu_multiply 4 = .ok (.aload_n 0, 1) := by decide +kernel
theorem d_Cu_multiply_5 : decode b_Cu_multiply 5 = .ok (.iconst 1, 1) := by decide +kernel
theorem d_Cu_multiply_6 : decode b_Cu_multiply 6 = .ok (.laload, 1) := by decide +kernel
theorem d_Cu_multiply_7 : decode b_Cu_multiply 7 = .ok (.lstore 5, 2) := by decide +kernel
theorem d_Cu_multiply_9 : decode b_Cu_multiply 9 = .ok (.aload_n 0, 1) := by decide +kernel
theorem d_Cu_multiply_10 : decode b_Cu_multiply 10 = .ok (.iconst 2, 1) := by decide +kernel
theorem d_Cu_multiply_11 : decode b_Cu_multiply 11 = .ok (.laload, 1) := by decide +kernel
theorem d_Cu_multiply_12 : decode b_Cu_multiply 12 = .ok (.lstore 7, 2) := by decide +kernel
theorem d_Cu_multiply_14 : decode b_Cu_multiply 14 = .ok (.aload_n 0, 1) := by decide +kernel
theorem d_Cu_multiply_15 : decode b_Cu_multiply 15 = .ok (.iconst 3, 1) := by decide +kernel
theorem d_Cu_multiply_16 : decode b_Cu_multiply 16 = .ok (.laload, 1) := by decide +kernel
theorem d_Cu_multiply_17 : decode b_Cu_multiply 17 = .ok (.lstore 9, 2) := by decide +kernel
theorem d_Cu_multiply_19 : decode b_Cu_multiply 19 = .ok (.aload_n 0, 1) := by decide +kernel
theorem d_Cu_multiply_20 : decode b_Cu_multiply 20 = .ok (.iconst 4, 1) := by decide +kernel
theorem d_Cu_multiply_21 : decode b_Cu_multiply 21 = .ok (.laload, 1) := by decide +kernel
theorem d_Cu_multiply_22 : decode b_Cu_multiply 22 = .ok (.lstore 11, 2) := by decide +kernel
theorem d_Cu_multiply_24 : decode b_Cu_multiply 24 = .ok (.aload_n 0, 1) := by decide +kernel
theorem d_Cu_multiply_25 : decode b_Cu_multiply 25 = .ok (.iconst 5, 1) := by decide +kernel
theorem d_Cu_multiply_26 : decode b_Cu_multiply 26 = .ok (.laload, 1) := by decide +kernel
theorem d_Cu_multiply_27 : decode b_Cu_multiply 27 = .ok (.lstore 13, 2) := by decide +kernel
theorem d_Cu_multiply_29 : decode b_Cu_multiply 29 = .ok (.aload_n 0, 1) := by decide +kernel
theorem d_Cu_multiply_30 : decode b_Cu_multiply 30 = .ok (.bipush 6, 2) := by decide +kernel
theorem d_Cu_multiply_32 : decode b_Cu_multiply 32 = .ok (.laload, 1) := by decide +kernel
theorem d_Cu_multiply_33 : decode b_Cu_multiply 33 = .ok (.lstore 15, 2) := by decide +kernel
theorem d_Cu_multiply_35 : decode b_Cu_multiply 35 = .ok (.aload_n 0, 1) := by decide +kernel
theorem d_Cu_multiply_36 : decode b_Cu_multiply 36 = .ok (.bipush 7, 2) := by decide +kernel
theorem d_Cu_multiply_38 : decode b_Cu_multiply 38 = .ok (.laload, 1) := by decide +kernel
theorem d_Cu_multiply_39 : decode b_Cu_multiply 39 = .ok (.lstore 17, 2) := by decide +kernel
theorem d_Cu_multiply_41 : decode b_Cu_multiply 41 = .ok (.aload_n 0, 1) := by decide +kernel
theorem d_Cu_multiply_42 : decode b_Cu_multiply 42 = .ok (.bipush 8, 2) := by decide +kernel
theorem d_Cu_multiply_44 : decode b_Cu_multiply 44 = .ok (.laload, 1) := by decide +kernel
theorem d_Cu_multiply_45 : decode b_Cu_multiply 45 = .ok (.lstore 19, 2) := by decide +kernel
theorem d_Cu_multiply_47 : decode b_Cu_multiply 47 = .ok (.aload_n 0, 1) := by decide +kernel
theorem d_Cu_multiply_48 : decode b_Cu_multiply 48 = .ok (.bipush 9, 2) := by decide +kernel
theorem d_Cu_multiply_50 : decode b_Cu_multiply 50 = .ok (.laload, 1) := by decide +kernel
theorem d_Cu_multiply_51 : decode b_Cu_multiply 51 = .ok (.lstore 21, 2) := by decide +kernel
theorem d_Cu_multiply_53 : decode b_Cu_multiply 53 = .ok (.aload_n 1, 1) := by decide +kernel
theorem d_Cu_multiply_54 : decode b_Cu_multiply 54 = .ok (.iconst 0, 1) := by decide +kernel
theorem d_Cu_multiply_55 : decode b_Cu_multiply 55 = .ok (.laload, 1) := by decide +kernel
theorem d_Cu_multiply_56 : decode b_Cu_multiply 56 = .ok (.lstore 23, 2) := by decide +kernel
theorem d_Cu_multiply_58 : decode b_Cu_multiply 58 = .ok (.aload_n 1, 1) := by decide +kernel
theorem d_Cu_multiply_59 : decode b_Cu_multiply 59 = .ok (.iconst 1, 1) := by decide +kernel
theorem d_Cu_multiply_60 : decode b_Cu_multiply 60 = .ok (.laload, 1) := by decide +kernel
theorem d_Cu_multiply_61 : decode b_Cu_multiply 61 = .ok (.lstore 25, 2) := by decide +kernel
theorem d_Cu_multiply_63 : decode b_Cu_multiply 63 = .ok (.aload_n 1, 1) := by decide +kernel
theorem d_Cu_multiply_64 : decode b_Cu_multiply 64 = .ok (.iconst 2, 1) := by decide +kernel
theorem d_Cu_multiply_65 : decode b_Cu_multiply 65 = .ok (.laload, 1) := by decide +kernel
theorem d_Cu_multiply_66 : decode b_Cu_multiply 66 = .ok (.lstore 27, 2) := by decide +kernel
theorem d_Cu_multiply_68 : decode b_Cu_multiply 68 = .ok (.aload_n 1, 1) := by decide +kernel
theorem d_Cu_multiply_69 : decode b_Cu_multiply 69 = .ok (.iconst 3, 1) := by decide +kernel
theorem d_Cu_multiply_70 : decode b_Cu_multiply 70 = .ok (.laload, 1) := by decide +kernel
theorem d_Cu_multiply_71 : decode b_Cu_multiply 71 = .ok (.lstore 29, 2) := by decide +kernel
theorem d_Cu_multiply_73 : decode b_Cu_multiply 73 = .ok (.aload_n 1, 1) := by decide +kernel
theorem d_Cu_multiply_74 : decode b_Cu_multiply 74 = .ok (.iconst 4, 1) := by decide +kernel
theorem d_Cu_multiply_75 : decode b_Cu_multiply 75 = .ok (.laload, 1) := by decide +kernel
theorem d_Cu_multiply_76 : decode b_Cu_multiply 76 = .ok (.lstore 31, 2) := by decide +kernel
theorem d_Cu_multiply_78 : decode b_Cu_multiply 78 = .ok (.aload_n 1, 1) := by decide +kernel
theorem d_Cu_multiply_79 : decode b_Cu_multiply 79 = .ok (.iconst 5, 1) := by decide +kernel
theorem d_Cu_multiply_80 : decode b_Cu_multiply 80 = .ok (.laload, 1) := by decide +kernel
theorem d_Cu_multiply_81 : decode b_Cu_multiply 81 = .ok (.lstore 33, 2) := by decide +kernel
theorem d_Cu_multiply_83 : decode b_Cu_multiply 83 = .ok (.aload_n 1, 1) := by decide +kernel
theorem d_Cu_multiply_84 : decode b_Cu_multiply 84 = .ok (.bipush 6, 2) := by decide +kernel
theorem d_Cu_multiply_86 : decode b_Cu_multiply 86 = .ok (.laload, 1) := by decide +kernel
theorem d_Cu_multiply_87 : decode b_Cu_multiply 87 = .ok (.lstore 35, 2) := by decide +kernel
theorem d_Cu_multiply_89 : decode b_Cu_multiply 89 = .ok (.aload_n 1, 1) := by decide +kernel
theorem d_Cu_multiply_90 : decode b_Cu_multiply 90 = .ok (.bipush 7, 2) := by decide +kernel
theorem d_Cu_multiply_92 : decode b_Cu_multiply 92 = .ok (.laload, 1) := by decide +kernel
theorem d_Cu_multiply_93 : decode b_Cu_multiply 93 = .ok (.lstore 37, 2) := by decide +kernel
theorem d_Cu_multiply_95 : decode b_Cu_multiply 95 = .ok (.aload_n 1, 1) := by decide +kernel
theorem d_Cu_multiply_96 : decode b_Cu_multiply 96 = .ok (.bipush 8, 2) := by decide +kernel
theorem d_Cu_multiply_98 : decode b_Cu_multiply 98 = .ok (.laload, 1) := by decide +kernel
theorem d_Cu_multiply_99 : decode b_Cu_multiply 99 = .ok (.lstore 39, 2) := by decide +kernel
theorem d_Cu_multiply_101 : decode b_Cu_multiply 101 = .ok (.aload_n 1, 1) := by decide +kernel
theorem d_Cu_multiply_102 : decode b_Cu_multiply 102 = .ok (.bipush 9, 2) := by decide +kernel
theorem d_Cu_multiply_104 : decode b_Cu_multiply 104 = .ok (.laload, 1) := by decide +kernel
theorem d_Cu_multiply_105 : decode b_Cu_multiply 105 = .ok (.lstore 41, 2) := by decide +kernel
theorem d_Cu_multiply_107 : decode b_Cu_multiply 107 = .ok (.lload 5, 2) := by decide +kernel
theorem d_Cu_multiply_109 : decode b_Cu_multiply 109 = .ok (.lload 41, 2) := by decide +kernel
theorem d_Cu_multiply_111 : decode b_Cu_multiply 111 = .ok (.lmul, 1) := by decide +kernel
theorem d_Cu_multiply_112 : decode b_Cu_multiply 112 = .ok (.lload 7, 2) := by decide +kernel
theorem d_Cu_multiply_114 : decode b_Cu_multiply 114 = .ok (.lload 39, 2) := by decide +kernel
theorem d_Cu_multiply_116 : decode b_Cu_multiply 116 = .ok (.lmul, 1) := by decide +kernel
theorem d_Cu_multiply_117 : decode b_Cu_multiply 117 = .ok (.ladd, 1) := by decide +kernel
theorem d_Cu_multiply_118 : decode b_Cu_multiply 118 = .ok (.lload 9, 2) := by decide +kernel
theorem d_Cu_multiply_120 : decode b_Cu_multiply 120 = .ok (.lload 37, 2) := by decide +kernel
theorem d_Cu_multiply_122 : decode b_Cu_multiply 122 = .ok (.lmul, 1) := by decide +kernel
theorem d_Cu_multiply_123 : decode b_Cu_multiply 123 = .ok (.ladd, 1) := by decide +kernel
theorem d_Cu_multiply_124 : decode b_Cu_multiply 124 = .ok (.lload 11, 2) := by decide +kernel
theorem d_Cu_multiply_126 : decode b_Cu_multiply 126 = .ok (.lload 35, 2) := by decide +kernel
theorem d_Cu_multiply_128 : decode b_Cu_multiply 128 = .ok (.lmul, 1) := by decide +kernel
theorem d_Cu_multiply_129 : decode b_Cu_multiply 129 = .ok (.ladd, 1) := by decide +kernel
theorem d_Cu_multiply_130 : decode b_Cu_multiply 130 = .ok (.lload 13, 2) := by decide +kernel
theorem d_Cu_multiply_132 : decode b_Cu_multiply 132 = .ok (.lload 33, 2) := by decide +kernel
theorem d_Cu_multiply_134 : decode b_Cu_multiply 134 = .ok (.lmul, 1) := by decide +kernel
theorem d_Cu_multiply_135 : decode b_Cu_multiply 135 = .ok (.ladd, 1) := by decide +kernel
theorem d_Cu_multiply_136 : decode b_Cu_multiply 136 = .ok (.lload 15, 2) := by decide +kernel
theorem d_Cu_multiply_138 : decode b_Cu_multiply 138 = .ok (.lload 31, 2) := by decide +kernel
theorem d_Cu_multiply_140 : decode b_Cu_multiply 140 = .ok (.lmul, 1) := by decide +kernel
theorem d_Cu_multiply_141 : decode b_Cu_multiply 141 = .ok (.ladd, 1) := by decide +kernel
theorem d_Cu_multiply_142 : decode b_Cu_multiply 142 = .ok (.lload 17, 2) := by decide +kernel
theorem d_Cu_multiply_144 : decode b_Cu_multiply 144 = .ok (.lload 29, 2) := by decide +kernel
theorem d_Cu_multiply_146 : decode b_Cu_multiply 146 = .ok (.lmul, 1) := by decide +kernel
theorem d_Cu_multiply_147 : decode b_Cu_multiply 147 = .ok (.ladd, 1) := by decide +kernel
theorem d_Cu_multiply_148 : decode b_Cu_multiply 148 = .ok (.lload 19, 2) := by decide +kernel
theorem d_Cu_multiply_150 : decode b_Cu_multiply 150 = .ok (.lload 27, 2) := by decide +kernel
theorem d_Cu_multiply_152 : decode b_Cu_multiply 152 = .ok (.lmul, 1) := by decide +kernel
theorem d_Cu_multiply_153 : decode b_Cu_multiply 153 = .ok (.ladd, 1) := by decide +kernel
theorem d_Cu_multiply_154 : decode b_Cu_multiply 154 = .ok (.lload 21, 2) := by decide +kernel
theorem d_Cu_multiply_156 : decode b_Cu_multiply 156 = .ok (.lload 25, 2) := by decide +kernel
theorem d_Cu_multiply_158 : decode b_Cu_multiply 158 = .ok (.lmul, 1) := by decide +kernel
theorem d_Cu_multiply_159 : decode b_Cu_multiply 159 = .ok (.ladd, 1) := by decide +kernel
theorem d_Cu_multiply_160 : decode b_Cu_multiply 160 = .ok (.lstore 43, 2) := by decide +kernel
theorem d_Cu_multiply_162 : decode b_Cu_multiply 162 = .ok (.lload 7, 2) := by decide +kernel
theorem d_Cu_multiply_164 : decode b_Cu_multiply 164 = .ok (.lload 41, 2) := by decide +kernel
theorem d_Cu_multiply_166 : decode b_Cu_multiply 166 = .ok (.lmul, 1) := by decide +kernel
theorem d_Cu_multiply_167 : decode b_Cu_multiply 167 = .ok (.lload 9, 2) := by decide +kernel
theorem d_Cu_multiply_169 : decode b_Cu_multiply 169 = .ok (.lload 39, 2) := by decide +kernel
theorem d_Cu_multiply_171 : decode b_Cu_multiply 171 = .ok (.lmul, 1) := by decide +kernel
theorem d_Cu_multiply_172 : decode b_Cu_multiply 172 = .ok (.ladd, 1) := by decide +kernel
theorem d_Cu_multiply_173 : decode b_Cu_multiply 173 = .ok (.lload 11, 2) := by decide +kernel
theorem d_Cu_multiply_175 : decode b_Cu_multiply 175 = .ok (.lload 37, 2) := by decide +kernel
theorem d_Cu_multiply_177 : decode b_Cu_multiply 177 = .ok (.lmul, 1) := by decide +kernel
theorem d_Cu_multiply_178 : decode b_Cu_multiply 178 = .ok (.ladd, 1) := by decide +kernel
theorem d_Cu_multiply_179 : decode b_Cu_multiply 179 = .ok (.lload 13, 2) := by decide +kernel
theorem d_Cu_multiply_181 : decode b_Cu_multiply 181 = .ok (.lload 35, 2) := by decide +kernel
theorem d_Cu_multiply_183 : decode b_Cu_multiply 183 = .ok (.lmul, 1) := by decide +kernel
theorem d_Cu_multiply_184 : decode b_Cu_multiply 184 = .ok (.ladd, 1) := by decide +kernel
theorem d_Cu_multiply_185 : decode b_Cu_multiply 185 = .ok (.lload 15, 2) := by decide +kernel
theorem d_Cu_multiply_187 : decode b_Cu_multiply 187 = .ok (.lload 33, 2) := by decide +kernel
theorem d_Cu_multiply_189 : decode b_Cu_multiply 189 = .ok (.lmul, 1) := by decide +kernel
theorem d_Cu_multiply_190 : decode b_Cu_multiply 190 = .ok (.ladd, 1) := by decide +kernel
theorem d_Cu_multiply_191 : decode b_Cu_multiply 191 = .ok (.lload 17, 2) := by decide +kernel
theorem d_Cu_multiply_193 : decode b_Cu_multiply 193 = .ok (.lload 31, 2) := by decide +kernel
theorem d_Cu_multiply_195 : decode b_Cu_multiply 195 = .ok (.lmul, 1) := by decide +kernel
theorem d_Cu_multiply_196 : decode b_Cu_multiply 196 = .ok (.ladd, 1) := by decide +kernel
theorem d_Cu_multiply_197 : decode b_Cu_multiply 197 = .ok (.lload 19, 2) := by decide +kernel
theorem d_Cu_multiply_199 : decode b_Cu_multiply 199 = .ok (.lload 29, 2) := by decide +kernel
theorem d_Cu_multiply_201 : decode b_Cu_multiply 201 = .ok (.lmul, 1) := by decide +kernel
theorem d_Cu_multiply_202 : decode b_Cu_multiply 202 = .ok (.ladd, 1) := by decide +kernel
theorem d_Cu_multiply_203 : decode b_Cu_multiply 203 = .ok (.lload 21, 2) := by decide +kernel
theorem d_Cu_multiply_205 : decode b_Cu_multiply 205 = .ok (.lload 27, 2) := by decide +kernel
theorem d_Cu_multiply_207 : decode b_Cu_multiply 207 = .ok (.lmul, 1) := by decide +kernel
theorem d_Cu_multiply_208 : decode b_Cu_multiply 208 = .ok (.ladd, 1) := by decide +kernel
theorem d_Cu_multiply_209 : decode b_Cu_multiply 209 = .ok (.lload 43, 2) := by decide +kernel
theorem d_Cu_multiply_211 : decode b_Cu_multiply 211 = .ok (.bipush 26, 2) := by decide +kernel
theorem d_Cu_multiply_213 : decode b_Cu_multiply 213 = .ok (.lshr, 1) := by decide +kernel
theorem d_Cu_multiply_214 : decode b_Cu_multiply 214 = .ok (.ladd, 1) := by decide +kernel
theorem d_Cu_multiply_215 : decode b_Cu_multiply 215 = .ok (.lstore 45, 2) := by decide +kernel
theorem d_Cu_multiply_217 : decode b_Cu_multiply 217 = .ok (.lload 9, 2) := by decide +kernel
theorem d_Cu_multiply_219 : decode b_Cu_multiply 219 = .ok (.lload 41, 2) := by decide +kernel
theorem d_Cu_multiply_221 : decode b_Cu_multiply 221 = .ok (.lmul, 1) := by decide +kernel
theorem d_Cu_multiply_222 : decode b_Cu_multiply 222 = .ok (.lload 11, 2) := by decide +kernel
theorem d_Cu_multiply_224 : decode b_Cu_multiply 224 = .ok (.lload 39, 2) := by decide +kernel
theorem d_Cu_multiply_226 : decode b_Cu_multiply 226 = .ok (.lmul, 1) := by decide +kernel
theorem d_Cu_multiply_227 : decode b_Cu_multiply 227 = .ok (.ladd, 1) := by decide +kernel
theorem d_Cu_multiply_228 : decode b_Cu_multiply 228 = .ok (.lload 13, 2) := by decide +kernel
theorem d_Cu_multiply_230 : decode b_Cu_multiply 230 = .ok (.lload 37, 2) := by decide +kernel
theorem d_Cu_multiply_232 : decode b_Cu_multiply 232 = .ok (.lmul, 1) := by decide +kernel
theorem d_Cu_multiply_233 : decode b_Cu_multiply 233 = .ok (.ladd, 1) := by decide +kernel
theorem d_Cu_multiply_234 : decode b_Cu_multiply 234 = .ok (.lload 15, 2) := by decide +kernel
theorem d_Cu_multiply_236 : decode b_Cu_multiply 236 = .ok (.lload 35, 2) := by decide +kernel
theorem d_Cu_multiply_238 : decode b_Cu_multiply 238 = .ok (.lmul, 1) := by decide +kernel
theorem d_Cu_multiply_239 : decode b_Cu_multiply 239 = .ok (.ladd, 1) := by decide +kernel
theorem d_Cu_multiply_240 : decode b_Cu_multiply 240 = .ok (.lload 17, 2) := by decide +kernel
theorem d_Cu_multiply_242 : decode b_Cu_multiply 242 = .ok (.lload 33, 2) := by decide +kernel
theorem d_Cu_multiply_244 : decode b_Cu_multiply 244 = .ok (.lmul, 1) := by decide +kernel
theorem d_Cu_multiply_245 : decode b_Cu_multiply 245 = .ok (.ladd, 1) := by decide +kernel
theorem d_Cu_multiply_246 : decode b_Cu_multiply 246 = .ok (.lload 19, 2) := by decide +kernel
theorem d_Cu_multiply_248 : decode b_Cu_multiply 248 = .ok (.lload 31, 2) := by decide +kernel
theorem d_Cu_multiply_250 : decode b_Cu_multiply 250 = .ok (.lmul, 1) := by decide +kernel
theorem d_Cu_multiply_251 : decode b_Cu_multiply 251 = .ok (.ladd, 1) := by decide +kernel
theorem d_Cu_multiply_252 : decode b_Cu_multiply 252 = .ok (.lload 21, 2) := by decide +kernel
theorem d_Cu_multiply_254 : decode b_Cu_multiply 254 = .ok (.lload 29, 2) := by decide +kernel
theorem d_Cu_multiply_256 : decode b_Cu_multiply 256 = .ok (.lmul, 1) := by decide +kernel
theorem d_Cu_multiply_257 : decode b_Cu_multiply 257 = .ok (.ladd, 1) := by decide +kernel
theorem d_Cu_multiply_258 : decode b_Cu_multiply 258 = .ok (.lload 45, 2) := by decide +kernel
theorem d_Cu_multiply_260 : decode b_Cu_multiply 260 = .ok (.bipush 26, 2) := by decide +kernel
theorem d_Cu_multiply_262 : decode b_Cu_multiply 262 = .ok (.lshr, 1) := by decide +kernel
theorem d_Cu_multiply_263 : decode b_Cu_multiply 263 = .ok (.ladd, 1) := by decide +kernel
theorem d_Cu_multiply_264 : decode b_Cu_multiply 264 = .ok (.lstore 47, 2) := by decide +kernel
theorem d_Cu_multiply_266 : decode b_Cu_multiply 266 = .ok (.lload 11, 2) := by decide +kernel
theorem d_Cu_multiply_268 : decode b_Cu_multiply 268 = .ok (.lload 41, 2) := by decide +kernel
theorem d_Cu_multiply_270 : decode b_Cu_multiply 270 = .ok (.lmul, 1) := by decide +kernel
theorem d_Cu_multiply_271 : decode b_Cu_multiply 271 = .ok (.lload 13, 2) := by decide +kernel
theorem d_Cu_multiply_273 : decode b_Cu_multiply 273 = .ok (.lload 39, 2) := by decide +kernel
theorem d_Cu_multiply_275 : decode b_Cu_multiply 275 = .ok (.lmul, 1) := by decide +kernel
theorem d_Cu_multiply_276 : decode b_Cu_multiply 276 = .ok (.ladd, 1) := by decide +kernel
theorem d_Cu_multiply_277 : decode b_Cu_multiply 277 = .ok (.lload 15, 2) := by decide +kernel
theorem d_Cu_multiply_279 : decode b_Cu_multiply 279 = .ok (.lload 37, 2) := by decide +kernel
theorem d_Cu_multiply_281 : decode b_Cu_multiply 281 = .ok (.lmul, 1) := by decide +kernel
theorem d_Cu_multiply_282 : decode b_Cu_multiply 282 = .ok (.ladd, 1) := by decide +kernel
theorem d_Cu_multiply_283 : decode b_Cu_multiply 283 = .ok (.lload 17, 2) := by decide +kernel
theorem d_Cu_multiply_285 : decode b_Cu_multiply 285 = .ok (.lload 35, 2) := by decide +kernel
theorem d_Cu_multiply_287 : decode b_Cu_multiply 287 = .ok (.lmul, 1) := by decide +kernel
theorem d_Cu_multiply_288 : decode b_Cu_multiply 288 = .ok (.ladd, 1) := by decide +kernel
theorem d_Cu_multiply_289 : decode b_Cu_multiply 289 = .ok (.lload 19, 2) := by decide +kernel
theorem d_Cu_multiply_291 : decode b_Cu_multiply 291 = .ok (.lload 33, 2) := by decide +kernel
theorem d_Cu_multiply_293 : decode b_Cu_multiply 293 = .ok (.lmul, 1) := by decide +kernel
theorem d_Cu_multiply_294 : decode b_Cu_multiply 294 = .ok (.ladd, 1) := by decide +kernel
theorem d_Cu_multiply_295 : decode b_Cu_multiply 295 = .ok (.lload 21, 2) := by decide +kernel
theorem d_Cu_multiply_297 : decode b_Cu_multiply 297 = .ok (.lload 31, 2) := by decide +kernel
theorem d_Cu_multiply_299 : decode b_Cu_multiply 299 = .ok (.lmul, 1) := by decide +kernel
theorem d_Cu_multiply_300 : decode b_Cu_multiply 300 = .ok (.ladd, 1) := by decide +kernel
theorem d_Cu_multiply_301 : decode b_Cu_multiply 301 = .ok (.lload 47, 2) := by decide +kernel
theorem d_Cu_multiply_303 : decode b_Cu_multiply 303 = .ok (.bipush 26, 2) := by decide +kernel
theorem d_Cu_multiply_305 : decode b_Cu_multiply 305 = .ok (.lshr, 1) := by decide +kernel
theorem d_Cu_multiply_306 : decode b_Cu_multiply 306 = .ok (.ladd, 1) := by decide +kernel
theorem d_Cu_multiply_307 : decode b_Cu_multiply 307 = .ok (.lstore 49, 2) := by decide +kernel
theorem d_Cu_multiply_309 : decode b_Cu_multiply 309 = .ok (.lload 13, 2) := by decide +kernel
theorem d_Cu_multiply_311 : decode b_Cu_multiply 311 = .ok (.lload 41, 2) := by decide +kernel
theorem d_Cu_multiply_313 : decode b_Cu_multiply 313 = .ok (.lmul, 1) := by decide +kernel
theorem d_Cu_multiply_314 : decode b_Cu_multiply 314 = .ok (.lload 15, 2) := by decide +kernel
theorem d_Cu_multiply_316 : decode b_Cu_multiply 316 = .ok (.lload 39, 2) := by decide +kernel
theorem d_Cu_multiply_318 : decode b_Cu_multiply 318 = .ok (.lmul, 1) := by decide +kernel
theorem d_Cu_multiply_319 : decode b_Cu_multiply 319 = .ok (.ladd, 1) := by decide +kernel
theorem d_Cu_multiply_320 : decode b_Cu_multiply 320 = .ok (.lload 17, 2) := by decide +kernel
theorem d_Cu_multiply_322 : decode b_Cu_multiply 322 = .ok (.lload 37, 2) := by decide +kernel
theorem d_Cu_multiply_324 : decode b_Cu_multiply 324 = .ok (.lmul, 1) := by decide +kernel
theorem d_Cu_multiply_325 : decode b_Cu_multiply 325 = .ok (.ladd, 1) := by decide +kernel
theorem d_Cu_multiply_326 : decode b_Cu_multiply 326 = .ok (.lload 19, 2) := by decide +kernel
theorem d_Cu_multiply_328 : decode b_Cu_multiply 328 = .ok (.lload 35, 2) := by decide +kernel
theorem d_Cu_multiply_330 : decode b_Cu_multiply 330 = .ok (.lmul, 1) := by decide +kernel
theorem d_Cu_multiply_331 : decode b_Cu_multiply 331 = .ok (.ladd, 1) := by decide +kernel
theorem d_Cu_multiply_332 : decode b_Cu_multiply 332 = .ok (.lload 21, 2) := by decide +kernel
theorem d_Cu_multiply_334 : decode b_Cu_multiply 334 = .ok (.lload 33, 2) := by decide +kernel
theorem d_Cu_multiply_336 : decode b_Cu_multiply 336 = .ok (.lmul, 1) := by decide +kernel
theorem d_Cu_multiply_337 : decode b_Cu_multiply 337 = .ok (.ladd, 1) := by decide +kernel
theorem d_Cu_multiply_338 : decode b_Cu_multiply 338 = .ok (.lload 49, 2) := by decide +kernel
theorem d_Cu_multiply_340 : decode b_Cu_multiply 340 = .ok (.bipush 26, 2) := by decide +kernel
theorem d_Cu_multiply_342 : decode b_Cu_multiply 342 = .ok (.lshr, 1) := by decide +kernel
theorem d_Cu_multiply_343 : decode b_Cu_multiply 343 = .ok (.ladd, 1) := by decide +kernel
theorem d_Cu_multiply_344 : decode b_Cu_multiply 344 = .ok (.lstore 51, 2) := by decide +kernel
theorem d_Cu_multiply_346 : decode b_Cu_multiply 346 = .ok (.lload 15, 2) := by decide +kernel
theorem d_Cu_multiply_348 : decode b_Cu_multiply 348 = .ok (.lload 41, 2) := by decide +kernel
theorem d_Cu_multiply_350 : decode b_Cu_multiply 350 = .ok (.lmul, 1) := by decide +kernel
theorem d_Cu_multiply_351 : decode b_Cu_multiply 351 = .ok (.lload 17, 2) := by decide +kernel
theorem d_Cu_multiply_353 : decode b_Cu_multiply 353 = .ok (.lload 39, 2) := by decide +kernel
theorem d_Cu_multiply_355 : decode b_Cu_multiply 355 = .ok (.lmul, 1) := by decide +kernel
theorem d_Cu_multiply_356 : decode b_Cu_multiply 356 = .ok (.ladd, 1) := by decide +kernel
theorem d_Cu_multiply_357 : decode b_Cu_multiply 357 = .ok (.lload 19, 2) := by decide +kernel
theorem d_Cu_multiply_359 : decode b_Cu_multiply 359 = .ok (.lload 37, 2) := by decide +kernel
theorem d_Cu_multiply_361 : decode b_Cu_multiply 361 = .ok (.lmul, 1) := by decide +kernel
theorem d_Cu_multiply_362 : decode b_Cu_multiply 362 = .ok (.ladd, 1) := by decide +kernel
theorem d_Cu_multiply_363 : decode b_Cu_multiply 363 = .ok (.lload 21, 2) := by decide +kernel
theorem d_Cu_multiply_365 : decode b_Cu_multiply 365 = .ok (.lload 35, 2) := by decide +kernel
theorem d_Cu_multiply_367 : decode b_Cu_multiply 367 = .ok (.lmul, 1) := by decide +kernel
theorem d_Cu_multiply_368 : decode b_Cu_multiply 368 = .ok (.ladd, 1) := by decide +kernel
theorem d_Cu_multiply_369 : decode b_Cu_multiply 369 = .ok (.lload 51, 2) := by decide +kernel
theorem d_Cu_multiply_371 : decode b_Cu_multiply 371 = .ok (.bipush 26, 2) := by decide +kernel
theorem d_Cu_multiply_373 : decode b_Cu_multiply 373 = .ok (.lshr, 1) := by decide +kernel
theorem d_Cu_multiply_374 : decode b_Cu_multiply 374 = .ok (.ladd, 1) := by decide +kernel
theorem d_Cu_multiply_375 : decode b_Cu_multiply 375 = .ok (.lstore 53, 2) := by decide +kernel
theorem d_Cu_multiply_377 : decode b_Cu_multiply 377 = .ok (.lload 17, 2) := by decide +kernel
theorem d_Cu_multiply_379 : decode b_Cu_multiply 379 = .ok (.lload 41, 2) := by decide +kernel
theorem d_Cu_multiply_381 : decode b_Cu_multiply 381 = .ok (.lmul, 1) := by decide +kernel
theorem d_Cu_multiply_382 : decode b_Cu_multiply 382 = .ok (.lload 19, 2) := by decide +kernel
theorem d_Cu_multiply_384 : decode b_Cu_multiply 384 = .ok (.lload 39, 2) := by decide +kernel
theorem d_Cu_multiply_386 : decode b_Cu_multiply 386 = .ok (.lmul, 1) := by decide +kernel
theorem d_Cu_multiply_387 : decode b_Cu_multiply 387 = .ok (.ladd, 1) := by decide +kernel
theorem d_Cu_multiply_388 : decode b_Cu_multiply 388 = .ok (.lload 21, 2) := by decide +kernel
theorem d_Cu_multiply_390 : decode b_Cu_multiply 390 = .ok (.lload 37, 2) := by decide +kernel
theorem d_Cu_multiply_392 : decode b_Cu_multiply 392 = .ok (.lmul, 1) := by decide +kernel
theorem d_Cu_multiply_393 : decode b_Cu_multiply 393 = .ok (.ladd, 1) := by decide +kernel
theorem d_Cu_multiply_394 : decode b_Cu_multiply 394 = .ok (.lload 53, 2) := by decide +kernel
theorem d_Cu_multiply_396 : decode b_Cu_multiply 396 = .ok (.bipush 26, 2) := by decide +kernel
theorem d_Cu_multiply_398 : decode b_Cu_multiply 398 = .ok (.lshr, 1) := by decide +kernel
theorem d_Cu_multiply_399 : decode b_Cu_multiply 399 = .ok (.ladd, 1) := by decide +kernel
theorem d_Cu_multiply_400 : decode b_Cu_multiply 400 = .ok (.lstore 55, 2) := by decide +kernel
theorem d_Cu_multiply_402 : decode b_Cu_multiply 402 = .ok (.lload 19, 2) := by decide +kernel
theorem d_Cu_multiply_404 : decode b_Cu_multiply 404 = .ok (.lload 41, 2) := by decide +kernel
theorem d_Cu_multiply_406 : decode b_Cu_multiply 406 = .ok (.lmul, 1) := by decide +kernel
theorem d_Cu_multiply_407 : decode b_Cu_multiply 407 = .ok (.lload 21, 2) := by decide +kernel
theorem d_Cu_multiply_409 : decode b_Cu_multiply 409 = .ok (.lload 39, 2) := by decide +kernel
theorem d_Cu_multiply_411 : decode b_Cu_multiply 411 = .ok (.lmul, 1) := by decide +kernel
theorem d_Cu_multiply_412 : decode b_Cu_multiply 412 = .ok (.ladd, 1) := by decide +kernel
theorem d_Cu_multiply_413 : decode b_Cu_multiply 413 = .ok (.lload 55, 2) := by decide +kernel
theorem d_Cu_multiply_415 : decode b_Cu_multiply 415 = .ok (.bipush 26, 2) := by decide +kernel
theorem d_Cu_multiply_417 : decode b_Cu_multiply 417 = .ok (.lshr, 1) := by decide +kernel
theorem d_Cu_multiply_418 : decode b_Cu_multiply 418 = .ok (.ladd, 1) := by decide +kernel
theorem d_Cu_multiply_419 : decode b_Cu_multiply 419 = .ok (.lstore 57, 2) := by decide +kernel
theorem d_Cu_multiply_421 : decode b_Cu_multiply 421 = .ok (.lload 21, 2) := by decide +kernel
theorem d_Cu_multiply_423 : decode b_Cu_multiply 423 = .ok (.lload 41, 2) := by decide +kernel
theorem d_Cu_multiply_425 : decode b_Cu_multiply 425 = .ok (.lmul, 1) := by decide +kernel
theorem d_Cu_multiply_426 : decode b_Cu_multiply 426 = .ok (.lload 57, 2) := by decide +kernel
theorem d_Cu_multiply_428 : decode b_Cu_multiply 428 = .ok (.bipush 26, 2) := by decide +kernel
theorem d_Cu_multiply_430 : decode b_Cu_multiply 430 = .ok (.lshr, 1) := by decide +kernel
theorem d_Cu_multiply_431 : decode b_Cu_multiply 431 = .ok (.ladd, 1) := by decide +kernel
theorem d_Cu_multiply_432 : decode b_Cu_multiply 432 = .ok (.lstore 59, 2) := by decide +kernel
theorem d_Cu_multiply_434 : decode b_Cu_multiply 434 = .ok (.lload 59, 2) := by decide +kernel
theorem d_Cu_multiply_436 : decode b_Cu_multiply 436 = .ok (.bipush 26, 2) := by decide +kernel
theorem d_Cu_multiply_438 : decode b_Cu_multiply 438 = .ok (.lshr, 1) := by decide +kernel
theorem d_Cu_multiply_439 : decode b_Cu_multiply 439 = .ok (.lstore 61, 2) := by decide +kernel
theorem d_Cu_multiply_441 : decode b_Cu_multiply 441 = .ok (.lload 43, 2) := by decide +kernel
theorem d_Cu_multiply_443 : decode b_Cu_multiply 443 = .ok (.ldc2_w 85, 3) := by decide +kernel
theorem d_Cu_multiply_446 : decode b_Cu_multiply 446 = .ok (.land, 1) := by decide +kernel
theorem d_Cu_multiply_447 : decode b_Cu_multiply 447 = .ok (.lstore 43, 2) := by decide +kernel
theorem d_Cu_multiply_449 : decode b_Cu_multiply 449 = .ok (.lload 45, 2) := by decide +kernel
theorem d_Cu_multiply_451 : decode b_Cu_multiply 451 = .ok (.ldc2_w 85, 3) := by decide +kernel
theorem d_Cu_multiply_454 : decode b_Cu_multiply 454 = .ok (.land, 1) := by decide +kernel
theorem d_Cu_multiply_455 : decode b_Cu_multiply 455 = .ok (.lstore 45, 2) := by decide +kernel
theorem d_Cu_multiply_457 : decode b_Cu_multiply 457 = .ok (.lload 47, 2) := by decide +kernel
theorem d_Cu_multiply_459 : decode b_Cu_multiply 459 = .ok (.ldc2_w 85, 3) := by decide +kernel
theorem d_Cu_multiply_462 : decode b_Cu_multiply 462 = .ok (.land, 1) := by decide +kernel
theorem d_Cu_multiply_463 : decode b_Cu_multiply 463 = .ok (.lstore 47, 2) := by decide +kernel
theorem d_Cu_multiply_465 : decode b_Cu_multiply 465 = .ok (.lload 49, 2) := by decide +kernel
theorem d_Cu_multiply_467 : decode b_Cu_multiply 467 = .ok (.ldc2_w 85, 3) := by decide +kernel
theorem d_Cu_multiply_470 : decode b_Cu_multiply 470 = .ok (.land, 1) := by decide +kernel
theorem d_Cu_multiply_471 : decode b_Cu_multiply 471 = .ok (.lstore 49, 2) := by decide +kernel
theorem d_Cu_multiply_473 : decode b_Cu_multiply 473 = .ok (.lload 51, 2) := by decide +kernel
theorem d_Cu_multiply_475 : decode b_Cu_multiply 475 = .ok (.ldc2_w 85, 3) := by decide +kernel
theorem d_Cu_multiply_478 : decode b_Cu_multiply 478 = .ok (.land, 1) := by decide +kernel
theorem d_Cu_multiply_479 : decode b_Cu_multiply 479 = .ok (.lstore 51, 2) := by decide +kernel
theorem d_Cu_multiply_481 : decode b_Cu_multiply 481 = .ok (.lload 53, 2) := by decide +kernel
theorem d_Cu_multiply_483 : decode b_Cu_multiply 483 = .ok (.ldc2_w 85, 3) := by decide +kernel
theorem d_Cu_multiply_486 : decode b_Cu_multiply 486 = .ok (.land, 1) := by decide +kernel
theorem d_Cu_multiply_487 : decode b_Cu_multiply 487 = .ok (.lstore 53, 2) := by decide +kernel
theorem d_Cu_multiply_489 : decode b_Cu_multiply 489 = .ok (.lload 55, 2) := by decide +kernel
theorem d_Cu_multiply_491 : decode b_Cu_multiply 491 = .ok (.ldc2_w 85, 3) := by decide +kernel
theorem d_Cu_multiply_494 : decode b_Cu_multiply 494 = .ok (.land, 1) := by decide +kernel
theorem d_Cu_multiply_495 : decode b_Cu_multiply 495 = .ok (.lstore 55, 2) := by decide +kernel
theorem d_Cu_multiply_497 : decode b_Cu_multiply 497 = .ok (.lload 57, 2) := by decide +kernel
theorem d_Cu_multiply_499 : decode b_Cu_multiply 499 = .ok (.ldc2_w 85, 3) := by decide +kernel
theorem d_Cu_multiply_502 : decode b_Cu_multiply 502 = .ok (.land, 1) := by decide +kernel
theorem d_Cu_multiply_503 : decode b_Cu_multiply 503 = .ok (.lstore 57, 2) := by decide +kernel
theorem d_Cu_multiply_505 : decode b_Cu_multiply 505 = .ok (.lload 59, 2) := by decide +kernel
theorem d_Cu_multiply_507 : decode b_Cu_multiply 507 = .ok (.ldc2_w 85, 3) := by decide +kernel
theorem d_Cu_multiply_510 : decode b_Cu_multiply 510 = .ok (.land, 1) := by decide +kernel
theorem d_Cu_multiply_511 : decode b_Cu_multiply 511 = .ok (.lstore 59, 2) := by decide +kernel
theorem d_Cu_multiply_513 : decode b_Cu_multiply 513 = .ok (.aload_n 2, 1) := by decide +kernel
theorem d_Cu_multiply_514 : decode b_Cu_multiply 514 = .ok (.iconst 0, 1) := by decide +kernel
theorem d_Cu_multiply_515 : decode b_Cu_multiply 515 = .ok (.lload_n 3, 1) := by decide +kernel
theorem d_Cu_multiply_516 : decode b_Cu_multiply 516 = .ok (.lload 23, 2) := by decide +kernel
theorem d_Cu_multiply_518 : decode b_Cu_multiply 518 = .ok (.lmul, 1) := by decide +kernel
theorem d_Cu_multiply_519 : decode b_Cu_multiply 519 = .ok (.lload 43, 2) := by decide +kernel
theorem d_Cu_multiply_521 : decode b_Cu_multiply 521 = .ok (.ldc2_w 125, 3) := by decide +kernel
theorem d_Cu_multiply_524 : decode b_Cu_multiply 524 = .ok (.lmul, 1) := by decide +kernel
theorem d_Cu_multiply_525 : decode b_Cu_multiply 525 = .ok (.ladd, 1) := by decide +kernel
theorem d_Cu_multiply_526 : decode b_Cu_multiply 526 = .ok (.lload 61, 2) := by decide +kernel
theorem d_Cu_multiply_528 : decode b_Cu_multiply 528 = .ok (.ldc2_w 127, 3) := by decide +kernel
theorem d_Cu_multiply_531 : decode b_Cu_multiply 531 = .ok (.lmul, 1) := by decide +kernel
theorem d_Cu_multiply_532 : decode b_Cu_multiply 532 = .ok (.ladd, 1) := by decide +kernel
theorem d_Cu_multiply_533 : decode b_Cu_multiply 533 = .ok (.lastore, 1) := by decide +kernel
theorem d_Cu_multiply_534 : decode b_Cu_multiply 534 = .ok (.aload_n 2, 1) := by decide +kernel
theorem d_Cu_multiply_535 : decode b_Cu_multiply 535 = .ok (.iconst 1, 1) := by decide +kernel
theorem d_Cu_multiply_536 : decode b_Cu_multiply 536 = .ok (.lload_n 3, 1) := by decide +kernel
theorem d_Cu_multiply_537 : decode b_Cu_multiply 537 = .ok (.lload 25, 2) := by decide +kernel
theorem d_Cu_multiply_539 : decode b_Cu_multiply 539 = .ok (.lmul, 1) := by decide +kernel
theorem d_Cu_multiply_540 : decode b_Cu_multiply 540 = .ok (.lload 5, 2) := by decide +kernel
theorem d_Cu_multiply_542 : decode b_Cu_multiply 542 = .ok (.lload 23, 2) := by decide +kernel
theorem d_Cu_multiply_544 : decode b_Cu_multiply 544 = .ok (.lmul, 1) := by decide +kernel
theorem d_Cu_multiply_545 : decode b_Cu_multiply 545 = .ok (.ladd, 1) := by decide +kernel
theorem d_Cu_multiply_546 : decode b_Cu_multiply 546 = .ok (.lload 45, 2) := by decide +kernel
theorem d_Cu_multiply_548 : decode b_Cu_multiply 548 = .ok (.ldc2_w 125, 3) := by decide +kernel
theorem d_Cu_multiply_551 : decode b_Cu_multiply 551 = .ok (.lmul, 1) := by decide +kernel
theorem d_Cu_multiply_552 : decode b_Cu_multiply 552 = .ok (.ladd, 1) := by decide +kernel
theorem d_Cu_multiply_553 : decode b_Cu_multiply 553 = .ok (.lload 43, 2) := by decide +kernel
theorem d_Cu_multiply_555 : decode b_Cu_multiply 555 = .ok (.ldc2_w 129, 3) := by decide +kernel
theorem d_Cu_multiply_558 : decode b_Cu_multiply 558 = .ok (.lmul, 1) := by decide +kernel
theorem d_Cu_multiply_559 : decode b_Cu_multiply 559 = .ok (.ladd, 1) := by decide +kernel
theorem d_Cu_multiply_560 : decode b_Cu_multiply 560 = .ok (.lload 61, 2) := by decide +kernel
theorem d_Cu_multiply_562 : decode b_Cu_multiply 562 = .ok (.ldc2_w 131, 3) := by decide +kernel
theorem d_Cu_multiply_565 : decode b_Cu_multiply 565 = .ok (.lmul, 1) := by decide +kernel
theorem d_Cu_multiply_566 : decode b_Cu_multiply 566 = .ok (.ladd, 1) := by decide +kernel
theorem d_Cu_multiply_567 : decode b_Cu_multiply 567 = .ok (.lastore, 1) := by decide +kernel
theorem d_Cu_multiply_568 : decode b_Cu_multiply 568 = .ok (.aload_n 2, 1) := by decide +kernel
theorem d_Cu_multiply_569 : decode b_Cu_multiply 569 = .ok (.iconst 2, 1) := by decide +kernel
theorem d_Cu_multiply_570 : decode b_Cu_multiply 570 = .ok (.lload_n 3, 1) := by decide +kernel
theorem d_Cu_multiply_571 : decode b_Cu_multiply 571 = .ok (.lload 27, 2) := by decide +kernel
theorem d_Cu_multiply_573 : decode b_Cu_multiply 573 = .ok (.lmul, 1) := by decide +kernel
theorem d_Cu_multiply_574 : decode b_Cu_multiply 574 = .ok (.lload 5, 2) := by decide +kernel
theorem d_Cu_multiply_576 : decode b_Cu_multiply 576 = .ok (.lload 25, 2) := by decide +kernel
theorem d_Cu_multiply_578 : decode b_Cu_multiply 578 = .ok (.lmul, 1) := by decide +kernel
theorem d_Cu_multiply_579 : decode b_Cu_multiply 579 = .ok (.ladd, 1) := by decide +kernel
theorem d_Cu_multiply_580 : decode b_Cu_multiply 580 = .ok (.lload 7, 2) := by decide +kernel
theorem d_Cu_multiply_582 : decode b_Cu_multiply 582 = .ok (.lload 23, 2) := by decide +kernel
theorem d_Cu_multiply_584 : decode b_Cu_multiply 584 = .ok (.lmul, 1) := by decide +kernel
theorem d_Cu_multiply_585 : decode b_Cu_multiply 585 = .ok (.ladd, 1) := by decide +kernel
theorem d_Cu_multiply_586 : decode b_Cu_multiply 586 = .ok (.lload 47, 2) := by decide +kernel
theorem d_Cu_multiply_588 : decode b_Cu_multiply 588 = .ok (.ldc2_w 125, 3) := by decide +kernel
theorem d_Cu_multiply_591 : decode b_Cu_multiply 591 = .ok (.lmul, 1) := by decide +kernel
theorem d_Cu_multiply_592 : decode b_Cu_multiply 592 = .ok (.ladd, 1) := by decide +kernel
theorem d_Cu_multiply_593 : decode b_Cu_multiply 593 = .ok (.lload 45, 2) := by decide +kernel
theorem d_Cu_multiply_595 : decode b_Cu_multiply 595 = .ok (.ldc2_w 129, 3) := by decide +kernel
theorem d_Cu_multiply_598 : decode b_Cu_multiply 598 = .ok (.lmul, 1) := by decide +kernel
theorem d_Cu_multiply_599 : decode b_Cu_multiply 599 = .ok (.ladd, 1) := by decide +kernel
theorem d_Cu_multiply_600 : decode b_Cu_multiply 600 = .ok (.lastore, 1) := by decide +kernel
theorem d_Cu_multiply_601 : decode b_Cu_multiply 601 = .ok (.aload_n 2, 1) := by decide +kernel
theorem d_Cu_multiply_602 : decode b_Cu_multiply 602 = .ok (.iconst 3, 1) := by decide +kernel
theorem d_Cu_multiply_603 : decode b_Cu_multiply 603 = .ok (.lload_n 3, 1) := by decide +kernel
theorem d_Cu_multiply_604 : decode b_Cu_multiply 604 = .ok (.lload 29, 2) := by decide +kernel
theorem d_Cu_multiply_606 : decode b_Cu_multiply 606 = .ok (.lmul, 1) := by decide +kernel
theorem d_Cu_multiply_607 : decode b_Cu_multiply 607 = .ok (.lload 5, 2) := by decide +kernel
theorem d_Cu_multiply_609 : decode b_Cu_multiply 609 = .ok (.lload 27, 2) := by decide +kernel
theorem d_Cu_multiply_611 : decode b_Cu_multiply 611 = .ok (.lmul, 1) := by decide +kernel
theorem d_Cu_multiply_612 : decode b_Cu_multiply 612 = .ok (.ladd, 1) := by decide +kernel
theorem d_Cu_multiply_613 : decode b_Cu_multiply 613 = .ok (.lload 7, 2) := by decide +kernel
theorem d_Cu_multiply_615 : decode b_Cu_multiply 615 = .ok (.lload 25, 2) := by decide +kernel
theorem d_Cu_multiply_617 : decode b_Cu_multiply 617 = .ok (.lmul, 1) := by decide +kernel
theorem d_Cu_multiply_618 : decode b_Cu_multiply 618 = .ok (.ladd, 1) := by decide +kernel
theorem d_Cu_multiply_619 : decode b_Cu_multiply 619 = .ok (.lload 9, 2) := by decide +kernel
theorem d_Cu_multiply_621 : decode b_Cu_multiply 621 = .ok (.lload 23, 2) := by decide +kernel
theorem d_Cu_multiply_623 : decode b_Cu_multiply 623 = .ok (.lmul, 1) := by decide +kernel
theorem d_Cu_multiply_624 : decode b_Cu_multiply 624 = .ok (.ladd, 1) := by decide +kernel
theorem d_Cu_multiply_625 : decode b_Cu_multiply 625 = .ok (.lload 49, 2) := by decide +kernel
theorem d_Cu_multiply_627 : decode b_Cu_multiply 627 = .ok (.ldc2_w 125, 3) := by decide +kernel
theorem d_Cu_multiply_630 : decode b_Cu_multiply 630 = .ok (.lmul, 1) := by decide +kernel
theorem d_Cu_multiply_631 : decode b_Cu_multiply 631 = .ok (.ladd, 1) := by decide +kernel
theorem d_Cu_multiply_632 : decode b_Cu_multiply 632 = .ok (.lload 47, 2) := by decide +kernel
theorem d_Cu_multiply_634 : decode b_Cu_multiply 634 = .ok (.ldc2_w 129, 3) := by decide +kernel
theorem d_Cu_multiply_637 : decode b_Cu_multiply 637 = .ok (.lmul, 1) := by decide +kernel
theorem d_Cu_multiply_638 : decode b_Cu_multiply 638 = .ok (.ladd, 1) := by decide +kernel
theorem d_Cu_multiply_639 : decode b_Cu_multiply 639 = .ok (.lastore, 1) := by decide +kernel
theorem d_Cu_multiply_640 : decode b_Cu_multiply 640 = .ok (.aload_n 2, 1) := by decide +kernel
theorem d_Cu_multiply_641 : decode b_Cu_multiply 641 = .ok (.iconst 4, 1) := by decide +kernel
theorem d_Cu_multiply_642 : decode b_Cu_multiply 642 = .ok (.lload_n 3, 1) := by decide +kernel
theorem d_Cu_multiply_643 : decode b_Cu_multiply 643 = .ok (.lload 31, 2) := by decide +kernel
theorem d_Cu_multiply_645 : decode b_Cu_multiply 645 = .ok (.lmul, 1) := by decide +kernel
theorem d_Cu_multiply_646 : decode b_Cu_multiply 646 = .ok (.lload 5, 2) := by decide +kernel
theorem d_Cu_multiply_648 : decode b_Cu_multiply 648 = .ok (.lload 29, 2) := by decide +kernel
theorem d_Cu_multiply_650 : decode b_Cu_multiply 650 = .ok (.lmul, 1) := by decide +kernel
theorem d_Cu_multiply_651 : decode b_Cu_multiply 651 = .ok (.ladd, 1) := by decide +kernel
theorem d_Cu_multiply_652 : decode b_Cu_multiply 652 = .ok (.lload 7, 2) := by decide +kernel
theorem d_Cu_multiply_654 : decode b_Cu_multiply 654 = .ok (.lload 27, 2) := by decide +kernel
theorem d_Cu_multiply_656 : decode b_Cu_multiply 656 = .ok (.lmul, 1) := by decide +kernel
theorem d_Cu_multiply_657 : decode b_Cu_multiply 657 = .ok (.ladd, 1) := by decide +kernel
theorem d_Cu_multiply_658 : decode b_Cu_multiply 658 = .ok (.lload 9, 2) := by decide +kernel
theorem d_Cu_multiply_660 : decode b_Cu_multiply 660 = .ok (.lload 25, 2) := by decide +kernel
theorem d_Cu_multiply_662 : decode b_Cu_multiply 662 = .ok (.lmul, 1) := by decide +kernel
theorem d_Cu_multiply_663 : decode b_Cu_multiply 663 = .ok (.ladd, 1) := by decide +kernel
theorem d_Cu_multiply_664 : decode b_Cu_multiply 664 = .ok (.lload 11, 2) := by decide +kernel
theorem d_Cu_multiply_666 : decode b_Cu_multiply 666 = .ok (.lload 23, 2) := by decide +kernel
theorem d_Cu_multiply_668 : decode b_Cu_multiply 668 = .ok (.lmul, 1) := by decide +kernel
theorem d_Cu_multiply_669 : decode b_Cu_multiply 669 = .ok (.ladd, 1) := by decide +kernel
theorem d_Cu_multiply_670 : decode b_Cu_multiply 670 = .ok (.lload 51, 2) := by decide +kernel
theorem d_Cu_multiply_672 : decode b_Cu_multiply 672 = .ok (.ldc2_w 125, 3) := by decide +kernel
theorem d_Cu_multiply_675 : decode b_Cu_multiply 675 = .ok (.lmul, 1) := by decide +kernel
theorem d_Cu_multiply_676 : decode b_Cu_multiply 676 = .ok (.ladd, 1) := by decide +kernel
theorem d_Cu_multiply_677 : decode b_Cu_multiply 677 = .ok (.lload 49, 2) := by decide +kernel
theorem d_Cu_multiply_679 : decode b_Cu_multiply 679 = .ok (.ldc2_w 129, 3) := by decide +kernel
theorem d_Cu_multiply_682 : decode b_Cu_multiply 682 = .ok (.lmul, 1) := by decide +kernel
theorem d_Cu_multiply_683 : decode b_Cu_multiply 683 = .ok (.ladd, 1) := by decide +kernel
theorem d_Cu_multiply_684 : decode b_Cu_multiply 684 = .ok (.lastore, 1) := by decide +kernel
theorem d_Cu_multiply_685 : decode b_Cu_multiply 685 = .ok (.aload_n 2, 1) := by decide +kernel
theorem d_Cu_multiply_686 : decode b_Cu_multiply 686 = .ok (.iconst 5, 1) := by decide +kernel
theorem d_Cu_multiply_687 : decode b_Cu_multiply 687 = .ok (.lload_n 3, 1) := by decide +kernel
theorem d_Cu_multiply_688 : decode b_Cu_multiply 688 = .ok (.lload 33, 2) := by decide +kernel
theorem d_Cu_multiply_690 : decode b_Cu_multiply 690 = .ok (.lmul, 1) := by decide +kernel
theorem d_Cu_multiply_691 : decode b_Cu_multiply 691 = .ok (.lload 5, 2) := by decide +kernel
theorem d_Cu_multiply_693 : decode b_Cu_multiply 693 = .ok (.lload 31, 2) := by decide +kernel
theorem d_Cu_multiply_695 : decode b_Cu_multiply 695 = .ok (.lmul, 1) := by decide +kernel
theorem d_Cu_multiply_696 : decode b_Cu_multiply 696 = .ok (.ladd, 1) := by decide +kernel
theorem d_Cu_multiply_697 : decode b_Cu_multiply 697 = .ok (.lload 7, 2) := by decide +kernel
theorem d_Cu_multiply_699 : decode b_Cu_multiply 699 = .ok (.lload 29, 2) := by decide +kernel
theorem d_Cu_multiply_701 : decode b_Cu_multiply 701 = .ok (.lmul, 1) := by decide +kernel
theorem d_Cu_multiply_702 : decode b_Cu_multiply 702 = .ok (.ladd, 1) := by decide +kernel
theorem d_Cu_multiply_703 : decode b_Cu_multiply 703 = .ok (.lload 9, 2) := by decide +kernel
theorem d_Cu_multiply_705 : decode b_Cu_multiply 705 = .ok (.lload 27, 2) := by decide +kernel
theorem d_Cu_multiply_707 : decode b_Cu_multiply 707 = .ok (.lmul, 1) := by decide +kernel
theorem d_Cu_multiply_708 : decode b_Cu_multiply 708 = .ok (.ladd, 1) := by decide +kernel
theorem d_Cu_multiply_709 : decode b_Cu_multiply 709 = .ok (.lload 11, 2) := by decide +kernel
theorem d_Cu_multiply_711 : decode b_Cu_multiply 711 = .ok (.lload 25, 2) := by decide +kernel
theorem d_Cu_multiply_713 : decode b_Cu_multiply 713 = .ok (.lmul, 1) := by decide +kernel
theorem d_Cu_multiply_714 : decode b_Cu_multiply 714 = .ok (.ladd, 1) := by decide +kernel
theorem d_Cu_multiply_715 : decode b_Cu_multiply 715 = .ok (.lload 13, 2) := by decide +kernel
theorem d_Cu_multiply_717 : decode b_Cu_multiply 717 = .ok (.lload 23, 2) := by decide +kernel
theorem d_Cu_multiply_719 : decode b_Cu_multiply 719 = .ok (.lmul, 1) := by decide +kernel
theorem d_Cu_multiply_720 : decode b_Cu_multiply 720 = .ok (.ladd, 1) := by decide +kernel
theorem d_Cu_multiply_721 : decode b_Cu_multiply 721 = .ok (.lload 53, 2) := by decide +kernel
theorem d_Cu_multiply_723 : decode b_Cu_multiply 723 = .ok (.ldc2_w 125, 3) := by decide +kernel
theorem d_Cu_multiply_726 : decode b_Cu_multiply 726 = .ok (.lmul, 1) := by decide +kernel
theorem d_Cu_multiply_727 : decode b_Cu_multiply 727 = .ok (.ladd, 1) := by decide +kernel
theorem d_Cu_multiply_728 : decode b_Cu_multiply 728 = .ok (.lload 51, 2) := by decide +kernel
theorem d_Cu_multiply_730 : decode b_Cu_multiply 730 = .ok (.ldc2_w 129, 3) := by decide +kernel
theorem d_Cu_multiply_733 : decode b_Cu_multiply 733 = .ok (.lmul, 1) := by decide +kernel
theorem d_Cu_multiply_734 : decode b_Cu_multiply 734 = .ok (.ladd, 1) := by decide +kernel
theorem d_Cu_multiply_735 : decode b_Cu_multiply 735 = .ok (.lastore, 1) := by decide +kernel
theorem d_Cu_multiply_736 : decode b_Cu_multiply 736 = .ok (.aload_n 2, 1) := by decide +kernel
theorem d_Cu_multiply_737 : decode b_Cu_multiply 737 = .ok (.bipush 6, 2) := by decide +kernel
theorem d_Cu_multiply_739 : decode b_Cu_multiply 739 = .ok (.lload_n 3, 1) := by decide +kernel
theorem d_Cu_multiply_740 : decode b_Cu_multiply 740 = .ok (.lload 35, 2) := by decide +kernel
theorem d_Cu_multiply_742 : decode b_Cu_multiply 742 = .ok (.lmul, 1) := by decide +kernel
theorem d_Cu_multiply_743 : decode b_Cu_multiply 743 = .ok (.lload 5, 2) := by decide +kernel
theorem d_Cu_multiply_745 : decode b_Cu_multiply 745 = .ok (.lload 33, 2) := by decide +kernel
theorem d_Cu_multiply_747 : decode b_Cu_multiply 747 = .ok (.lmul, 1) := by decide +kernel
theorem d_Cu_multiply_748 : decode b_Cu_multiply 748 = .ok (.ladd, 1) := by decide +kernel
theorem d_Cu_multiply_749 : decode b_Cu_multiply 749 = .ok (.lload 7, 2) := by decide +kernel
theorem d_Cu_multiply_751 : decode b_Cu_multiply 751 = .ok (.lload 31, 2) := by decide +kernel
theorem d_Cu_multiply_753 : decode b_Cu_multiply 753 = .ok (.lmul, 1) := by decide +kernel
theorem d_Cu_multiply_754 : decode b_Cu_multiply 754 = .ok (.ladd, 1) := by decide +kernel
theorem d_Cu_multiply_755 : decode b_Cu_multiply 755 = .ok (.lload 9, 2) := by decide +kernel
theorem d_Cu_multiply_757 : decode b_Cu_multiply 757 = .ok (.lload 29, 2) := by decide +kernel
theorem d_Cu_multiply_759 : decode b_Cu_multiply 759 = .ok (.lmul, 1) := by decide +kernel
theorem d_Cu_multiply_760 : decode b_Cu_multiply 760 = .ok (.ladd, 1) := by decide +kernel
theorem d_Cu_multiply_761 : decode b_Cu_multiply 761 = .ok (.lload 11, 2) := by decide +kernel
theorem d_Cu_multiply_763 : decode b_Cu_multiply 763 = .ok (.lload 27, 2) := by decide +kernel
theorem d_Cu_multiply_765 : decode b_Cu_multiply 765 = .ok (.lmul, 1) := by decide +kernel
theorem d_Cu_multiply_766 : decode b_Cu_multiply 766 = .ok (.ladd, 1) := by decide +kernel
theorem d_Cu_multiply_767 : decode b_Cu_multiply 767 = .ok (.lload 13, 2) := by decide +kernel
theorem d_Cu_multiply_769 : decode b_Cu_multiply 769 = .ok (.lload 25, 2) := by decide +kernel
theorem d_Cu_multiply_771 : decode b_Cu_multiply 771 = .ok (.lmul, 1) := by decide +kernel
theorem d_Cu_multiply_772 : decode b_Cu_multiply 772 = .ok (.ladd, 1) := by decide +kernel
theorem d_Cu_multiply_773 : decode b_Cu_multiply 773 = .ok (.lload 15, 2) := by decide +kernel
theorem d_Cu_multiply_775 : decode b_Cu_multiply 775 = .ok (.lload 23, 2) := by decide +kernel
theorem d_Cu_multiply_777 : decode b_Cu_multiply 777 = .ok (.lmul, 1) := by decide +kernel
theorem d_Cu_multiply_778 : decode b_Cu_multiply 778 = .ok (.ladd, 1) := by decide +kernel
theorem d_Cu_multiply_779 : decode b_Cu_multiply 779 = .ok (.lload 55, 2) := by decide +kernel
theorem d_Cu_multiply_781 : decode b_Cu_multiply 781 = .ok (.ldc2_w 125, 3) := by decide +kernel
theorem d_Cu_multiply_784 : decode b_Cu_multiply 784 = .ok (.lmul, 1) := by decide +kernel
theorem d_Cu_multiply_785 : decode b_Cu_multiply 785 = .ok (.ladd, 1) := by decide +kernel
theorem d_Cu_multiply_786 : decode b_Cu_multiply 786 = .ok (.lload 53, 2) := by decide +kernel
theorem d_Cu_multiply_788 : decode b_Cu_multiply 788 = .ok (.ldc2_w 129, 3) := by decide +kernel
theorem d_Cu_multiply_791 : decode b_Cu_multiply 791 = .ok (.lmul, 1) := by decide +kernel
theorem d_Cu_multiply_792 : decode b_Cu_multiply 792 = .ok (.ladd, 1) := by decide +kernel
theorem d_Cu_multiply_793 : decode b_Cu_multiply 793 = .ok (.lastore, 1) := by decide +kernel
theorem d_Cu_multiply_794 : decode b_Cu_multiply 794 = .ok (.aload_n 2, 1) := by decide +kernel
theorem d_Cu_multiply_795 : decode b_Cu_multiply 795 = .ok (.bipush 7, 2) := by decide +kernel
theorem d_Cu_multiply_797 : decode b_Cu_multiply 797 = .ok (.lload_n 3, 1) := by decide +kernel
theorem d_Cu_multiply_798 : decode b_Cu_multiply 798 = .ok (.lload 37, 2) := by decide +kernel
theorem d_Cu_multiply_800 : decode b_Cu_multiply 800 = .ok (.lmul, 1) := by decide +kernel
theorem d_Cu_multiply_801 : decode b_Cu_multiply 801 = .ok (.lload 5, 2) := by decide +kernel
theorem d_Cu_multiply_803 : decode b_Cu_multiply 803 = .ok (.lload 35, 2) := by decide +kernel
theorem d_Cu_multiply_805 : decode b_Cu_multiply 805 = .ok (.lmul, 1) := by decide +kernel
theorem d_Cu_multiply_806 : decode b_Cu_multiply 806 = .ok (.ladd, 1) := by decide +kernel
theorem d_Cu_multiply_807 : decode b_Cu_multiply 807 = .ok (.lload 7, 2) := by decide +kernel
theorem d_Cu_multiply_809 : decode b_Cu_multiply 809 = .ok (.lload 33, 2) := by decide +kernel
theorem d_Cu_multiply_811 : decode b_Cu_multiply 811 = .ok (.lmul, 1) := by decide +kernel
theorem d_Cu_multiply_812 : decode b_Cu_multiply 812 = .ok (.ladd, 1) := by decide +kernel
theorem d_Cu_multiply_813 : decode b_Cu_multiply 813 = .ok (.lload 9, 2) := by decide +kernel
theorem d_Cu_multiply_815 : decode b_Cu_multiply 815 = .ok (.lload 31, 2) := by decide +kernel
theorem d_Cu_multiply_817 : decode b_Cu_multiply 817 = .ok (.lmul, 1) := by decide +kernel
theorem d_Cu_multiply_818 : decode b_Cu_multiply 818 = .ok (.ladd, 1) := by decide +kernel
theorem d_Cu_multiply_819 : decode b_Cu_multiply 819 = .ok (.lload 11, 2) := by decide +kernel
theorem d_Cu_multiply_821 : decode b_Cu_multiply 821 = .ok (.lload 29, 2) := by decide +kernel
theorem d_Cu_multiply_823 : decode b_Cu_multiply 823 = .ok (.lmul, 1) := by decide +kernel
theorem d_Cu_multiply_824 : decode b_Cu_multiply 824 = .ok (.ladd, 1) := by decide +kernel
theorem d_Cu_multiply_825 : decode b_Cu_multiply 825 = .ok (.lload 13, 2) := by decide +kernel
theorem d_Cu_multiply_827 : decode b_Cu_multiply 827 = .ok (.lload 27, 2) := by decide +kernel
theorem d_Cu_multiply_829 : decode b_Cu_multiply 829 = .ok (.lmul, 1) := by decide +kernel
theorem d_Cu_multiply_830 : decode b_Cu_multiply 830 = .ok (.ladd, 1) := by decide +kernel
theorem d_Cu_multiply_831 : decode b_Cu_multiply 831 = .ok (.lload 15, 2) := by decide +kernel
theorem d_Cu_multiply_833 : decode b_Cu_multiply 833 = .ok (.lload 25, 2) := by decide +kernel
theorem d_Cu_multiply_835 : decode b_Cu_multiply 835 = .ok (.lmul, 1) := by decide +kernel
theorem d_Cu_multiply_836 : decode b_Cu_multiply 836 = .ok (.ladd, 1) := by decide +kernel
theorem d_Cu_multiply_837 : decode b_Cu_multiply 837 = .ok (.lload 17, 2) := by decide +kernel
theorem d_Cu_multiply_839 : decode b_Cu_multiply 839 = .ok (.lload 23, 2) := by decide +kernel
theorem d_Cu_multiply_841 : decode b_Cu_multiply 841 = .ok (.lmul, 1) := by decide +kernel
theorem d_Cu_multiply_842 : decode b_Cu_multiply 842 = .ok (.ladd, 1) := by decide +kernel
theorem d_Cu_multiply_843 : decode b_Cu_multiply 843 = .ok (.lload 57, 2) := by decide +kernel
theorem d_Cu_multiply_845 : decode b_Cu_multiply 845 = .ok (.ldc2_w 125, 3) := by decide +kernel
theorem d_Cu_multiply_848 : decode b_Cu_multiply 848 = .ok (.lmul, 1) := by decide +kernel
theorem d_Cu_multiply_849 : decode b_Cu_multiply 849 = .ok (.ladd, 1) := by decide +kernel
theorem d_Cu_multiply_850 : decode b_Cu_multiply 850 = .ok (.lload 55, 2) := by decide +kernel
theorem d_Cu_multiply_852 : decode b_Cu_multiply 852 = .ok (.ldc2_w 129, 3) := by decide +kernel
theorem d_Cu_multiply_855 : decode b_Cu_multiply 855 = .ok (.lmul, 1) := by decide +kernel
theorem d_Cu_multiply_856 : decode b_Cu_multiply 856 = .ok (.ladd, 1) := by decide +kernel
theorem d_Cu_multiply_857 : decode b_Cu_multiply 857 = .ok (.lastore, 1) := by decide +kernel
theorem d_Cu_multiply_858 : decode b_Cu_multiply 858 = .ok (.aload_n 2, 1) := by decide +kernel
theorem d_Cu_multiply_859 : decode b_Cu_multiply 859 = .ok (.bipush 8, 2) := by decide +kernel
theorem d_Cu_multiply_861 : decode b_Cu_multiply 861 = .ok (.lload_n 3, 1) := by decide +kernel
theorem d_Cu_multiply_862 : decode b_Cu_multiply 862 = .ok (.lload 39, 2) := by decide +kernel
theorem d_Cu_multiply_864 : decode b_Cu_multiply 864 = .ok (.lmul, 1) := by decide +kernel
theorem d_Cu_multiply_865 : decode b_Cu_multiply 865 = .ok (.lload 5, 2) := by decide +kernel
theorem d_Cu_multiply_867 : decode b_Cu_multiply 867 = .ok (.lload 37, 2) := by decide +kernel
theorem d_Cu_multiply_869 : decode b_Cu_multiply 869 = .ok (.lmul, 1) := by decide +kernel
theorem d_Cu_multiply_870 : decode b_Cu_multiply 870 = .ok (.ladd, 1) := by decide +kernel
theorem d_Cu_multiply_871 : decode b_Cu_multiply 871 = .ok (.lload 7, 2) := by decide +kernel
theorem d_Cu_multiply_873 : decode b_Cu_multiply 873 = .ok (.lload 35, 2) := by decide +kernel
theorem d_Cu_multiply_875 : decode b_Cu_multiply 875 = .ok (.lmul, 1) := by decide +kernel
theorem d_Cu_multiply_876 : decode b_Cu_multiply 876 = .ok (.ladd, 1) := by decide +kernel
theorem d_Cu_multiply_877 : decode b_Cu_multiply 877 = .ok (.lload 9, 2) := by decide +kernel
theorem d_Cu_multiply_879 : decode b_Cu_multiply 879 = .ok (.lload 33, 2) := by decide +kernel
theorem d_Cu_multiply_881 : decode b_Cu_multiply 881 = .ok (.lmul, 1) := by decide +kernel
theorem d_Cu_multiply_882 : decode b_Cu_multiply 882 = .ok (.ladd, 1) := by decide +kernel
theorem d_Cu_multiply_883 : decode b_Cu_multiply 883 = .ok (.lload 11, 2) := by decide +kernel
theorem d_Cu_multiply_885 : decode b_Cu_multiply 885 = .ok (.lload 31, 2) := by decide +kernel
theorem d_Cu_multiply_887 : decode b_Cu_multiply 887 = .ok (.lmul, 1) := by decide +kernel
theorem d_Cu_multiply_888 : decode b_Cu_multiply 888 = .ok (.ladd, 1) := by decide +kernel
theorem d_Cu_multiply_889 : decode b_Cu_multiply 889 = .ok (.lload 13, 2) := by decide +kernel
theorem d_Cu_multiply_891 : decode b_Cu_multiply 891 = .ok (.lload 29, 2) := by decide +kernel
theorem d_Cu_multiply_893 : decode b_Cu_multiply 893 = .ok (.lmul, 1) := by decide +kernel
theorem d_Cu_multiply_894 : decode b_Cu_multiply 894 = .ok (.ladd, 1) := by decide +kernel
theorem d_Cu_multiply_895 : decode b_Cu_multiply 895 = .ok (.lload 15, 2) := by decide +kernel
theorem d_Cu_multiply_897 : decode b_Cu_multiply 897 = .ok (.lload 27, 2) := by decide +kernel
theorem d_Cu_multiply_899 : decode b_Cu_multiply 899 = .ok (.lmul, 1) := by decide +kernel
theorem d_Cu_multiply_900 : decode b_Cu_multiply 900 = .ok (.ladd, 1) := by decide +kernel
theorem d_Cu_multiply_901 : decode b_Cu_multiply 901 = .ok (.lload 17, 2) := by decide +kernel
theorem d_Cu_multiply_903 : decode b_Cu_multiply 903 = .ok (.lload 25, 2) := by decide +kernel
theorem d_Cu_multiply_905 : decode b_Cu_multiply 905 = .ok (.lmul, 1) := by decide +kernel
theorem d_Cu_multiply_906 : decode b_Cu_multiply 906 = .ok (.ladd, 1) := by decide +kernel
theorem d_Cu_multiply_907 : decode b_Cu_multiply 907 = .ok (.lload 19, 2) := by decide +kernel
theorem d_Cu_multiply_909 : decode b_Cu_multiply 909 = .ok (.lload 23, 2) := by decide +kernel
theorem d_Cu_multiply_911 : decode b_Cu_multiply 911 = .ok (.lmul, 1) := by decide +kernel
theorem d_Cu_multiply_912 : decode b_Cu_multiply 912 = .ok (.ladd, 1) := by decide +kernel
theorem d_Cu_multiply_913 : decode b_Cu_multiply 913 = .ok (.lload 59, 2) := by decide +kernel
theorem d_Cu_multiply_915 : decode b_Cu_multiply 915 = .ok (.ldc2_w 125, 3) := by decide +kernel
theorem d_Cu_multiply_918 : decode b_Cu_multiply 918 = .ok (.lmul, 1) := by decide +kernel
theorem d_Cu_multiply_919 : decode b_Cu_multiply 919 = .ok (.ladd, 1) := by decide +kernel
theorem d_Cu_multiply_920 : decode b_Cu_multiply 920 = .ok (.lload 57, 2) := by decide +kernel
theorem d_Cu_multiply_922 : decode b_Cu_multiply 922 = .ok (.ldc2_w 129, 3) := by decide +kernel
theorem d_Cu_multiply_925 : decode b_Cu_multiply 925 = .ok (.lmul, 1) := by decide +kernel
theorem d_Cu_multiply_926 : decode b_Cu_multiply 926 = .ok (.ladd, 1) := by decide +kernel
theorem d_Cu_multiply_927 : decode b_Cu_multiply 927 = .ok (.lastore, 1) := by decide +kernel
theorem d_Cu_multiply_928 : decode b_Cu_multiply 928 = .ok (.aload_n 2, 1) := by decide +kernel
theorem d_Cu_multiply_929 : decode b_Cu_multiply 929 = .ok (.bipush 9, 2) := by decide +kernel
theorem d_Cu_multiply_931 : decode b_Cu_multiply 931 = .ok (.lload_n 3, 1) := by decide +kernel
theorem d_Cu_multiply_932 : decode b_Cu_multiply 932 = .ok (.lload 41, 2) := by decide +kernel
theorem d_Cu_multiply_934 : decode b_Cu_multiply 934 = .ok (.lmul, 1) := by decide +kernel
theorem d_Cu_multiply_935 : decode b_Cu_multiply 935 = .ok (.lload 5, 2) := by decide +kernel
theorem d_Cu_multiply_937 : decode b_Cu_multiply 937 = .ok (.lload 39, 2) := by decide +kernel
theorem d_Cu_multiply_939 : decode b_Cu_multiply 939 = .ok (.lmul, 1) := by decide +kernel
theorem d_Cu_multiply_940 : decode b_Cu_multiply 940 = .ok (.ladd, 1) := by decide +kernel
theorem d_Cu_multiply_941 : decode b_Cu_multiply 941 = .ok (.lload 7, 2) := by decide +kernel
theorem d_Cu_multiply_943 : decode b_Cu_multiply 943 = .ok (.lload 37, 2) := by decide +kernel
theorem d_Cu_multiply_945 : decode b_Cu_multiply 945 = .ok (.lmul, 1) := by decide +kernel
theorem d_Cu_multiply_946 : decode b_Cu_multiply 946 = .ok (.ladd, 1) := by decide +kernel
theorem d_Cu_multiply_947 : decode b_Cu_multiply 947 = .ok (.lload 9, 2) := by decide +kernel
theorem d_Cu_multiply_949 : decode b_Cu_multiply 949 = .ok (.lload 35, 2) := by decide +kernel
theorem d_Cu_multiply_951 : decode b_Cu_multiply 951 = .ok (.lmul, 1) := by decide +kernel
theorem d_Cu_multiply_952 : decode b_Cu_multiply 952 = .ok (.ladd, 1) := by decide +kernel
theorem d_Cu_multiply_953 : decode b_Cu_multiply 953 = .ok (.lload 11, 2) := by decide +kernel
theorem d_Cu_multiply_955 : decode b_Cu_multiply 955 = .ok (.lload 33, 2) := by decide +kernel
theorem d_Cu_multiply_957 : decode b_Cu_multiply 957 = .ok (.lmul, 1) := by decide +kernel
theorem d_Cu_multiply_958 : decode b_Cu_multiply 958 = .ok (.ladd, 1) := by decide +kernel
theorem d_Cu_multiply_959 : decode b_Cu_multiply 959 = .ok (.lload 13, 2) := by decide +kernel
theorem d_Cu_multiply_961 : decode b_Cu_multiply 961 = .ok (.lload 31, 2) := by decide +kernel
theorem d_Cu_multiply_963 : decode b_Cu_multiply 963 = .ok (.lmul, 1) := by decide +kernel
theorem d_Cu_multiply_964 : decode b_Cu_multiply 964 = .ok (.ladd, 1) := by decide +kernel
theorem d_Cu_multiply_965 : decode b_Cu_multiply 965 = .ok (.lload 15, 2) := by decide +kernel
theorem d_Cu_multiply_967 : decode b_Cu_multiply 967 = .ok (.lload 29, 2) := by decide +kernel
theorem d_Cu_multiply_969 : decode b_Cu_multiply 969 = .ok (.lmul, 1) := by decide +kernel
theorem d_Cu_multiply_970 : decode b_Cu_multiply 970 = .ok (.ladd, 1) := by decide +kernel
theorem d_Cu_multiply_971 : decode b_Cu_multiply 971 = .ok (.lload 17, 2) := by decide +kernel
theorem d_Cu_multiply_973 : decode b_Cu_multiply 973 = .ok (.lload 27, 2) := by decide +kernel
theorem d_Cu_multiply_975 : decode b_Cu_multiply 975 = .ok (.lmul, 1) := by decide +kernel
theorem d_Cu_multiply_976 : decode b_Cu_multiply 976 = .ok (.ladd, 1) := by decide +kernel
theorem d_Cu_multiply_977 : decode b_Cu_multiply 977 = .ok (.lload 19, 2) := by decide +kernel
theorem d_Cu_multiply_979 : decode b_Cu_multiply 979 = .ok (.lload 25, 2) := by decide +kernel
theorem d_Cu_multiply_981 : decode b_Cu_multiply 981 = .ok (.lmul, 1) := by decide +kernel
theorem d_Cu_multiply_982 : decode b_Cu_multiply 982 = .ok (.ladd, 1) := by decide +kernel
theorem d_Cu_multiply_983 : decode b_Cu_multiply 983 = .ok (.lload 21, 2) := by decide +kernel
theorem d_Cu_multiply_985 : decode b_Cu_multiply 985 = .ok (.lload 23, 2) := by decide +kernel
theorem d_Cu_multiply_987 : decode b_Cu_multiply 987 = .ok (.lmul, 1) := by decide +kernel
theorem d_Cu_multiply_988 : decode b_Cu_multiply 988 = .ok (.ladd, 1) := by decide +kernel
theorem d_Cu_multiply_989 : decode b_Cu_multiply 989 = .ok (.lload 61, 2) := by decide +kernel
theorem d_Cu_multiply_991 : decode b_Cu_multiply 991 = .ok (.ldc2_w 125, 3) := by decide +kernel
theorem d_Cu_multiply_994 : decode b_Cu_multiply 994 = .ok (.lmul, 1) := by decide +kernel
theorem d_Cu_multiply_995 : decode b_Cu_multiply 995 = .ok (.ladd, 1) := by decide +kernel
theorem d_Cu_multiply_996 : decode b_Cu_multiply 996 = .ok (.lload 59, 2) := by decide +kernel
theorem d_Cu_multiply_998 : decode b_Cu_multiply 998 = .ok (.ldc2_w 129, 3) := by decide +kernel
theorem d_Cu_multiply_1001 : decode b_Cu_multiply 1001 = .ok (.lmul, 1) := by decide +kernel
theorem d_Cu_multiply_1002 : decode b_Cu_multiply 1002 = .ok (.ladd, 1) := by decide +kernel
theorem d_Cu_multiply_1003 : decode b_Cu_multiply 1003 = .ok (.lastore, 1) := by decide +kernel
theorem d_Cu_multiply_1004 : decode b_Cu_multiply 1004 = .ok (.iconst 0, 1) := by decide +kernel
theorem d_Cu_multiply_1005 : decode b_Cu_multiply 1005 = .ok (.istore 63, 2) := by decide +kernel
theorem d_Cu_multiply_1007 : decode b_Cu_multiply 1007 = .ok (.iload 63, 2) := by decide +kernel
theorem d_Cu_multiply_1009 : decode b_Cu_multiply 1009 = .ok (.bipush 9, 2) := by decide +kernel
theorem d_Cu_multiply_1011 : decode b_Cu_multiply 1011 = .ok (.if_icmp .ge 35, 3) := by decide +kernel
theorem d_Cu_multiply_1014 : decode b_Cu_multiply 1014 = .ok (.aload_n 2, 1) := by decide +kernel
theorem d_Cu_multiply_1015 : decode b_Cu_multiply 1015 = .ok (.iload 63, 2) := by decide +kernel
theorem d_Cu_multiply_1017 : decode b_Cu_multiply 1017 = .ok (.iconst 1, 1) := by decide +kernel
theorem d_Cu_multiply_1018 : decode b_Cu_multiply 1018 = .ok (.iadd, 1) := by decide +kernel
theorem d_Cu_multiply_1019 : decode b_Cu_multiply 1019 = .ok (.dup2, 1) := by decide +kernel
theorem d_Cu_multiply_1020 : decode b_Cu_multiply 1020 = .ok (.laload, 1) := by decide +kernel
theorem d_Cu_multiply_1021 : decode b_Cu_multiply 1021 = .ok (.aload_n 2, 1) := by decide +kernel
theorem d_Cu_multiply_1022 : decode b_Cu_multiply 1022 = .ok (.iload 63, 2) := by decide +kernel
theorem d_Cu_multiply_1024 : decode b_Cu_multiply 1024 = .ok (.laload, 1) := by decide +kernel
theorem d_Cu_multiply_1025 : decode b_Cu_multiply 1025 = .ok (.bipush 26, 2) := by decide +kernel
theorem d_Cu_multiply_1027 : decode b_Cu_multiply 1027 = .ok (.lshr, 1) := by decide +kernel
theorem d_Cu_multiply_1028 : decode b_Cu_multiply 1028 = .ok (.ladd, 1) := by decide +kernel
theorem d_Cu_multiply_1029 : decode b_Cu_multiply 1029 = .ok (.lastore, 1) := by decide +kernel
theorem d_Cu_multiply_1030 : decode b_Cu_multiply 1030 = .ok (.aload_n 2, 1) := by decide +kernel
theorem d_Cu_multiply_1031 : decode b_Cu_multiply 1031 = .ok (.iload 63, 2) := by decide +kernel
theorem d_Cu_multiply_1033 : decode b_Cu_multiply 1033 = .ok (.dup2, 1) := by decide +kernel
theorem d_Cu_multiply_1034 : decode b_Cu_multiply 1034 = .ok (.laload, 1) := by decide +kernel
theorem d_Cu_multiply_1035 : decode b_Cu_multiply 1035 = .ok (.ldc2_w 85, 3) := by decide +kernel
theorem d_Cu_multiply_1038 : decode b_Cu_multiply 1038 = .ok (.land, 1) := by decide +kernel
theorem d_Cu_multiply_1039 : decode b_Cu_multiply 1039 = .ok (.lastore, 1) := by decide +kernel
theorem d_Cu_multiply_1040 : decode b_Cu_multiply 1040 = .ok (.iinc 63 1, 3) := by decide +kernel
theorem d_Cu_multiply_1043 : decode b_Cu_multiply 1043 = .ok (.goto (-36), 3) := by decide +kernel
theorem d_Cu_multiply_1046 : decode b_Cu_multiply 1046 = .ok (.aload_n 2, 1) := by decide +kernel
theorem d_Cu_multiply_1047 : decode b_Cu_multiply 1047 = .ok (.bipush 9, 2) := by decide +kernel
theorem d_Cu_multiply_1049 : decode b_Cu_multiply 1049 = .ok (.laload, 1) := by decide +kernel
theorem d_Cu_multiply_1050 : decode b_Cu_multiply 1050 = .ok (.bipush 22, 2) := by decide +kernel
theorem d_Cu_multiply_1052 : decode b_Cu_multiply 1052 = .ok (.lshr, 1) := by decide +kernel
theorem d_Cu_multiply_1053 : decode b_Cu_multiply 1053 = .ok (.lstore 63, 2) := by decide +kernel
theorem d_Cu_multiply_1055 : decode b_Cu_multiply 1055 = .ok (.aload_n 2, 1) := by decide +kernel
theorem d_Cu_multiply_1056 : decode b_Cu_multiply 1056 = .ok (.bipush 9, 2) := by decide +kernel
theorem d_Cu_multiply_1058 : decode b_Cu_multiply 1058 = .ok (.dup2, 1) := by decide +kernel
theorem d_Cu_multiply_1059 : decode b_Cu_multiply 1059 = .ok (.laload, 1) := by decide +kernel
theorem d_Cu_multiply_1060 : decode b_Cu_multiply 1060 = .ok (.ldc2_w 119, 3) := by decide +kernel
theorem d_Cu_multiply_1063 : decode b_Cu_multiply 1063 = .ok (.land, 1) := by decide +kernel
theorem d_Cu_multiply_1064 : decode b_Cu_multiply 1064 = .ok (.lastore, 1) := by decide +kernel
theorem d_Cu_multiply_1065 : decode b_Cu_multiply 1065 = .ok (.aload_n 2, 1) := by decide +kernel
theorem d_Cu_multiply_1066 : decode b_Cu_multiply 1066 = .ok (.iconst 0, 1) := by decide +kernel
theorem d_Cu_multiply_1067 : decode b_Cu_multiply 1067 = .ok (.dup2, 1) := by decide +kernel
theorem d_Cu_multiply_1068 : decode b_Cu_multiply 1068 = .ok (.laload, 1) := by decide +kernel
theorem d_Cu_multiply_1069 : decode b_Cu_multiply 1069 = .ok (.lload 63, 2) := by decide +kernel
theorem d_Cu_multiply_1071 : decode b_Cu_multiply 1071 = .ok (.ldc2_w 121, 3) := by decide +kernel
theorem d_Cu_multiply_1074 : decode b_Cu_multiply 1074 = .ok (.lmul, 1) := by decide +kernel
theorem d_Cu_multiply_1075 : decode b_Cu_multiply 1075 = .ok (.ladd, 1) := by decide +kernel
theorem d_Cu_multiply_1076 : decode b_Cu_multiply 1076 = .ok (.lastore, 1) := by decide +kernel
theorem d_Cu_multiply_1077 : decode b_Cu_multiply 1077 = .ok (.aload_n 2, 1) := by decide +kernel
theorem d_Cu_multiply_1078 : decode b_Cu_multiply 1078 = .ok (.iconst 1, 1) := by decide +kernel
theorem d_Cu_multiply_1079 : decode b_Cu_multiply 1079 = .ok (.dup2, 1) := by decide +kernel
theorem d_Cu_multiply_1080 : decode b_Cu_multiply 1080 = .ok (.laload, 1) := by decide +kernel
theorem d_Cu_multiply_1081 : decode b_Cu_multiply 1081 = .ok (.lload 63, 2) := by decide +kernel
theorem d_Cu_multiply_1083 : decode b_Cu_multiply 1083 = .ok (.bipush 6, 2) := by decide +kernel
theorem d_Cu_multiply_1085 : decode b_Cu_multiply 1085 = .ok (.lshl, 1) := by decide +kernel
theorem d_Cu_multiply_1086 : decode b_Cu_multiply 1086 = .ok (.aload_n 2, 1) := by decide +kernel
theorem d_Cu_multiply_1087 : decode b_Cu_multiply 1087 = .ok (.iconst 0, 1) := by decide +kernel
theorem d_Cu_multiply_1088 : decode b_Cu_multiply 1088 = .ok (.laload, 1) := by decide +kernel
theorem d_Cu_multiply_1089 : decode b_Cu_multiply 1089 = .ok (.bipush 26, 2) := by decide +kernel
theorem d_Cu_multiply_1091 : decode b_Cu_multiply 1091 = .ok (.lshr, 1) := by decide +kernel
theorem d_Cu_multiply_1092 : decode b_Cu_multiply 1092 = .ok (.ladd, 1) := by decide +kernel
theorem d_Cu_multiply_1093 : decode b_Cu_multiply 1093 = .ok (.ladd, 1) := by decide +kernel
theorem d_Cu_multiply_1094 : decode b_Cu_multiply 1094 = .ok (.lastore, 1) := by decide +kernel
theorem d_Cu_multiply_1095 : decode b_Cu_multiply 1095 = .ok (.aload_n 2, 1) := by decide +kernel
theorem d_Cu_multiply_1096 : decode b_Cu_multiply 1096 = .ok (.iconst 0, 1) := by decide +kernel
theorem d_Cu_multiply_1097 : decode b_Cu_multiply 1097 = .ok (.dup2, 1) := by decide +kernel
theorem d_Cu_multiply_1098 : decode b_Cu_multiply 1098 = .ok (.laload, 1) := by decide +kernel
theorem d_Cu_multiply_1099 : decode b_Cu_multiply 1099 = .ok (.ldc2_w 85, 3) := by decide +kernel
theorem d_Cu_multiply_1102 : decode b_Cu_multiply 1102 = .ok (.land, 1) := by decide +kernel
theorem d_Cu_multiply_1103 : decode b_Cu_multiply 1103 = .ok (.lastore, 1) := by decide +kernel
theorem d_Cu_multiply_1104 : decode b_Cu_multiply 1104 = .ok (.aload_n 2, 1) := by decide +kernel
theorem d_Cu_multiply_1105 : decode b_Cu_multiply 1105 = .ok (.iconst 2, 1) := by decide +kernel
theorem d_Cu_multiply_1106 : decode b_Cu_multiply 1106 = .ok (.dup2, 1) := by decide +kernel
theorem d_Cu_multiply_1107 : decode b_Cu_multiply 1107 = .ok (.laload, 1) := by decide +kernel
theorem d_Cu_multiply_1108 : decode b_Cu_multiply 1108 = .ok (.aload_n 2, 1) := by decide +kernel
theorem d_Cu_multiply_1109 : decode b_Cu_multiply 1109 = .ok (.iconst 1, 1) := by decide +kernel
theorem d_Cu_multiply_1110 : decode b_Cu_multiply 1110 = .ok (.laload, 1) := by decide +kernel
theorem d_Cu_multiply_1111 : decode b_Cu_multiply 1111 = .ok (.bipush 26, 2) := by decide +kernel
theorem d_Cu_multiply_1113 : decode b_Cu_multiply 1113 = .ok (.lshr, 1) := by decide +kernel
theorem d_Cu_multiply_1114 : decode b_Cu_multiply 1114 = .ok (.ladd, 1) := by decide +kernel
theorem d_Cu_multiply_1115 : decode b_Cu_multiply 1115 = .ok (.lastore, 1) := by decide +kernel
theorem d_Cu_multiply_1116 : decode b_Cu_multiply 1116 = .ok (.aload_n 2, 1) := by decide +kernel
theorem d_Cu_multiply_1117 : decode b_Cu_multiply 1117 = .ok (.iconst 1, 1) := by decide +kernel
theorem d_Cu_multiply_1118 : decode b_Cu_multiply 1118 = .ok (.dup2, 1) := by decide +kernel
theorem d_Cu_multiply_1119 : decode b_Cu_multiply 1119 = .ok (.laload, 1) := by decide +kernel
theorem d_Cu_multiply_1120 : decode b_Cu_multiply 1120 = .ok (.ldc2_w 85, 3) := by decide +kernel
theorem d_Cu_multiply_1123 : decode b_Cu_multiply 1123 = .ok (.land, 1) := by decide +kernel
theorem d_Cu_multiply_1124 : decode b_Cu_multiply 1124 = .ok (.lastore, 1) := by decide +kernel
theorem d_Cu_multiply_1125 : decode b_Cu_multiply 1125 = .ok (.return_, 1) := by decide +kernel
abbrev rm_Cu_multiply : Room := { frames := 0, cells := 0, slots := 0, locals := 0 }
abbrev q_Cu_multiply (D : va_G) (cy : Nat → ClassId) (A : Nat → Prop) (b0 : Nat) (b1 : Nat) (b2 : Nat) (h0 : Nat → Int64) (h1 : Nat → Int64) (res : (Nat → Int64)) : Array Value → State → Outcome → State → Prop := va_Qv (fun (_ : Unit) => True) (fun _ t => Po D cy A [(b0, .inl (cy 2, 10, .inr (.inl h0))), (b1, .inl (cy 2, 10, .inr (.inl h1))), (b2, .inl (cy 2, 10, .inr (.inl res)))] t) A
def I_Cu_multiply_1007 (p : Program) (l : Launch) (e : Env) (s : State) (m : MethodId) (args : Array Value) (below : List Frame) (meth : Method) (c : Code) (D : va_G) (cy : Nat → ClassId) (A : Nat → Prop) (ad : Nat → Nat) (b0 : Nat) (b1 : Nat) (b2 : Nat) (h0 : Nat → Int64) (h1 : Nat → Int64) (k : Int32 → (Nat → Int64) → Option ((Nat → Int64))) : Prop :=
  ∀ (x63 : Int32) (u0 : Nat → Int64) (res : (Nat → Int64)), k x63 u0 = some res → ∀ (H : Heap) (locs : List Loc) (ls : Array Slot), va_P D classes [(b0, .inl (cy 2, 10, .inr (.inl h0))), (b1, .inl (cy 2, 10, .inr (.inl h1))), (b2, .inl (cy 2, 10, .inr (.inl u0)))] H → va_D A [(b0, .inl (cy 2, 10, .inr (.inl h0))), (b1, .inl (cy 2, 10, .inr (.inl h1))), (b2, .inl (cy 2, 10, .inr (.inl u0)))] → va_S A s.heap H locs → lv_has ls 65 [(2, .ref b2), (63, .int x63)] → W p l e rm_Cu_multiply s m args below meth c H locs 0 0 (MQ below (q_Cu_multiply D cy A b0 b1 b2 h0 h1 res) args s 0 0 A) (F0 m 1007 ls [])
def I_Cu_multiply_e (p : Program) (l : Launch) (e : Env) (s : State) (m : MethodId) (args : Array Value) (below : List Frame) (meth : Method) (c : Code) (D : va_G) (cy : Nat → ClassId) (A : Nat → Prop) (ad : Nat → Nat) (b0 : Nat) (b1 : Nat) (b2 : Nat) (h0 : Nat → Int64) (h1 : Nat → Int64) (k : (Nat → Int64) → Option ((Nat → Int64))) : Prop :=
  ∀ (u0 : Nat → Int64) (res : (Nat → Int64)), k u0 = some res → ∀ (H : Heap) (locs : List Loc) (ls : Array Slot), va_P D classes [(b0, .inl (cy 2, 10, .inr (.inl h0))), (b1, .inl (cy 2, 10, .inr (.inl h1))), (b2, .inl (cy 2, 10, .inr (.inl u0)))] H → va_D A [(b0, .inl (cy 2, 10, .inr (.inl h0))), (b1, .inl (cy 2, 10, .inr (.inl h1))), (b2, .inl (cy 2, 10, .inr (.inl u0)))] → va_S A s.heap H locs → lv_has ls 65 [(0, .ref b0), (1, .ref b1), (2, .ref b2)] → W p l e rm_Cu_multiply s m args below meth c H locs 0 0 (MQ below (q_Cu_multiply D cy A b0 b1 b2 h0 h1 res) args s 0 0 A) (F0 m 0 ls [])
set_option maxHeartbeats 8000000 in
set_option maxRecDepth 100000 in
theorem wb_Cu_multiply_1007 {p : Program} {l : Launch} {e : Env} {s : State} {m : MethodId} {args : Array Value} {below : List Frame} {meth : Method} {c : Code} {D : va_G} {cy : Nat → ClassId} {A : Nat → Prop} {ad : Nat → Nat} {b0 : Nat} {b1 : Nat} {b2 : Nat} {h0 : Nat → Int64} {h1 : Nat → Int64} {fu : Nat} {k_1007 : Int32 → (Nat → Int64) → Option ((Nat → Int64))} (F : Fx p s m args meth c b_Cu_multiply 65 "CoinKeeper$Curve" "multiply" none D cy ad A) (hk_1007 : I_Cu_multiply_1007 p l e s m args below meth c D cy A ad b0 b1 b2 h0 h1 k_1007) : I_Cu_multiply_1007 p l e s m args below meth c D cy A ad b0 b1 b2 h0 h1 (xb_Cu_multiply_1007 fu h0 h1 k_1007) := by
  obtain ⟨hx, hb, hr, hml, hown, hts, hlocks, hK, hA, hSt, hnm, hex⟩ := id F
  intro x63 u0 res hf H locs ls hP hD hS hl
  unfold xb_Cu_multiply_1007 at hf
  refine lv_iload hx hb d_Cu_multiply_1007 (lv_at hl 1 rfl) ?_
  refine lv_bipush (v := 9) hx hb d_Cu_multiply_1009 (by decide) ?_
  refine lv_icmp_ge (tgt := 1046) hx hb d_Cu_multiply_1011 (by decide) (fun cx => ?_) (fun cx => ?_)
  · have hf := ifp cx hf
    refine lv_aload_n hx hb d_Cu_multiply_1046 rfl (lv_at hl 0 rfl) ?_
    refine lv_bipush (v := 9) hx hb d_Cu_multiply_1047 (by decide) ?_
    refine va_lald hx hb hK hP 2 2 rfl rfl (inb_in (by decide)) d_Cu_multiply_1049 ?_
    refine lv_topl (fun v1 ev => ?_)
    have hf := bn ev hf
    clear ev
    refine lv_bipush (v := 22) hx hb d_Cu_multiply_1050 (by decide) ?_
    refine lv_lshr hx hb d_Cu_multiply_1052 rfl ?_
    refine lv_topl (fun v2 ev => ?_)
    have hf := bn ev hf
    clear ev
    refine lv_lstore (lv' := [(63, .long v2), (2, .ref b2)]) hx hb d_Cu_multiply_1053 hl (by decide) rfl (fun ls hl => ?_)
    refine lv_aload_n hx hb d_Cu_multiply_1055 rfl (lv_at hl 1 rfl) ?_
    refine lv_bipush (v := 9) hx hb d_Cu_multiply_1056 (by decide) ?_
    refine lv_dup2_11 hx hb d_Cu_multiply_1058 rfl rfl ?_
    refine va_lald hx hb hK hP 2 2 rfl rfl (inb_in (by decide)) d_Cu_multiply_1059 ?_
    refine lv_topl (fun v3 ev => ?_)
    have hf := bn ev hf
    clear ev
    refine lv_ldc2 (v := 4194303) hx hb hown (hts _ gw_1083) d_Cu_multiply_1060 ?_
    refine lv_land hx hb d_Cu_multiply_1063 ?_
    refine lv_topl (fun v4 ev => ?_)
    have hf := bn ev hf
    clear ev
    refine va_last hx hb hK hP hD hS 2 2 rfl rfl (inb_in (by decide)) d_Cu_multiply_1064 (fun H locs hP hD hS => ?_)
    obtain ⟨f5, ev, hf⟩ := bne hf
    have hP : va_P D classes [(b0, .inl (cy 2, 10, .inr (.inl h0))), (b1, .inl (cy 2, 10, .inr (.inl h1))), (b2, .inl (cy 2, 10, .inr (.inl f5)))] H := by rw [ev]; exact hP
    have hD : va_D A [(b0, .inl (cy 2, 10, .inr (.inl h0))), (b1, .inl (cy 2, 10, .inr (.inl h1))), (b2, .inl (cy 2, 10, .inr (.inl f5)))] := by rw [ev]; exact hD
    clear ev
    refine lv_aload_n hx hb d_Cu_multiply_1065 rfl (lv_at hl 1 rfl) ?_
    refine lv_iconst (v := 0) hx hb d_Cu_multiply_1066 (by decide) ?_
    refine lv_dup2_11 hx hb d_Cu_multiply_1067 rfl rfl ?_
    refine va_lald hx hb hK hP 2 2 rfl rfl (inb_in (by decide)) d_Cu_multiply_1068 ?_
    refine lv_topl (fun v6 ev => ?_)
    have hf := bn ev hf
    clear ev
    refine lv_lload hx hb d_Cu_multiply_1069 (lv_at hl 0 rfl) ?_
    refine lv_ldc2 (v := 977) hx hb hown (hts _ gw_1084) d_Cu_multiply_1071 ?_
    refine lv_lmul hx hb d_Cu_multiply_1074 ?_
    refine lv_ladd hx hb d_Cu_multiply_1075 ?_
    refine lv_topl (fun v7 ev => ?_)
    have hf := bn ev hf
    clear ev
    refine va_last hx hb hK hP hD hS 2 2 rfl rfl (inb_in (by decide)) d_Cu_multiply_1076 (fun H locs hP hD hS => ?_)
    obtain ⟨f8, ev, hf⟩ := bne hf
    have hP : va_P D classes [(b0, .inl (cy 2, 10, .inr (.inl h0))), (b1, .inl (cy 2, 10, .inr (.inl h1))), (b2, .inl (cy 2, 10, .inr (.inl f8)))] H := by rw [ev]; exact hP
    have hD : va_D A [(b0, .inl (cy 2, 10, .inr (.inl h0))), (b1, .inl (cy 2, 10, .inr (.inl h1))), (b2, .inl (cy 2, 10, .inr (.inl f8)))] := by rw [ev]; exact hD
    clear ev
    refine lv_aload_n hx hb d_Cu_multiply_1077 rfl (lv_at hl 1 rfl) ?_
    refine lv_iconst (v := 1) hx hb d_Cu_multiply_1078 (by decide) ?_
    refine lv_dup2_11 hx hb d_Cu_multiply_1079 rfl rfl ?_
    refine va_lald hx hb hK hP 2 2 rfl rfl (inb_in (by decide)) d_Cu_multiply_1080 ?_
    refine lv_topl (fun v9 ev => ?_)
    have hf := bn ev hf
    clear ev
    refine lv_lload hx hb d_Cu_multiply_1081 (lv_at hl 0 rfl) ?_
    refine lv_bipush (v := 6) hx hb d_Cu_multiply_1083 (by decide) ?_
    refine lv_lshl hx hb d_Cu_multiply_1085 rfl ?_
    refine lv_topl (fun v10 ev => ?_)
    have hf := bn ev hf
    clear ev
    refine lv_aload_n hx hb d_Cu_multiply_1086 rfl (lv_at hl 1 rfl) ?_
    refine lv_iconst (v := 0) hx hb d_Cu_multiply_1087 (by decide) ?_
    refine va_lald hx hb hK hP 2 2 rfl rfl (inb_in (by decide)) d_Cu_multiply_1088 ?_
    refine lv_topl (fun v11 ev => ?_)
    have hf := bn ev hf
    clear ev
    refine lv_bipush (v := 26) hx hb d_Cu_multiply_1089 (by decide) ?_
    refine lv_lshr hx hb d_Cu_multiply_1091 rfl ?_
    refine lv_ladd hx hb d_Cu_multiply_1092 ?_
    refine lv_ladd hx hb d_Cu_multiply_1093 ?_
    refine lv_topl (fun v12 ev => ?_)
    have hf := bn ev hf
    clear ev
    refine va_last hx hb hK hP hD hS 2 2 rfl rfl (inb_in (by decide)) d_Cu_multiply_1094 (fun H locs hP hD hS => ?_)
    obtain ⟨f13, ev, hf⟩ := bne hf
    have hP : va_P D classes [(b0, .inl (cy 2, 10, .inr (.inl h0))), (b1, .inl (cy 2, 10, .inr (.inl h1))), (b2, .inl (cy 2, 10, .inr (.inl f13)))] H := by rw [ev]; exact hP
    have hD : va_D A [(b0, .inl (cy 2, 10, .inr (.inl h0))), (b1, .inl (cy 2, 10, .inr (.inl h1))), (b2, .inl (cy 2, 10, .inr (.inl f13)))] := by rw [ev]; exact hD
    clear ev
    refine lv_aload_n hx hb d_Cu_multiply_1095 rfl (lv_at hl 1 rfl) ?_
    refine lv_iconst (v := 0) hx hb d_Cu_multiply_1096 (by decide) ?_
    refine lv_dup2_11 hx hb d_Cu_multiply_1097 rfl rfl ?_
    refine va_lald hx hb hK hP 2 2 rfl rfl (inb_in (by decide)) d_Cu_multiply_1098 ?_
    refine lv_topl (fun v14 ev => ?_)
    have hf := bn ev hf
    clear ev
    refine lv_ldc2 (v := 67108863) hx hb hown (hts _ gw_1075) d_Cu_multiply_1099 ?_
    refine lv_land hx hb d_Cu_multiply_1102 ?_
    refine lv_topl (fun v15 ev => ?_)
    have hf := bn ev hf
    clear ev
    refine va_last hx hb hK hP hD hS 2 2 rfl rfl (inb_in (by decide)) d_Cu_multiply_1103 (fun H locs hP hD hS => ?_)
    obtain ⟨f16, ev, hf⟩ := bne hf
    have hP : va_P D classes [(b0, .inl (cy 2, 10, .inr (.inl h0))), (b1, .inl (cy 2, 10, .inr (.inl h1))), (b2, .inl (cy 2, 10, .inr (.inl f16)))] H := by rw [ev]; exact hP
    have hD : va_D A [(b0, .inl (cy 2, 10, .inr (.inl h0))), (b1, .inl (cy 2, 10, .inr (.inl h1))), (b2, .inl (cy 2, 10, .inr (.inl f16)))] := by rw [ev]; exact hD
    clear ev
    refine lv_aload_n hx hb d_Cu_multiply_1104 rfl (lv_at hl 1 rfl) ?_
    refine lv_iconst (v := 2) hx hb d_Cu_multiply_1105 (by decide) ?_
    refine lv_dup2_11 hx hb d_Cu_multiply_1106 rfl rfl ?_
    refine va_lald hx hb hK hP 2 2 rfl rfl (inb_in (by decide)) d_Cu_multiply_1107 ?_
    refine lv_topl (fun v17 ev => ?_)
    have hf := bn ev hf
    clear ev
    refine lv_aload_n hx hb d_Cu_multiply_1108 rfl (lv_at hl 1 rfl) ?_
    refine lv_iconst (v := 1) hx hb d_Cu_multiply_1109 (by decide) ?_
    refine va_lald hx hb hK hP 2 2 rfl rfl (inb_in (by decide)) d_Cu_multiply_1110 ?_
    refine lv_topl (fun v18 ev => ?_)
    have hf := bn ev hf
    clear ev
    refine lv_bipush (v := 26) hx hb d_Cu_multiply_1111 (by decide) ?_
    refine lv_lshr hx hb d_Cu_multiply_1113 rfl ?_
    refine lv_ladd hx hb d_Cu_multiply_1114 ?_
    refine lv_topl (fun v19 ev => ?_)
    have hf := bn ev hf
    clear ev
    refine va_last hx hb hK hP hD hS 2 2 rfl rfl (inb_in (by decide)) d_Cu_multiply_1115 (fun H locs hP hD hS => ?_)
    obtain ⟨f20, ev, hf⟩ := bne hf
    have hP : va_P D classes [(b0, .inl (cy 2, 10, .inr (.inl h0))), (b1, .inl (cy 2, 10, .inr (.inl h1))), (b2, .inl (cy 2, 10, .inr (.inl f20)))] H := by rw [ev]; exact hP
    have hD : va_D A [(b0, .inl (cy 2, 10, .inr (.inl h0))), (b1, .inl (cy 2, 10, .inr (.inl h1))), (b2, .inl (cy 2, 10, .inr (.inl f20)))] := by rw [ev]; exact hD
    clear ev
    refine lv_aload_n hx hb d_Cu_multiply_1116 rfl (lv_at hl 1 rfl) ?_
    refine lv_iconst (v := 1) hx hb d_Cu_multiply_1117 (by decide) ?_
    refine lv_dup2_11 hx hb d_Cu_multiply_1118 rfl rfl ?_
    refine va_lald hx hb hK hP 2 2 rfl rfl (inb_in (by decide)) d_Cu_multiply_1119 ?_
    refine lv_topl (fun v21 ev => ?_)
    have hf := bn ev hf
    clear ev
    refine lv_ldc2 (v := 67108863) hx hb hown (hts _ gw_1075) d_Cu_multiply_1120 ?_
    refine lv_land hx hb d_Cu_multiply_1123 ?_
    refine lv_topl (fun v22 ev => ?_)
    have hf := bn ev hf
    clear ev
    refine va_last hx hb hK hP hD hS 2 2 rfl rfl (inb_in (by decide)) d_Cu_multiply_1124 (fun H locs hP hD hS => ?_)
    obtain ⟨f23, ev, hf⟩ := bne hf
    have hP : va_P D classes [(b0, .inl (cy 2, 10, .inr (.inl h0))), (b1, .inl (cy 2, 10, .inr (.inl h1))), (b2, .inl (cy 2, 10, .inr (.inl f23)))] H := by rw [ev]; exact hP
    have hD : va_D A [(b0, .inl (cy 2, 10, .inr (.inl h0))), (b1, .inl (cy 2, 10, .inr (.inl h1))), (b2, .inl (cy 2, 10, .inr (.inl f23)))] := by rw [ev]; exact hD
    clear ev
    obtain rfl := Option.some.inj hf
    exact q_rv hx hb hr hlocks hK hP hD hS d_Cu_multiply_1125
  · have hf := ifn cx hf
    refine lv_aload_n hx hb d_Cu_multiply_1014 rfl (lv_at hl 0 rfl) ?_
    refine lv_iload hx hb d_Cu_multiply_1015 (lv_at hl 1 rfl) ?_
    refine lv_iconst (v := 1) hx hb d_Cu_multiply_1017 (by decide) ?_
    refine lv_iadd hx hb d_Cu_multiply_1018 ?_
    refine lv_topi (fun v24 ev => ?_)
    have hf := bn ev hf
    clear ev
    refine lv_dup2_11 hx hb d_Cu_multiply_1019 rfl rfl ?_
    obtain ⟨hg, hf⟩ := gdp hf
    refine va_lald hx hb hK hP 2 2 rfl rfl (inb_in hg) d_Cu_multiply_1020 ?_
    refine lv_topl (fun v25 ev => ?_)
    have hf := bn ev hf
    clear ev
    refine lv_aload_n hx hb d_Cu_multiply_1021 rfl (lv_at hl 0 rfl) ?_
    refine lv_iload hx hb d_Cu_multiply_1022 (lv_at hl 1 rfl) ?_
    obtain ⟨hg, hf⟩ := gdp hf
    refine va_lald hx hb hK hP 2 2 rfl rfl (inb_in hg) d_Cu_multiply_1024 ?_
    refine lv_topl (fun v26 ev => ?_)
    have hf := bn ev hf
    clear ev
    refine lv_bipush (v := 26) hx hb d_Cu_multiply_1025 (by decide) ?_
    refine lv_lshr hx hb d_Cu_multiply_1027 rfl ?_
    refine lv_ladd hx hb d_Cu_multiply_1028 ?_
    refine lv_topl (fun v27 ev => ?_)
    have hf := bn ev hf
    clear ev
    obtain ⟨hg, hf⟩ := gdp hf
    refine va_last hx hb hK hP hD hS 2 2 rfl rfl (inb_in hg) d_Cu_multiply_1029 (fun H locs hP hD hS => ?_)
    obtain ⟨f28, ev, hf⟩ := bne hf
    have hP : va_P D classes [(b0, .inl (cy 2, 10, .inr (.inl h0))), (b1, .inl (cy 2, 10, .inr (.inl h1))), (b2, .inl (cy 2, 10, .inr (.inl f28)))] H := by rw [ev]; exact hP
    have hD : va_D A [(b0, .inl (cy 2, 10, .inr (.inl h0))), (b1, .inl (cy 2, 10, .inr (.inl h1))), (b2, .inl (cy 2, 10, .inr (.inl f28)))] := by rw [ev]; exact hD
    clear ev
    refine lv_aload_n hx hb d_Cu_multiply_1030 rfl (lv_at hl 0 rfl) ?_
    refine lv_iload hx hb d_Cu_multiply_1031 (lv_at hl 1 rfl) ?_
    refine lv_dup2_11 hx hb d_Cu_multiply_1033 rfl rfl ?_
    obtain ⟨hg, hf⟩ := gdp hf
    refine va_lald hx hb hK hP 2 2 rfl rfl (inb_in hg) d_Cu_multiply_1034 ?_
    refine lv_topl (fun v29 ev => ?_)
    have hf := bn ev hf
    clear ev
    refine lv_ldc2 (v := 67108863) hx hb hown (hts _ gw_1075) d_Cu_multiply_1035 ?_
    refine lv_land hx hb d_Cu_multiply_1038 ?_
    refine lv_topl (fun v30 ev => ?_)
    have hf := bn ev hf
    clear ev
    obtain ⟨hg, hf⟩ := gdp hf
    refine va_last hx hb hK hP hD hS 2 2 rfl rfl (inb_in hg) d_Cu_multiply_1039 (fun H locs hP hD hS => ?_)
    obtain ⟨f31, ev, hf⟩ := bne hf
    have hP : va_P D classes [(b0, .inl (cy 2, 10, .inr (.inl h0))), (b1, .inl (cy 2, 10, .inr (.inl h1))), (b2, .inl (cy 2, 10, .inr (.inl f31)))] H := by rw [ev]; exact hP
    have hD : va_D A [(b0, .inl (cy 2, 10, .inr (.inl h0))), (b1, .inl (cy 2, 10, .inr (.inl h1))), (b2, .inl (cy 2, 10, .inr (.inl f31)))] := by rw [ev]; exact hD
    clear ev
    obtain ⟨v32, ev, hf⟩ := bne hf
    refine lv_iinc (v := v32) (lv' := [(63, .int v32), (2, .ref b2)]) hx hb d_Cu_multiply_1040 hl (k := 1) rfl (by rw [ev]; rfl) (by decide) rfl (fun ls hl => ?_)
    clear ev
    refine lv_goto (tgt := 1007) hx hb d_Cu_multiply_1043 (by decide) ?_
    exact hk_1007 _ _ _ hf _ _ _ hP hD hS (lv_sub hl [1, 0] rfl)
theorem w_Cu_multiply_1007 {p : Program} {l : Launch} {e : Env} {s : State} {m : MethodId} {args : Array Value} {below : List Frame} {meth : Method} {c : Code} {D : va_G} {cy : Nat → ClassId} {A : Nat → Prop} {ad : Nat → Nat} {b0 : Nat} {b1 : Nat} {b2 : Nat} {h0 : Nat → Int64} {h1 : Nat → Int64} {fu : Nat} (F : Fx p s m args meth c b_Cu_multiply 65 "CoinKeeper$Curve" "multiply" none D cy ad A) : ∀ n : Nat, I_Cu_multiply_1007 p l e s m args below meth c D cy A ad b0 b1 b2 h0 h1 (x_Cu_multiply_1007 fu h0 h1 n)
  | 0 => fun _ _ _ hf => nomatch (show (none : Option ((Nat → Int64))) = some _ from hf)
  | n + 1 => wb_Cu_multiply_1007 F (w_Cu_multiply_1007 F n)
set_option maxHeartbeats 8000000 in
set_option maxRecDepth 100000 in
theorem we_Cu_multiply {p : Program} {l : Launch} {e : Env} {s : State} {m : MethodId} {args : Array Value} {below : List Frame} {meth : Method} {c : Code} {D : va_G} {cy : Nat → ClassId} {A : Nat → Prop} {ad : Nat → Nat} {b0 : Nat} {b1 : Nat} {b2 : Nat} {h0 : Nat → Int64} {h1 : Nat → Int64} {fu : Nat} (F : Fx p s m args meth c b_Cu_multiply 65 "CoinKeeper$Curve" "multiply" none D cy ad A) : I_Cu_multiply_e p l e s m args below meth c D cy A ad b0 b1 b2 h0 h1 (x_Cu_multiply fu h0 h1) := by
  obtain ⟨hx, hb, hr, hml, hown, hts, hlocks, hK, hA, hSt, hnm, hex⟩ := id F
  intro u0 res hf H locs ls hP hD hS hl
  unfold x_Cu_multiply at hf
  refine lv_aload_n hx hb d_Cu_multiply_0 rfl (lv_at hl 0 rfl) ?_
  refine lv_iconst (v := 0) hx hb d_Cu_multiply_1 (by decide) ?_
  refine va_lald hx hb hK hP 0 2 rfl rfl (inb_in (by decide)) d_Cu_multiply_2 ?_
  refine lv_topl (fun v1 ev => ?_)
  have hf := bn ev hf
  clear ev
  refine lv_lstore_n (lv' := [(3, .long v1), (0, .ref b0), (1, .ref b1), (2, .ref b2)]) hx hb d_Cu_multiply_3 rfl hl (by decide) rfl (fun ls hl => ?_)
  refine lv_aload_n hx hb d_Cu_multiply_4 rfl (lv_at hl 1 rfl) ?_
  refine lv_iconst (v := 1) hx hb d_Cu_multiply_5 (by decide) ?_
  refine va_lald hx hb hK hP 0 2 rfl rfl (inb_in (by decide)) d_Cu_multiply_6 ?_
  refine lv_topl (fun v2 ev => ?_)
  have hf := bn ev hf
  clear ev
  refine lv_lstore (lv' := [(5, .long v2), (3, .long v1), (0, .ref b0), (1, .ref b1), (2, .ref b2)]) hx hb d_Cu_multiply_7 hl (by decide) rfl (fun ls hl => ?_)
  refine lv_aload_n hx hb d_Cu_multiply_9 rfl (lv_at hl 2 rfl) ?_
  refine lv_iconst (v := 2) hx hb d_Cu_multiply_10 (by decide) ?_
  refine va_lald hx hb hK hP 0 2 rfl rfl (inb_in (by decide)) d_Cu_multiply_11 ?_
  refine lv_topl (fun v3 ev => ?_)
  have hf := bn ev hf
  clear ev
  refine lv_lstore (lv' := [(7, .long v3), (5, .long v2), (3, .long v1), (0, .ref b0), (1, .ref b1), (2, .ref b2)]) hx hb d_Cu_multiply_12 hl (by decide) rfl (fun ls hl => ?_)
  refine lv_aload_n hx hb d_Cu_multiply_14 rfl (lv_at hl 3 rfl) ?_
  refine lv_iconst (v := 3) hx hb d_Cu_multiply_15 (by decide) ?_
  refine va_lald hx hb hK hP 0 2 rfl rfl (inb_in (by decide)) d_Cu_multiply_16 ?_
  refine lv_topl (fun v4 ev => ?_)
  have hf := bn ev hf
  clear ev
  refine lv_lstore (lv' := [(9, .long v4), (7, .long v3), (5, .long v2), (3, .long v1), (0, .ref b0), (1, .ref b1), (2, .ref b2)]) hx hb d_Cu_multiply_17 hl (by decide) rfl (fun ls hl => ?_)
  refine lv_aload_n hx hb d_Cu_multiply_19 rfl (lv_at hl 4 rfl) ?_
  refine lv_iconst (v := 4) hx hb d_Cu_multiply_20 (by decide) ?_
  refine va_lald hx hb hK hP 0 2 rfl rfl (inb_in (by decide)) d_Cu_multiply_21 ?_
  refine lv_topl (fun v5 ev => ?_)
  have hf := bn ev hf
  clear ev
  refine lv_lstore (lv' := [(11, .long v5), (9, .long v4), (7, .long v3), (5, .long v2), (3, .long v1), (0, .ref b0), (1, .ref b1), (2, .ref b2)]) hx hb d_Cu_multiply_22 hl (by decide) rfl (fun ls hl => ?_)
  refine lv_aload_n hx hb d_Cu_multiply_24 rfl (lv_at hl 5 rfl) ?_
  refine lv_iconst (v := 5) hx hb d_Cu_multiply_25 (by decide) ?_
  refine va_lald hx hb hK hP 0 2 rfl rfl (inb_in (by decide)) d_Cu_multiply_26 ?_
  refine lv_topl (fun v6 ev => ?_)
  have hf := bn ev hf
  clear ev
  refine lv_lstore (lv' := [(13, .long v6), (11, .long v5), (9, .long v4), (7, .long v3), (5, .long v2), (3, .long v1), (0, .ref b0), (1, .ref b1), (2, .ref b2)]) hx hb d_Cu_multiply_27 hl (by decide) rfl (fun ls hl => ?_)
  refine lv_aload_n hx hb d_Cu_multiply_29 rfl (lv_at hl 6 rfl) ?_
  refine lv_bipush (v := 6) hx hb d_Cu_multiply_30 (by decide) ?_
  refine va_lald hx hb hK hP 0 2 rfl rfl (inb_in (by decide)) d_Cu_multiply_32 ?_
  refine lv_topl (fun v7 ev => ?_)
  have hf := bn ev hf
  clear ev
  refine lv_lstore (lv' := [(15, .long v7), (13, .long v6), (11, .long v5), (9, .long v4), (7, .long v3), (5, .long v2), (3, .long v1), (0, .ref b0), (1, .ref b1), (2, .ref b2)]) hx hb d_Cu_multiply_33 hl (by decide) rfl (fun ls hl => ?_)
  refine lv_aload_n hx hb d_Cu_multiply_35 rfl (lv_at hl 7 rfl) ?_
  refine lv_bipush (v := 7) hx hb d_Cu_multiply_36 (by decide) ?_
  refine va_lald hx hb hK hP 0 2 rfl rfl (inb_in (by decide)) d_Cu_multiply_38 ?_
  refine lv_topl (fun v8 ev => ?_)
  have hf := bn ev hf
  clear ev
  refine lv_lstore (lv' := [(17, .long v8), (15, .long v7), (13, .long v6), (11, .long v5), (9, .long v4), (7, .long v3), (5, .long v2), (3, .long v1), (0, .ref b0), (1, .ref b1), (2, .ref b2)]) hx hb d_Cu_multiply_39 hl (by decide) rfl (fun ls hl => ?_)
  refine lv_aload_n hx hb d_Cu_multiply_41 rfl (lv_at hl 8 rfl) ?_
  refine lv_bipush (v := 8) hx hb d_Cu_multiply_42 (by decide) ?_
  refine va_lald hx hb hK hP 0 2 rfl rfl (inb_in (by decide)) d_Cu_multiply_44 ?_
  refine lv_topl (fun v9 ev => ?_)
  have hf := bn ev hf
  clear ev
  refine lv_lstore (lv' := [(19, .long v9), (17, .long v8), (15, .long v7), (13, .long v6), (11, .long v5), (9, .long v4), (7, .long v3), (5, .long v2), (3, .long v1), (0, .ref b0), (1, .ref b1), (2, .ref b2)]) hx hb d_Cu_multiply_45 hl (by decide) rfl (fun ls hl => ?_)
  refine lv_aload_n hx hb d_Cu_multiply_47 rfl (lv_at hl 9 rfl) ?_
  refine lv_bipush (v := 9) hx hb d_Cu_multiply_48 (by decide) ?_
  refine va_lald hx hb hK hP 0 2 rfl rfl (inb_in (by decide)) d_Cu_multiply_50 ?_
  refine lv_topl (fun v10 ev => ?_)
  have hf := bn ev hf
  clear ev
  refine lv_lstore (lv' := [(21, .long v10), (19, .long v9), (17, .long v8), (15, .long v7), (13, .long v6), (11, .long v5), (9, .long v4), (7, .long v3), (5, .long v2), (3, .long v1), (0, .ref b0), (1, .ref b1), (2, .ref b2)]) hx hb d_Cu_multiply_51 hl (by decide) rfl (fun ls hl => ?_)
  refine lv_aload_n hx hb d_Cu_multiply_53 rfl (lv_at hl 11 rfl) ?_
  refine lv_iconst (v := 0) hx hb d_Cu_multiply_54 (by decide) ?_
  refine va_lald hx hb hK hP 1 2 rfl rfl (inb_in (by decide)) d_Cu_multiply_55 ?_
  refine lv_topl (fun v11 ev => ?_)
  have hf := bn ev hf
  clear ev
  refine lv_lstore (lv' := [(23, .long v11), (21, .long v10), (19, .long v9), (17, .long v8), (15, .long v7), (13, .long v6), (11, .long v5), (9, .long v4), (7, .long v3), (5, .long v2), (3, .long v1), (0, .ref b0), (1, .ref b1), (2, .ref b2)]) hx hb d_Cu_multiply_56 hl (by decide) rfl (fun ls hl => ?_)
  refine lv_aload_n hx hb d_Cu_multiply_58 rfl (lv_at hl 12 rfl) ?_
  refine lv_iconst (v := 1) hx hb d_Cu_multiply_59 (by decide) ?_
  refine va_lald hx hb hK hP 1 2 rfl rfl (inb_in (by decide)) d_Cu_multiply_60 ?_
  refine lv_topl (fun v12 ev => ?_)
  have hf := bn ev hf
  clear ev
  refine lv_lstore (lv' := [(25, .long v12), (23, .long v11), (21, .long v10), (19, .long v9), (17, .long v8), (15, .long v7), (13, .long v6), (11, .long v5), (9, .long v4), (7, .long v3), (5, .long v2), (3, .long v1), (0, .ref b0), (1, .ref b1), (2, .ref b2)]) hx hb d_Cu_multiply_61 hl (by decide) rfl (fun ls hl => ?_)
  refine lv_aload_n hx hb d_Cu_multiply_63 rfl (lv_at hl 13 rfl) ?_
  refine lv_iconst (v := 2) hx hb d_Cu_multiply_64 (by decide) ?_
  refine va_lald hx hb hK hP 1 2 rfl rfl (inb_in (by decide)) d_Cu_multiply_65 ?_
  refine lv_topl (fun v13 ev => ?_)
  have hf := bn ev hf
  clear ev
  refine lv_lstore (lv' := [(27, .long v13), (25, .long v12), (23, .long v11), (21, .long v10), (19, .long v9), (17, .long v8), (15, .long v7), (13, .long v6), (11, .long v5), (9, .long v4), (7, .long v3), (5, .long v2), (3, .long v1), (0, .ref b0), (1, .ref b1), (2, .ref b2)]) hx hb d_Cu_multiply_66 hl (by decide) rfl (fun ls hl => ?_)
  refine lv_aload_n hx hb d_Cu_multiply_68 rfl (lv_at hl 14 rfl) ?_
  refine lv_iconst (v := 3) hx hb d_Cu_multiply_69 (by decide) ?_
  refine va_lald hx hb hK hP 1 2 rfl rfl (inb_in (by decide)) d_Cu_multiply_70 ?_
  refine lv_topl (fun v14 ev => ?_)
  have hf := bn ev hf
  clear ev
  refine lv_lstore (lv' := [(29, .long v14), (27, .long v13), (25, .long v12), (23, .long v11), (21, .long v10), (19, .long v9), (17, .long v8), (15, .long v7), (13, .long v6), (11, .long v5), (9, .long v4), (7, .long v3), (5, .long v2), (3, .long v1), (0, .ref b0), (1, .ref b1), (2, .ref b2)]) hx hb d_Cu_multiply_71 hl (by decide) rfl (fun ls hl => ?_)
  refine lv_aload_n hx hb d_Cu_multiply_73 rfl (lv_at hl 15 rfl) ?_
  refine lv_iconst (v := 4) hx hb d_Cu_multiply_74 (by decide) ?_
  refine va_lald hx hb hK hP 1 2 rfl rfl (inb_in (by decide)) d_Cu_multiply_75 ?_
  refine lv_topl (fun v15 ev => ?_)
  have hf := bn ev hf
  clear ev
  refine lv_lstore (lv' := [(31, .long v15), (29, .long v14), (27, .long v13), (25, .long v12), (23, .long v11), (21, .long v10), (19, .long v9), (17, .long v8), (15, .long v7), (13, .long v6), (11, .long v5), (9, .long v4), (7, .long v3), (5, .long v2), (3, .long v1), (0, .ref b0), (1, .ref b1), (2, .ref b2)]) hx hb d_Cu_multiply_76 hl (by decide) rfl (fun ls hl => ?_)
  refine lv_aload_n hx hb d_Cu_multiply_78 rfl (lv_at hl 16 rfl) ?_
  refine lv_iconst (v := 5) hx hb d_Cu_multiply_79 (by decide) ?_
  refine va_lald hx hb hK hP 1 2 rfl rfl (inb_in (by decide)) d_Cu_multiply_80 ?_
  refine lv_topl (fun v16 ev => ?_)
  have hf := bn ev hf
  clear ev
  refine lv_lstore (lv' := [(33, .long v16), (31, .long v15), (29, .long v14), (27, .long v13), (25, .long v12), (23, .long v11), (21, .long v10), (19, .long v9), (17, .long v8), (15, .long v7), (13, .long v6), (11, .long v5), (9, .long v4), (7, .long v3), (5, .long v2), (3, .long v1), (0, .ref b0), (1, .ref b1), (2, .ref b2)]) hx hb d_Cu_multiply_81 hl (by decide) rfl (fun ls hl => ?_)
  refine lv_aload_n hx hb d_Cu_multiply_83 rfl (lv_at hl 17 rfl) ?_
  refine lv_bipush (v := 6) hx hb d_Cu_multiply_84 (by decide) ?_
  refine va_lald hx hb hK hP 1 2 rfl rfl (inb_in (by decide)) d_Cu_multiply_86 ?_
  refine lv_topl (fun v17 ev => ?_)
  have hf := bn ev hf
  clear ev
  refine lv_lstore (lv' := [(35, .long v17), (33, .long v16), (31, .long v15), (29, .long v14), (27, .long v13), (25, .long v12), (23, .long v11), (21, .long v10), (19, .long v9), (17, .long v8), (15, .long v7), (13, .long v6), (11, .long v5), (9, .long v4), (7, .long v3), (5, .long v2), (3, .long v1), (0, .ref b0), (1, .ref b1), (2, .ref b2)]) hx hb d_Cu_multiply_87 hl (by decide) rfl (fun ls hl => ?_)
  refine lv_aload_n hx hb d_Cu_multiply_89 rfl (lv_at hl 18 rfl) ?_
  refine lv_bipush (v := 7) hx hb d_Cu_multiply_90 (by decide) ?_
  refine va_lald hx hb hK hP 1 2 rfl rfl (inb_in (by decide)) d_Cu_multiply_92 ?_
  refine lv_topl (fun v18 ev => ?_)
  have hf := bn ev hf
  clear ev
  refine lv_lstore (lv' := [(37, .long v18), (35, .long v17), (33, .long v16), (31, .long v15), (29, .long v14), (27, .long v13), (25, .long v12), (23, .long v11), (21, .long v10), (19, .long v9), (17, .long v8), (15, .long v7), (13, .long v6), (11, .long v5), (9, .long v4), (7, .long v3), (5, .long v2), (3, .long v1), (0, .ref b0), (1, .ref b1), (2, .ref b2)]) hx hb d_Cu_multiply_93 hl (by decide) rfl (fun ls hl => ?_)
  refine lv_aload_n hx hb d_Cu_multiply_95 rfl (lv_at hl 19 rfl) ?_
  refine lv_bipush (v := 8) hx hb d_Cu_multiply_96 (by decide) ?_
  refine va_lald hx hb hK hP 1 2 rfl rfl (inb_in (by decide)) d_Cu_multiply_98 ?_
  refine lv_topl (fun v19 ev => ?_)
  have hf := bn ev hf
  clear ev
  refine lv_lstore (lv' := [(39, .long v19), (37, .long v18), (35, .long v17), (33, .long v16), (31, .long v15), (29, .long v14), (27, .long v13), (25, .long v12), (23, .long v11), (21, .long v10), (19, .long v9), (17, .long v8), (15, .long v7), (13, .long v6), (11, .long v5), (9, .long v4), (7, .long v3), (5, .long v2), (3, .long v1), (0, .ref b0), (1, .ref b1), (2, .ref b2)]) hx hb d_Cu_multiply_99 hl (by decide) rfl (fun ls hl => ?_)
  refine lv_aload_n hx hb d_Cu_multiply_101 rfl (lv_at hl 20 rfl) ?_
  refine lv_bipush (v := 9) hx hb d_Cu_multiply_102 (by decide) ?_
  refine va_lald hx hb hK hP 1 2 rfl rfl (inb_in (by decide)) d_Cu_multiply_104 ?_
  refine lv_topl (fun v20 ev => ?_)
  have hf := bn ev hf
  clear ev
  refine lv_lstore (lv' := [(41, .long v20), (39, .long v19), (37, .long v18), (35, .long v17), (33, .long v16), (31, .long v15), (29, .long v14), (27, .long v13), (25, .long v12), (23, .long v11), (21, .long v10), (19, .long v9), (17, .long v8), (15, .long v7), (13, .long v6), (11, .long v5), (9, .long v4), (7, .long v3), (5, .long v2), (3, .long v1), (0, .ref b0), (1, .ref b1), (2, .ref b2)]) hx hb d_Cu_multiply_105 hl (by decide) rfl (fun ls hl => ?_)
  refine lv_lload hx hb d_Cu_multiply_107 (lv_at hl 18 rfl) ?_
  refine lv_lload hx hb d_Cu_multiply_109 (lv_at hl 0 rfl) ?_
  refine lv_lmul hx hb d_Cu_multiply_111 ?_
  refine lv_topl (fun v21 ev => ?_)
  have hf := bn ev hf
  clear ev
  refine lv_lload hx hb d_Cu_multiply_112 (lv_at hl 17 rfl) ?_
  refine lv_lload hx hb d_Cu_multiply_114 (lv_at hl 1 rfl) ?_
  refine lv_lmul hx hb d_Cu_multiply_116 ?_
  refine lv_ladd hx hb d_Cu_multiply_117 ?_
  refine lv_topl (fun v22 ev => ?_)
  have hf := bn ev hf
  clear ev
  refine lv_lload hx hb d_Cu_multiply_118 (lv_at hl 16 rfl) ?_
  refine lv_lload hx hb d_Cu_multiply_120 (lv_at hl 2 rfl) ?_
  refine lv_lmul hx hb d_Cu_multiply_122 ?_
  refine lv_ladd hx hb d_Cu_multiply_123 ?_
  refine lv_topl (fun v23 ev => ?_)
  have hf := bn ev hf
  clear ev
  refine lv_lload hx hb d_Cu_multiply_124 (lv_at hl 15 rfl) ?_
  refine lv_lload hx hb d_Cu_multiply_126 (lv_at hl 3 rfl) ?_
  refine lv_lmul hx hb d_Cu_multiply_128 ?_
  refine lv_ladd hx hb d_Cu_multiply_129 ?_
  refine lv_topl (fun v24 ev => ?_)
  have hf := bn ev hf
  clear ev
  refine lv_lload hx hb d_Cu_multiply_130 (lv_at hl 14 rfl) ?_
  refine lv_lload hx hb d_Cu_multiply_132 (lv_at hl 4 rfl) ?_
  refine lv_lmul hx hb d_Cu_multiply_134 ?_
  refine lv_ladd hx hb d_Cu_multiply_135 ?_
  refine lv_topl (fun v25 ev => ?_)
  have hf := bn ev hf
  clear ev
  refine lv_lload hx hb d_Cu_multiply_136 (lv_at hl 13 rfl) ?_
  refine lv_lload hx hb d_Cu_multiply_138 (lv_at hl 5 rfl) ?_
  refine lv_lmul hx hb d_Cu_multiply_140 ?_
  refine lv_ladd hx hb d_Cu_multiply_141 ?_
  refine lv_topl (fun v26 ev => ?_)
  have hf := bn ev hf
  clear ev
  refine lv_lload hx hb d_Cu_multiply_142 (lv_at hl 12 rfl) ?_
  refine lv_lload hx hb d_Cu_multiply_144 (lv_at hl 6 rfl) ?_
  refine lv_lmul hx hb d_Cu_multiply_146 ?_
  refine lv_ladd hx hb d_Cu_multiply_147 ?_
  refine lv_topl (fun v27 ev => ?_)
  have hf := bn ev hf
  clear ev
  refine lv_lload hx hb d_Cu_multiply_148 (lv_at hl 11 rfl) ?_
  refine lv_lload hx hb d_Cu_multiply_150 (lv_at hl 7 rfl) ?_
  refine lv_lmul hx hb d_Cu_multiply_152 ?_
  refine lv_ladd hx hb d_Cu_multiply_153 ?_
  refine lv_topl (fun v28 ev => ?_)
  have hf := bn ev hf
  clear ev
  refine lv_lload hx hb d_Cu_multiply_154 (lv_at hl 10 rfl) ?_
  refine lv_lload hx hb d_Cu_multiply_156 (lv_at hl 8 rfl) ?_
  refine lv_lmul hx hb d_Cu_multiply_158 ?_
  refine lv_ladd hx hb d_Cu_multiply_159 ?_
  refine lv_topl (fun v29 ev => ?_)
  have hf := bn ev hf
  clear ev
  refine lv_lstore (lv' := [(43, .long v29), (41, .long v20), (39, .long v19), (37, .long v18), (35, .long v17), (33, .long v16), (31, .long v15), (29, .long v14), (27, .long v13), (25, .long v12), (23, .long v11), (21, .long v10), (19, .long v9), (17, .long v8), (15, .long v7), (13, .long v6), (11, .long v5), (9, .long v4), (7, .long v3), (5, .long v2), (3, .long v1), (0, .ref b0), (1, .ref b1), (2, .ref b2)]) hx hb d_Cu_multiply_160 hl (by decide) rfl (fun ls hl => ?_)
  refine lv_lload hx hb d_Cu_multiply_162 (lv_at hl 18 rfl) ?_
  refine lv_lload hx hb d_Cu_multiply_164 (lv_at hl 1 rfl) ?_
  refine lv_lmul hx hb d_Cu_multiply_166 ?_
  refine lv_topl (fun v30 ev => ?_)
  have hf := bn ev hf
  clear ev
  refine lv_lload hx hb d_Cu_multiply_167 (lv_at hl 17 rfl) ?_
  refine lv_lload hx hb d_Cu_multiply_169 (lv_at hl 2 rfl) ?_
  refine lv_lmul hx hb d_Cu_multiply_171 ?_
  refine lv_ladd hx hb d_Cu_multiply_172 ?_
  refine lv_topl (fun v31 ev => ?_)
  have hf := bn ev hf
  clear ev
  refine lv_lload hx hb d_Cu_multiply_173 (lv_at hl 16 rfl) ?_
  refine lv_lload hx hb d_Cu_multiply_175 (lv_at hl 3 rfl) ?_
  refine lv_lmul hx hb d_Cu_multiply_177 ?_
  refine lv_ladd hx hb d_Cu_multiply_178 ?_
  refine lv_topl (fun v32 ev => ?_)
  have hf := bn ev hf
  clear ev
  refine lv_lload hx hb d_Cu_multiply_179 (lv_at hl 15 rfl) ?_
  refine lv_lload hx hb d_Cu_multiply_181 (lv_at hl 4 rfl) ?_
  refine lv_lmul hx hb d_Cu_multiply_183 ?_
  refine lv_ladd hx hb d_Cu_multiply_184 ?_
  refine lv_topl (fun v33 ev => ?_)
  have hf := bn ev hf
  clear ev
  refine lv_lload hx hb d_Cu_multiply_185 (lv_at hl 14 rfl) ?_
  refine lv_lload hx hb d_Cu_multiply_187 (lv_at hl 5 rfl) ?_
  refine lv_lmul hx hb d_Cu_multiply_189 ?_
  refine lv_ladd hx hb d_Cu_multiply_190 ?_
  refine lv_topl (fun v34 ev => ?_)
  have hf := bn ev hf
  clear ev
  refine lv_lload hx hb d_Cu_multiply_191 (lv_at hl 13 rfl) ?_
  refine lv_lload hx hb d_Cu_multiply_193 (lv_at hl 6 rfl) ?_
  refine lv_lmul hx hb d_Cu_multiply_195 ?_
  refine lv_ladd hx hb d_Cu_multiply_196 ?_
  refine lv_topl (fun v35 ev => ?_)
  have hf := bn ev hf
  clear ev
  refine lv_lload hx hb d_Cu_multiply_197 (lv_at hl 12 rfl) ?_
  refine lv_lload hx hb d_Cu_multiply_199 (lv_at hl 7 rfl) ?_
  refine lv_lmul hx hb d_Cu_multiply_201 ?_
  refine lv_ladd hx hb d_Cu_multiply_202 ?_
  refine lv_topl (fun v36 ev => ?_)
  have hf := bn ev hf
  clear ev
  refine lv_lload hx hb d_Cu_multiply_203 (lv_at hl 11 rfl) ?_
  refine lv_lload hx hb d_Cu_multiply_205 (lv_at hl 8 rfl) ?_
  refine lv_lmul hx hb d_Cu_multiply_207 ?_
  refine lv_ladd hx hb d_Cu_multiply_208 ?_
  refine lv_topl (fun v37 ev => ?_)
  have hf := bn ev hf
  clear ev
  refine lv_lload hx hb d_Cu_multiply_209 (lv_at hl 0 rfl) ?_
  refine lv_bipush (v := 26) hx hb d_Cu_multiply_211 (by decide) ?_
  refine lv_lshr hx hb d_Cu_multiply_213 rfl ?_
  refine lv_ladd hx hb d_Cu_multiply_214 ?_
  refine lv_topl (fun v38 ev => ?_)
  have hf := bn ev hf
  clear ev
  refine lv_lstore (lv' := [(45, .long v38), (43, .long v29), (41, .long v20), (39, .long v19), (37, .long v18), (35, .long v17), (33, .long v16), (31, .long v15), (29, .long v14), (27, .long v13), (25, .long v12), (23, .long v11), (21, .long v10), (19, .long v9), (17, .long v8), (15, .long v7), (13, .long v6), (11, .long v5), (9, .long v4), (7, .long v3), (5, .long v2), (3, .long v1), (0, .ref b0), (1, .ref b1), (2, .ref b2)]) hx hb d_Cu_multiply_215 hl (by decide) rfl (fun ls hl => ?_)
  refine lv_lload hx hb d_Cu_multiply_217 (lv_at hl 18 rfl) ?_
  refine lv_lload hx hb d_Cu_multiply_219 (lv_at hl 2 rfl) ?_
  refine lv_lmul hx hb d_Cu_multiply_221 ?_
  refine lv_topl (fun v39 ev => ?_)
  have hf := bn ev hf
  clear ev
  refine lv_lload hx hb d_Cu_multiply_222 (lv_at hl 17 rfl) ?_
  refine lv_lload hx hb d_Cu_multiply_224 (lv_at hl 3 rfl) ?_
  refine lv_lmul hx hb d_Cu_multiply_226 ?_
  refine lv_ladd hx hb d_Cu_multiply_227 ?_
  refine lv_topl (fun v40 ev => ?_)
  have hf := bn ev hf
  clear ev
  refine lv_lload hx hb d_Cu_multiply_228 (lv_at hl 16 rfl) ?_
  refine lv_lload hx hb d_Cu_multiply_230 (lv_at hl 4 rfl) ?_
  refine lv_lmul hx hb d_Cu_multiply_232 ?_
  refine lv_ladd hx hb d_Cu_multiply_233 ?_
  refine lv_topl (fun v41 ev => ?_)
  have hf := bn ev hf
  clear ev
  refine lv_lload hx hb d_Cu_multiply_234 (lv_at hl 15 rfl) ?_
  refine lv_lload hx hb d_Cu_multiply_236 (lv_at hl 5 rfl) ?_
  refine lv_lmul hx hb d_Cu_multiply_238 ?_
  refine lv_ladd hx hb d_Cu_multiply_239 ?_
  refine lv_topl (fun v42 ev => ?_)
  have hf := bn ev hf
  clear ev
  refine lv_lload hx hb d_Cu_multiply_240 (lv_at hl 14 rfl) ?_
  refine lv_lload hx hb d_Cu_multiply_242 (lv_at hl 6 rfl) ?_
  refine lv_lmul hx hb d_Cu_multiply_244 ?_
  refine lv_ladd hx hb d_Cu_multiply_245 ?_
  refine lv_topl (fun v43 ev => ?_)
  have hf := bn ev hf
  clear ev
  refine lv_lload hx hb d_Cu_multiply_246 (lv_at hl 13 rfl) ?_
  refine lv_lload hx hb d_Cu_multiply_248 (lv_at hl 7 rfl) ?_
  refine lv_lmul hx hb d_Cu_multiply_250 ?_
  refine lv_ladd hx hb d_Cu_multiply_251 ?_
  refine lv_topl (fun v44 ev => ?_)
  have hf := bn ev hf
  clear ev
  refine lv_lload hx hb d_Cu_multiply_252 (lv_at hl 12 rfl) ?_
  refine lv_lload hx hb d_Cu_multiply_254 (lv_at hl 8 rfl) ?_
  refine lv_lmul hx hb d_Cu_multiply_256 ?_
  refine lv_ladd hx hb d_Cu_multiply_257 ?_
  refine lv_topl (fun v45 ev => ?_)
  have hf := bn ev hf
  clear ev
  refine lv_lload hx hb d_Cu_multiply_258 (lv_at hl 0 rfl) ?_
  refine lv_bipush (v := 26) hx hb d_Cu_multiply_260 (by decide) ?_
  refine lv_lshr hx hb d_Cu_multiply_262 rfl ?_
  refine lv_ladd hx hb d_Cu_multiply_263 ?_
  refine lv_topl (fun v46 ev => ?_)
  have hf := bn ev hf
  clear ev
  refine lv_lstore (lv' := [(47, .long v46), (45, .long v38), (43, .long v29), (41, .long v20), (39, .long v19), (37, .long v18), (35, .long v17), (33, .long v16), (31, .long v15), (29, .long v14), (27, .long v13), (25, .long v12), (23, .long v11), (21, .long v10), (19, .long v9), (17, .long v8), (15, .long v7), (13, .long v6), (11, .long v5), (9, .long v4), (7, .long v3), (5, .long v2), (3, .long v1), (0, .ref b0), (1, .ref b1), (2, .ref b2)]) hx hb d_Cu_multiply_264 hl (by decide) rfl (fun ls hl => ?_)
  refine lv_lload hx hb d_Cu_multiply_266 (lv_at hl 18 rfl) ?_
  refine lv_lload hx hb d_Cu_multiply_268 (lv_at hl 3 rfl) ?_
  refine lv_lmul hx hb d_Cu_multiply_270 ?_
  refine lv_topl (fun v47 ev => ?_)
  have hf := bn ev hf
  clear ev
  refine lv_lload hx hb d_Cu_multiply_271 (lv_at hl 17 rfl) ?_
  refine lv_lload hx hb d_Cu_multiply_273 (lv_at hl 4 rfl) ?_
  refine lv_lmul hx hb d_Cu_multiply_275 ?_
  refine lv_ladd hx hb d_Cu_multiply_276 ?_
  refine lv_topl (fun v48 ev => ?_)
  have hf := bn ev hf
  clear ev
  refine lv_lload hx hb d_Cu_multiply_277 (lv_at hl 16 rfl) ?_
  refine lv_lload hx hb d_Cu_multiply_279 (lv_at hl 5 rfl) ?_
  refine lv_lmul hx hb d_Cu_multiply_281 ?_
  refine lv_ladd hx hb d_Cu_multiply_282 ?_
  refine lv_topl (fun v49 ev => ?_)
  have hf := bn ev hf
  clear ev
  refine lv_lload hx hb d_Cu_multiply_283 (lv_at hl 15 rfl) ?_
  refine lv_lload hx hb d_Cu_multiply_285 (lv_at hl 6 rfl) ?_
  refine lv_lmul hx hb d_Cu_multiply_287 ?_
  refine lv_ladd hx hb d_Cu_multiply_288 ?_
  refine lv_topl (fun v50 ev => ?_)
  have hf := bn ev hf
  clear ev
  refine lv_lload hx hb d_Cu_multiply_289 (lv_at hl 14 rfl) ?_
  refine lv_lload hx hb d_Cu_multiply_291 (lv_at hl 7 rfl) ?_
  refine lv_lmul hx hb d_Cu_multiply_293 ?_
  refine lv_ladd hx hb d_Cu_multiply_294 ?_
  refine lv_topl (fun v51 ev => ?_)
  have hf := bn ev hf
  clear ev
  refine lv_lload hx hb d_Cu_multiply_295 (lv_at hl 13 rfl) ?_
  refine lv_lload hx hb d_Cu_multiply_297 (lv_at hl 8 rfl) ?_
  refine lv_lmul hx hb d_Cu_multiply_299 ?_
  refine lv_ladd hx hb d_Cu_multiply_300 ?_
  refine lv_topl (fun v52 ev => ?_)
  have hf := bn ev hf
  clear ev
  refine lv_lload hx hb d_Cu_multiply_301 (lv_at hl 0 rfl) ?_
  refine lv_bipush (v := 26) hx hb d_Cu_multiply_303 (by decide) ?_
  refine lv_lshr hx hb d_Cu_multiply_305 rfl ?_
  refine lv_ladd hx hb d_Cu_multiply_306 ?_
  refine lv_topl (fun v53 ev => ?_)
  have hf := bn ev hf
  clear ev
  refine lv_lstore (lv' := [(49, .long v53), (47, .long v46), (45, .long v38), (43, .long v29), (41, .long v20), (39, .long v19), (37, .long v18), (35, .long v17), (33, .long v16), (31, .long v15), (29, .long v14), (27, .long v13), (25, .long v12), (23, .long v11), (21, .long v10), (19, .long v9), (17, .long v8), (15, .long v7), (13, .long v6), (11, .long v5), (9, .long v4), (7, .long v3), (5, .long v2), (3, .long v1), (0, .ref b0), (1, .ref b1), (2, .ref b2)]) hx hb d_Cu_multiply_307 hl (by decide) rfl (fun ls hl => ?_)
  refine lv_lload hx hb d_Cu_multiply_309 (lv_at hl 18 rfl) ?_
  refine lv_lload hx hb d_Cu_multiply_311 (lv_at hl 4 rfl) ?_
  refine lv_lmul hx hb d_Cu_multiply_313 ?_
  refine lv_topl (fun v54 ev => ?_)
  have hf := bn ev hf
  clear ev
  refine lv_lload hx hb d_Cu_multiply_314 (lv_at hl 17 rfl) ?_
  refine lv_lload hx hb d_Cu_multiply_316 (lv_at hl 5 rfl) ?_
  refine lv_lmul hx hb d_Cu_multiply_318 ?_
  refine lv_ladd hx hb d_Cu_multiply_319 ?_
  refine lv_topl (fun v55 ev => ?_)
  have hf := bn ev hf
  clear ev
  refine lv_lload hx hb d_Cu_multiply_320 (lv_at hl 16 rfl) ?_
  refine lv_lload hx hb d_Cu_multiply_322 (lv_at hl 6 rfl) ?_
  refine lv_lmul hx hb d_Cu_multiply_324 ?_
  refine lv_ladd hx hb d_Cu_multiply_325 ?_
  refine lv_topl (fun v56 ev => ?_)
  have hf := bn ev hf
  clear ev
  refine lv_lload hx hb d_Cu_multiply_326 (lv_at hl 15 rfl) ?_
  refine lv_lload hx hb d_Cu_multiply_328 (lv_at hl 7 rfl) ?_
  refine lv_lmul hx hb d_Cu_multiply_330 ?_
  refine lv_ladd hx hb d_Cu_multiply_331 ?_
  refine lv_topl (fun v57 ev => ?_)
  have hf := bn ev hf
  clear ev
  refine lv_lload hx hb d_Cu_multiply_332 (lv_at hl 14 rfl) ?_
  refine lv_lload hx hb d_Cu_multiply_334 (lv_at hl 8 rfl) ?_
  refine lv_lmul hx hb d_Cu_multiply_336 ?_
  refine lv_ladd hx hb d_Cu_multiply_337 ?_
  refine lv_topl (fun v58 ev => ?_)
  have hf := bn ev hf
  clear ev
  refine lv_lload hx hb d_Cu_multiply_338 (lv_at hl 0 rfl) ?_
  refine lv_bipush (v := 26) hx hb d_Cu_multiply_340 (by decide) ?_
  refine lv_lshr hx hb d_Cu_multiply_342 rfl ?_
  refine lv_ladd hx hb d_Cu_multiply_343 ?_
  refine lv_topl (fun v59 ev => ?_)
  have hf := bn ev hf
  clear ev
  refine lv_lstore (lv' := [(51, .long v59), (49, .long v53), (47, .long v46), (45, .long v38), (43, .long v29), (41, .long v20), (39, .long v19), (37, .long v18), (35, .long v17), (33, .long v16), (31, .long v15), (29, .long v14), (27, .long v13), (25, .long v12), (23, .long v11), (21, .long v10), (19, .long v9), (17, .long v8), (15, .long v7), (13, .long v6), (11, .long v5), (9, .long v4), (7, .long v3), (5, .long v2), (3, .long v1), (0, .ref b0), (1, .ref b1), (2, .ref b2)]) hx hb d_Cu_multiply_344 hl (by decide) rfl (fun ls hl => ?_)
  refine lv_lload hx hb d_Cu_multiply_346 (lv_at hl 18 rfl) ?_
  refine lv_lload hx hb d_Cu_multiply_348 (lv_at hl 5 rfl) ?_
  refine lv_lmul hx hb d_Cu_multiply_350 ?_
  refine lv_topl (fun v60 ev => ?_)
  have hf := bn ev hf
  clear ev
  refine lv_lload hx hb d_Cu_multiply_351 (lv_at hl 17 rfl) ?_
  refine lv_lload hx hb d_Cu_multiply_353 (lv_at hl 6 rfl) ?_
  refine lv_lmul hx hb d_Cu_multiply_355 ?_
  refine lv_ladd hx hb d_Cu_multiply_356 ?_
  refine lv_topl (fun v61 ev => ?_)
  have hf := bn ev hf
  clear ev
  refine lv_lload hx hb d_Cu_multiply_357 (lv_at hl 16 rfl) ?_
  refine lv_lload hx hb d_Cu_multiply_359 (lv_at hl 7 rfl) ?_
  refine lv_lmul hx hb d_Cu_multiply_361 ?_
  refine lv_ladd hx hb d_Cu_multiply_362 ?_
  refine lv_topl (fun v62 ev => ?_)
  have hf := bn ev hf
  clear ev
  refine lv_lload hx hb d_Cu_multiply_363 (lv_at hl 15 rfl) ?_
  refine lv_lload hx hb d_Cu_multiply_365 (lv_at hl 8 rfl) ?_
  refine lv_lmul hx hb d_Cu_multiply_367 ?_
  refine lv_ladd hx hb d_Cu_multiply_368 ?_
  refine lv_topl (fun v63 ev => ?_)
  have hf := bn ev hf
  clear ev
  refine lv_lload hx hb d_Cu_multiply_369 (lv_at hl 0 rfl) ?_
  refine lv_bipush (v := 26) hx hb d_Cu_multiply_371 (by decide) ?_
  refine lv_lshr hx hb d_Cu_multiply_373 rfl ?_
  refine lv_ladd hx hb d_Cu_multiply_374 ?_
  refine lv_topl (fun v64 ev => ?_)
  have hf := bn ev hf
  clear ev
  refine lv_lstore (lv' := [(53, .long v64), (51, .long v59), (49, .long v53), (47, .long v46), (45, .long v38), (43, .long v29), (41, .long v20), (39, .long v19), (37, .long v18), (35, .long v17), (33, .long v16), (31, .long v15), (29, .long v14), (27, .long v13), (25, .long v12), (23, .long v11), (21, .long v10), (19, .long v9), (17, .long v8), (15, .long v7), (13, .long v6), (11, .long v5), (9, .long v4), (7, .long v3), (5, .long v2), (3, .long v1), (0, .ref b0), (1, .ref b1), (2, .ref b2)]) hx hb d_Cu_multiply_375 hl (by decide) rfl (fun ls hl => ?_)
  refine lv_lload hx hb d_Cu_multiply_377 (lv_at hl 18 rfl) ?_
  refine lv_lload hx hb d_Cu_multiply_379 (lv_at hl 6 rfl) ?_
  refine lv_lmul hx hb d_Cu_multiply_381 ?_
  refine lv_topl (fun v65 ev => ?_)
  have hf := bn ev hf
  clear ev
  refine lv_lload hx hb d_Cu_multiply_382 (lv_at hl 17 rfl) ?_
  refine lv_lload hx hb d_Cu_multiply_384 (lv_at hl 7 rfl) ?_
  refine lv_lmul hx hb d_Cu_multiply_386 ?_
  refine lv_ladd hx hb d_Cu_multiply_387 ?_
  refine lv_topl (fun v66 ev => ?_)
  have hf := bn ev hf
  clear ev
  refine lv_lload hx hb d_Cu_multiply_388 (lv_at hl 16 rfl) ?_
  refine lv_lload hx hb d_Cu_multiply_390 (lv_at hl 8 rfl) ?_
  refine lv_lmul hx hb d_Cu_multiply_392 ?_
  refine lv_ladd hx hb d_Cu_multiply_393 ?_
  refine lv_topl (fun v67 ev => ?_)
  have hf := bn ev hf
  clear ev
  refine lv_lload hx hb d_Cu_multiply_394 (lv_at hl 0 rfl) ?_
  refine lv_bipush (v := 26) hx hb d_Cu_multiply_396 (by decide) ?_
  refine lv_lshr hx hb d_Cu_multiply_398 rfl ?_
  refine lv_ladd hx hb d_Cu_multiply_399 ?_
  refine lv_topl (fun v68 ev => ?_)
  have hf := bn ev hf
  clear ev
  refine lv_lstore (lv' := [(55, .long v68), (53, .long v64), (51, .long v59), (49, .long v53), (47, .long v46), (45, .long v38), (43, .long v29), (41, .long v20), (39, .long v19), (37, .long v18), (35, .long v17), (33, .long v16), (31, .long v15), (29, .long v14), (27, .long v13), (25, .long v12), (23, .long v11), (21, .long v10), (19, .long v9), (17, .long v8), (15, .long v7), (13, .long v6), (11, .long v5), (9, .long v4), (7, .long v3), (5, .long v2), (3, .long v1), (0, .ref b0), (1, .ref b1), (2, .ref b2)]) hx hb d_Cu_multiply_400 hl (by decide) rfl (fun ls hl => ?_)
  refine lv_lload hx hb d_Cu_multiply_402 (lv_at hl 18 rfl) ?_
  refine lv_lload hx hb d_Cu_multiply_404 (lv_at hl 7 rfl) ?_
  refine lv_lmul hx hb d_Cu_multiply_406 ?_
  refine lv_topl (fun v69 ev => ?_)
  have hf := bn ev hf
  clear ev
  refine lv_lload hx hb d_Cu_multiply_407 (lv_at hl 17 rfl) ?_
  refine lv_lload hx hb d_Cu_multiply_409 (lv_at hl 8 rfl) ?_
  refine lv_lmul hx hb d_Cu_multiply_411 ?_
  refine lv_ladd hx hb d_Cu_multiply_412 ?_
  refine lv_topl (fun v70 ev => ?_)
  have hf := bn ev hf
  clear ev
  refine lv_lload hx hb d_Cu_multiply_413 (lv_at hl 0 rfl) ?_
  refine lv_bipush (v := 26) hx hb d_Cu_multiply_415 (by decide) ?_
  refine lv_lshr hx hb d_Cu_multiply_417 rfl ?_
  refine lv_ladd hx hb d_Cu_multiply_418 ?_
  refine lv_topl (fun v71 ev => ?_)
  have hf := bn ev hf
  clear ev
  refine lv_lstore (lv' := [(57, .long v71), (55, .long v68), (53, .long v64), (51, .long v59), (49, .long v53), (47, .long v46), (45, .long v38), (43, .long v29), (41, .long v20), (39, .long v19), (37, .long v18), (35, .long v17), (33, .long v16), (31, .long v15), (29, .long v14), (27, .long v13), (25, .long v12), (23, .long v11), (21, .long v10), (19, .long v9), (17, .long v8), (15, .long v7), (13, .long v6), (11, .long v5), (9, .long v4), (7, .long v3), (5, .long v2), (3, .long v1), (0, .ref b0), (1, .ref b1), (2, .ref b2)]) hx hb d_Cu_multiply_419 hl (by decide) rfl (fun ls hl => ?_)
  refine lv_lload hx hb d_Cu_multiply_421 (lv_at hl 18 rfl) ?_
  refine lv_lload hx hb d_Cu_multiply_423 (lv_at hl 8 rfl) ?_
  refine lv_lmul hx hb d_Cu_multiply_425 ?_
  refine lv_topl (fun v72 ev => ?_)
  have hf := bn ev hf
  clear ev
  refine lv_lload hx hb d_Cu_multiply_426 (lv_at hl 0 rfl) ?_
  refine lv_bipush (v := 26) hx hb d_Cu_multiply_428 (by decide) ?_
  refine lv_lshr hx hb d_Cu_multiply_430 rfl ?_
  refine lv_ladd hx hb d_Cu_multiply_431 ?_
  refine lv_topl (fun v73 ev => ?_)
  have hf := bn ev hf
  clear ev
  refine lv_lstore (lv' := [(59, .long v73), (57, .long v71), (55, .long v68), (53, .long v64), (51, .long v59), (49, .long v53), (47, .long v46), (45, .long v38), (43, .long v29), (41, .long v20), (39, .long v19), (37, .long v18), (35, .long v17), (33, .long v16), (31, .long v15), (29, .long v14), (27, .long v13), (25, .long v12), (23, .long v11), (21, .long v10), (19, .long v9), (17, .long v8), (15, .long v7), (13, .long v6), (11, .long v5), (9, .long v4), (7, .long v3), (5, .long v2), (3, .long v1), (0, .ref b0), (1, .ref b1), (2, .ref b2)]) hx hb d_Cu_multiply_432 hl (by decide) rfl (fun ls hl => ?_)
  refine lv_lload hx hb d_Cu_multiply_434 (lv_at hl 0 rfl) ?_
  refine lv_bipush (v := 26) hx hb d_Cu_multiply_436 (by decide) ?_
  refine lv_lshr hx hb d_Cu_multiply_438 rfl ?_
  refine lv_topl (fun v74 ev => ?_)
  have hf := bn ev hf
  clear ev
  refine lv_lstore (lv' := [(61, .long v74), (59, .long v73), (57, .long v71), (55, .long v68), (53, .long v64), (51, .long v59), (49, .long v53), (47, .long v46), (45, .long v38), (43, .long v29), (41, .long v20), (39, .long v19), (37, .long v18), (35, .long v17), (33, .long v16), (31, .long v15), (29, .long v14), (27, .long v13), (25, .long v12), (23, .long v11), (21, .long v10), (19, .long v9), (17, .long v8), (15, .long v7), (13, .long v6), (11, .long v5), (9, .long v4), (7, .long v3), (5, .long v2), (3, .long v1), (0, .ref b0), (1, .ref b1), (2, .ref b2)]) hx hb d_Cu_multiply_439 hl (by decide) rfl (fun ls hl => ?_)
  refine lv_lload hx hb d_Cu_multiply_441 (lv_at hl 9 rfl) ?_
  refine lv_ldc2 (v := 67108863) hx hb hown (hts _ gw_1075) d_Cu_multiply_443 ?_
  refine lv_land hx hb d_Cu_multiply_446 ?_
  refine lv_topl (fun v75 ev => ?_)
  have hf := bn ev hf
  clear ev
  refine lv_lstore (lv' := [(43, .long v75), (61, .long v74), (59, .long v73), (57, .long v71), (55, .long v68), (53, .long v64), (51, .long v59), (49, .long v53), (47, .long v46), (45, .long v38), (41, .long v20), (39, .long v19), (37, .long v18), (35, .long v17), (33, .long v16), (31, .long v15), (29, .long v14), (27, .long v13), (25, .long v12), (23, .long v11), (21, .long v10), (19, .long v9), (17, .long v8), (15, .long v7), (13, .long v6), (11, .long v5), (9, .long v4), (7, .long v3), (5, .long v2), (3, .long v1), (0, .ref b0), (1, .ref b1), (2, .ref b2)]) hx hb d_Cu_multiply_447 hl (by decide) rfl (fun ls hl => ?_)
  refine lv_lload hx hb d_Cu_multiply_449 (lv_at hl 9 rfl) ?_
  refine lv_ldc2 (v := 67108863) hx hb hown (hts _ gw_1075) d_Cu_multiply_451 ?_
  refine lv_land hx hb d_Cu_multiply_454 ?_
  refine lv_topl (fun v76 ev => ?_)
  have hf := bn ev hf
  clear ev
  refine lv_lstore (lv' := [(45, .long v76), (43, .long v75), (61, .long v74), (59, .long v73), (57, .long v71), (55, .long v68), (53, .long v64), (51, .long v59), (49, .long v53), (47, .long v46), (41, .long v20), (39, .long v19), (37, .long v18), (35, .long v17), (33, .long v16), (31, .long v15), (29, .long v14), (27, .long v13), (25, .long v12), (23, .long v11), (21, .long v10), (19, .long v9), (17, .long v8), (15, .long v7), (13, .long v6), (11, .long v5), (9, .long v4), (7, .long v3), (5, .long v2), (3, .long v1), (0, .ref b0), (1, .ref b1), (2, .ref b2)]) hx hb d_Cu_multiply_455 hl (by decide) rfl (fun ls hl => ?_)
  refine lv_lload hx hb d_Cu_multiply_457 (lv_at hl 9 rfl) ?_
  refine lv_ldc2 (v := 67108863) hx hb hown (hts _ gw_1075) d_Cu_multiply_459 ?_
  refine lv_land hx hb d_Cu_multiply_462 ?_
  refine lv_topl (fun v77 ev => ?_)
  have hf := bn ev hf
  clear ev
  refine lv_lstore (lv' := [(47, .long v77), (45, .long v76), (43, .long v75), (61, .long v74), (59, .long v73), (57, .long v71), (55, .long v68), (53, .long v64), (51, .long v59), (49, .long v53), (41, .long v20), (39, .long v19), (37, .long v18), (35, .long v17), (33, .long v16), (31, .long v15), (29, .long v14), (27, .long v13), (25, .long v12), (23, .long v11), (21, .long v10), (19, .long v9), (17, .long v8), (15, .long v7), (13, .long v6), (11, .long v5), (9, .long v4), (7, .long v3), (5, .long v2), (3, .long v1), (0, .ref b0), (1, .ref b1), (2, .ref b2)]) hx hb d_Cu_multiply_463 hl (by decide) rfl (fun ls hl => ?_)
  refine lv_lload hx hb d_Cu_multiply_465 (lv_at hl 9 rfl) ?_
  refine lv_ldc2 (v := 67108863) hx hb hown (hts _ gw_1075) d_Cu_multiply_467 ?_
  refine lv_land hx hb d_Cu_multiply_470 ?_
  refine lv_topl (fun v78 ev => ?_)
  have hf := bn ev hf
  clear ev
  refine lv_lstore (lv' := [(49, .long v78), (47, .long v77), (45, .long v76), (43, .long v75), (61, .long v74), (59, .long v73), (57, .long v71), (55, .long v68), (53, .long v64), (51, .long v59), (41, .long v20), (39, .long v19), (37, .long v18), (35, .long v17), (33, .long v16), (31, .long v15), (29, .long v14), (27, .long v13), (25, .long v12), (23, .long v11), (21, .long v10), (19, .long v9), (17, .long v8), (15, .long v7), (13, .long v6), (11, .long v5), (9, .long v4), (7, .long v3), (5, .long v2), (3, .long v1), (0, .ref b0), (1, .ref b1), (2, .ref b2)]) hx hb d_Cu_multiply_471 hl (by decide) rfl (fun ls hl => ?_)
  refine lv_lload hx hb d_Cu_multiply_473 (lv_at hl 9 rfl) ?_
  refine lv_ldc2 (v := 67108863) hx hb hown (hts _ gw_1075) d_Cu_multiply_475 ?_
  refine lv_land hx hb d_Cu_multiply_478 ?_
  refine lv_topl (fun v79 ev => ?_)
  have hf := bn ev hf
  clear ev
  refine lv_lstore (lv' := [(51, .long v79), (49, .long v78), (47, .long v77), (45, .long v76), (43, .long v75), (61, .long v74), (59, .long v73), (57, .long v71), (55, .long v68), (53, .long v64), (41, .long v20), (39, .long v19), (37, .long v18), (35, .long v17), (33, .long v16), (31, .long v15), (29, .long v14), (27, .long v13), (25, .long v12), (23, .long v11), (21, .long v10), (19, .long v9), (17, .long v8), (15, .long v7), (13, .long v6), (11, .long v5), (9, .long v4), (7, .long v3), (5, .long v2), (3, .long v1), (0, .ref b0), (1, .ref b1), (2, .ref b2)]) hx hb d_Cu_multiply_479 hl (by decide) rfl (fun ls hl => ?_)
  refine lv_lload hx hb d_Cu_multiply_481 (lv_at hl 9 rfl) ?_
  refine lv_ldc2 (v := 67108863) hx hb hown (hts _ gw_1075) d_Cu_multiply_483 ?_
  refine lv_land hx hb d_Cu_multiply_486 ?_
  refine lv_topl (fun v80 ev => ?_)
  have hf := bn ev hf
  clear ev
  refine lv_lstore (lv' := [(53, .long v80), (51, .long v79), (49, .long v78), (47, .long v77), (45, .long v76), (43, .long v75), (61, .long v74), (59, .long v73), (57, .long v71), (55, .long v68), (41, .long v20), (39, .long v19), (37, .long v18), (35, .long v17), (33, .long v16), (31, .long v15), (29, .long v14), (27, .long v13), (25, .long v12), (23, .long v11), (21, .long v10), (19, .long v9), (17, .long v8), (15, .long v7), (13, .long v6), (11, .long v5), (9, .long v4), (7, .long v3), (5, .long v2), (3, .long v1), (0, .ref b0), (1, .ref b1), (2, .ref b2)]) hx hb d_Cu_multiply_487 hl (by decide) rfl (fun ls hl => ?_)
  refine lv_lload hx hb d_Cu_multiply_489 (lv_at hl 9 rfl) ?_
  refine lv_ldc2 (v := 67108863) hx hb hown (hts _ gw_1075) d_Cu_multiply_491 ?_
  refine lv_land hx hb d_Cu_multiply_494 ?_
  refine lv_topl (fun v81 ev => ?_)
  have hf := bn ev hf
  clear ev
  refine lv_lstore (lv' := [(55, .long v81), (53, .long v80), (51, .long v79), (49, .long v78), (47, .long v77), (45, .long v76), (43, .long v75), (61, .long v74), (59, .long v73), (57, .long v71), (41, .long v20), (39, .long v19), (37, .long v18), (35, .long v17), (33, .long v16), (31, .long v15), (29, .long v14), (27, .long v13), (25, .long v12), (23, .long v11), (21, .long v10), (19, .long v9), (17, .long v8), (15, .long v7), (13, .long v6), (11, .long v5), (9, .long v4), (7, .long v3), (5, .long v2), (3, .long v1), (0, .ref b0), (1, .ref b1), (2, .ref b2)]) hx hb d_Cu_multiply_495 hl (by decide) rfl (fun ls hl => ?_)
  refine lv_lload hx hb d_Cu_multiply_497 (lv_at hl 9 rfl) ?_
  refine lv_ldc2 (v := 67108863) hx hb hown (hts _ gw_1075) d_Cu_multiply_499 ?_
  refine lv_land hx hb d_Cu_multiply_502 ?_
  refine lv_topl (fun v82 ev => ?_)
  have hf := bn ev hf
  clear ev
  refine lv_lstore (lv' := [(57, .long v82), (55, .long v81), (53, .long v80), (51, .long v79), (49, .long v78), (47, .long v77), (45, .long v76), (43, .long v75), (61, .long v74), (59, .long v73), (41, .long v20), (39, .long v19), (37, .long v18), (35, .long v17), (33, .long v16), (31, .long v15), (29, .long v14), (27, .long v13), (25, .long v12), (23, .long v11), (21, .long v10), (19, .long v9), (17, .long v8), (15, .long v7), (13, .long v6), (11, .long v5), (9, .long v4), (7, .long v3), (5, .long v2), (3, .long v1), (0, .ref b0), (1, .ref b1), (2, .ref b2)]) hx hb d_Cu_multiply_503 hl (by decide) rfl (fun ls hl => ?_)
  refine lv_lload hx hb d_Cu_multiply_505 (lv_at hl 9 rfl) ?_
  refine lv_ldc2 (v := 67108863) hx hb hown (hts _ gw_1075) d_Cu_multiply_507 ?_
  refine lv_land hx hb d_Cu_multiply_510 ?_
  refine lv_topl (fun v83 ev => ?_)
  have hf := bn ev hf
  clear ev
  refine lv_lstore (lv' := [(59, .long v83), (57, .long v82), (55, .long v81), (53, .long v80), (51, .long v79), (49, .long v78), (47, .long v77), (45, .long v76), (43, .long v75), (61, .long v74), (41, .long v20), (39, .long v19), (37, .long v18), (35, .long v17), (33, .long v16), (31, .long v15), (29, .long v14), (27, .long v13), (25, .long v12), (23, .long v11), (21, .long v10), (19, .long v9), (17, .long v8), (15, .long v7), (13, .long v6), (11, .long v5), (9, .long v4), (7, .long v3), (5, .long v2), (3, .long v1), (0, .ref b0), (1, .ref b1), (2, .ref b2)]) hx hb d_Cu_multiply_511 hl (by decide) rfl (fun ls hl => ?_)
  refine lv_aload_n hx hb d_Cu_multiply_513 rfl (lv_at hl 32 rfl) ?_
  refine lv_iconst (v := 0) hx hb d_Cu_multiply_514 (by decide) ?_
  refine lv_lload_n hx hb d_Cu_multiply_515 rfl (lv_at hl 29 rfl) ?_
  refine lv_lload hx hb d_Cu_multiply_516 (lv_at hl 19 rfl) ?_
  refine lv_lmul hx hb d_Cu_multiply_518 ?_
  refine lv_topl (fun v84 ev => ?_)
  have hf := bn ev hf
  clear ev
  refine lv_lload hx hb d_Cu_multiply_519 (lv_at hl 8 rfl) ?_
  refine lv_ldc2 (v := 15632) hx hb hown (hts _ gw_1079) d_Cu_multiply_521 ?_
  refine lv_lmul hx hb d_Cu_multiply_524 ?_
  refine lv_ladd hx hb d_Cu_multiply_525 ?_
  refine lv_topl (fun v85 ev => ?_)
  have hf := bn ev hf
  clear ev
  refine lv_lload hx hb d_Cu_multiply_526 (lv_at hl 9 rfl) ?_
  refine lv_ldc2 (v := 16007168) hx hb hown (hts _ gw_1080) d_Cu_multiply_528 ?_
  refine lv_lmul hx hb d_Cu_multiply_531 ?_
  refine lv_ladd hx hb d_Cu_multiply_532 ?_
  refine lv_topl (fun v86 ev => ?_)
  have hf := bn ev hf
  clear ev
  refine va_last hx hb hK hP hD hS 2 2 rfl rfl (inb_in (by decide)) d_Cu_multiply_533 (fun H locs hP hD hS => ?_)
  obtain ⟨f87, ev, hf⟩ := bne hf
  have hP : va_P D classes [(b0, .inl (cy 2, 10, .inr (.inl h0))), (b1, .inl (cy 2, 10, .inr (.inl h1))), (b2, .inl (cy 2, 10, .inr (.inl f87)))] H := by rw [ev]; exact hP
  have hD : va_D A [(b0, .inl (cy 2, 10, .inr (.inl h0))), (b1, .inl (cy 2, 10, .inr (.inl h1))), (b2, .inl (cy 2, 10, .inr (.inl f87)))] := by rw [ev]; exact hD
  clear ev
  refine lv_aload_n hx hb d_Cu_multiply_534 rfl (lv_at hl 32 rfl) ?_
  refine lv_iconst (v := 1) hx hb d_Cu_multiply_535 (by decide) ?_
  refine lv_lload_n hx hb d_Cu_multiply_536 rfl (lv_at hl 29 rfl) ?_
  refine lv_lload hx hb d_Cu_multiply_537 (lv_at hl 18 rfl) ?_
  refine lv_lmul hx hb d_Cu_multiply_539 ?_
  refine lv_topl (fun v88 ev => ?_)
  have hf := bn ev hf
  clear ev
  refine lv_lload hx hb d_Cu_multiply_540 (lv_at hl 28 rfl) ?_
  refine lv_lload hx hb d_Cu_multiply_542 (lv_at hl 19 rfl) ?_
  refine lv_lmul hx hb d_Cu_multiply_544 ?_
  refine lv_ladd hx hb d_Cu_multiply_545 ?_
  refine lv_topl (fun v89 ev => ?_)
  have hf := bn ev hf
  clear ev
  refine lv_lload hx hb d_Cu_multiply_546 (lv_at hl 7 rfl) ?_
  refine lv_ldc2 (v := 15632) hx hb hown (hts _ gw_1079) d_Cu_multiply_548 ?_
  refine lv_lmul hx hb d_Cu_multiply_551 ?_
  refine lv_ladd hx hb d_Cu_multiply_552 ?_
  refine lv_topl (fun v90 ev => ?_)
  have hf := bn ev hf
  clear ev
  refine lv_lload hx hb d_Cu_multiply_553 (lv_at hl 8 rfl) ?_
  refine lv_ldc2 (v := 1024) hx hb hown (hts _ gw_1081) d_Cu_multiply_555 ?_
  refine lv_lmul hx hb d_Cu_multiply_558 ?_
  refine lv_ladd hx hb d_Cu_multiply_559 ?_
  refine lv_topl (fun v91 ev => ?_)
  have hf := bn ev hf
  clear ev
  refine lv_lload hx hb d_Cu_multiply_560 (lv_at hl 9 rfl) ?_
  refine lv_ldc2 (v := 1048576) hx hb hown (hts _ gw_1082) d_Cu_multiply_562 ?_
  refine lv_lmul hx hb d_Cu_multiply_565 ?_
  refine lv_ladd hx hb d_Cu_multiply_566 ?_
  refine lv_topl (fun v92 ev => ?_)
  have hf := bn ev hf
  clear ev
  refine va_last hx hb hK hP hD hS 2 2 rfl rfl (inb_in (by decide)) d_Cu_multiply_567 (fun H locs hP hD hS => ?_)
  obtain ⟨f93, ev, hf⟩ := bne hf
  have hP : va_P D classes [(b0, .inl (cy 2, 10, .inr (.inl h0))), (b1, .inl (cy 2, 10, .inr (.inl h1))), (b2, .inl (cy 2, 10, .inr (.inl f93)))] H := by rw [ev]; exact hP
  have hD : va_D A [(b0, .inl (cy 2, 10, .inr (.inl h0))), (b1, .inl (cy 2, 10, .inr (.inl h1))), (b2, .inl (cy 2, 10, .inr (.inl f93)))] := by rw [ev]; exact hD
  clear ev
  refine lv_aload_n hx hb d_Cu_multiply_568 rfl (lv_at hl 32 rfl) ?_
  refine lv_iconst (v := 2) hx hb d_Cu_multiply_569 (by decide) ?_
  refine lv_lload_n hx hb d_Cu_multiply_570 rfl (lv_at hl 29 rfl) ?_
  refine lv_lload hx hb d_Cu_multiply_571 (lv_at hl 17 rfl) ?_
  refine lv_lmul hx hb d_Cu_multiply_573 ?_
  refine lv_topl (fun v94 ev => ?_)
  have hf := bn ev hf
  clear ev
  refine lv_lload hx hb d_Cu_multiply_574 (lv_at hl 28 rfl) ?_
  refine lv_lload hx hb d_Cu_multiply_576 (lv_at hl 18 rfl) ?_
  refine lv_lmul hx hb d_Cu_multiply_578 ?_
  refine lv_ladd hx hb d_Cu_multiply_579 ?_
  refine lv_topl (fun v95 ev => ?_)
  have hf := bn ev hf
  clear ev
  refine lv_lload hx hb d_Cu_multiply_580 (lv_at hl 27 rfl) ?_
  refine lv_lload hx hb d_Cu_multiply_582 (lv_at hl 19 rfl) ?_
  refine lv_lmul hx hb d_Cu_multiply_584 ?_
  refine lv_ladd hx hb d_Cu_multiply_585 ?_
  refine lv_topl (fun v96 ev => ?_)
  have hf := bn ev hf
  clear ev
  refine lv_lload hx hb d_Cu_multiply_586 (lv_at hl 6 rfl) ?_
  refine lv_ldc2 (v := 15632) hx hb hown (hts _ gw_1079) d_Cu_multiply_588 ?_
  refine lv_lmul hx hb d_Cu_multiply_591 ?_
  refine lv_ladd hx hb d_Cu_multiply_592 ?_
  refine lv_topl (fun v97 ev => ?_)
  have hf := bn ev hf
  clear ev
  refine lv_lload hx hb d_Cu_multiply_593 (lv_at hl 7 rfl) ?_
  refine lv_ldc2 (v := 1024) hx hb hown (hts _ gw_1081) d_Cu_multiply_595 ?_
  refine lv_lmul hx hb d_Cu_multiply_598 ?_
  refine lv_ladd hx hb d_Cu_multiply_599 ?_
  refine lv_topl (fun v98 ev => ?_)
  have hf := bn ev hf
  clear ev
  refine va_last hx hb hK hP hD hS 2 2 rfl rfl (inb_in (by decide)) d_Cu_multiply_600 (fun H locs hP hD hS => ?_)
  obtain ⟨f99, ev, hf⟩ := bne hf
  have hP : va_P D classes [(b0, .inl (cy 2, 10, .inr (.inl h0))), (b1, .inl (cy 2, 10, .inr (.inl h1))), (b2, .inl (cy 2, 10, .inr (.inl f99)))] H := by rw [ev]; exact hP
  have hD : va_D A [(b0, .inl (cy 2, 10, .inr (.inl h0))), (b1, .inl (cy 2, 10, .inr (.inl h1))), (b2, .inl (cy 2, 10, .inr (.inl f99)))] := by rw [ev]; exact hD
  clear ev
  refine lv_aload_n hx hb d_Cu_multiply_601 rfl (lv_at hl 32 rfl) ?_
  refine lv_iconst (v := 3) hx hb d_Cu_multiply_602 (by decide) ?_
  refine lv_lload_n hx hb d_Cu_multiply_603 rfl (lv_at hl 29 rfl) ?_
  refine lv_lload hx hb d_Cu_multiply_604 (lv_at hl 16 rfl) ?_
  refine lv_lmul hx hb d_Cu_multiply_606 ?_
  refine lv_topl (fun v100 ev => ?_)
  have hf := bn ev hf
  clear ev
  refine lv_lload hx hb d_Cu_multiply_607 (lv_at hl 28 rfl) ?_
  refine lv_lload hx hb d_Cu_multiply_609 (lv_at hl 17 rfl) ?_
  refine lv_lmul hx hb d_Cu_multiply_611 ?_
  refine lv_ladd hx hb d_Cu_multiply_612 ?_
  refine lv_topl (fun v101 ev => ?_)
  have hf := bn ev hf
  clear ev
  refine lv_lload hx hb d_Cu_multiply_613 (lv_at hl 27 rfl) ?_
  refine lv_lload hx hb d_Cu_multiply_615 (lv_at hl 18 rfl) ?_
  refine lv_lmul hx hb d_Cu_multiply_617 ?_
  refine lv_ladd hx hb d_Cu_multiply_618 ?_
  refine lv_topl (fun v102 ev => ?_)
  have hf := bn ev hf
  clear ev
  refine lv_lload hx hb d_Cu_multiply_619 (lv_at hl 26 rfl) ?_
  refine lv_lload hx hb d_Cu_multiply_621 (lv_at hl 19 rfl) ?_
  refine lv_lmul hx hb d_Cu_multiply_623 ?_
  refine lv_ladd hx hb d_Cu_multiply_624 ?_
  refine lv_topl (fun v103 ev => ?_)
  have hf := bn ev hf
  clear ev
  refine lv_lload hx hb d_Cu_multiply_625 (lv_at hl 5 rfl) ?_
  refine lv_ldc2 (v := 15632) hx hb hown (hts _ gw_1079) d_Cu_multiply_627 ?_
  refine lv_lmul hx hb d_Cu_multiply_630 ?_
  refine lv_ladd hx hb d_Cu_multiply_631 ?_
  refine lv_topl (fun v104 ev => ?_)
  have hf := bn ev hf
  clear ev
  refine lv_lload hx hb d_Cu_multiply_632 (lv_at hl 6 rfl) ?_
  refine lv_ldc2 (v := 1024) hx hb hown (hts _ gw_1081) d_Cu_multiply_634 ?_
  refine lv_lmul hx hb d_Cu_multiply_637 ?_
  refine lv_ladd hx hb d_Cu_multiply_638 ?_
  refine lv_topl (fun v105 ev => ?_)
  have hf := bn ev hf
  clear ev
  refine va_last hx hb hK hP hD hS 2 2 rfl rfl (inb_in (by decide)) d_Cu_multiply_639 (fun H locs hP hD hS => ?_)
  obtain ⟨f106, ev, hf⟩ := bne hf
  have hP : va_P D classes [(b0, .inl (cy 2, 10, .inr (.inl h0))), (b1, .inl (cy 2, 10, .inr (.inl h1))), (b2, .inl (cy 2, 10, .inr (.inl f106)))] H := by rw [ev]; exact hP
  have hD : va_D A [(b0, .inl (cy 2, 10, .inr (.inl h0))), (b1, .inl (cy 2, 10, .inr (.inl h1))), (b2, .inl (cy 2, 10, .inr (.inl f106)))] := by rw [ev]; exact hD
  clear ev
  refine lv_aload_n hx hb d_Cu_multiply_640 rfl (lv_at hl 32 rfl) ?_
  refine lv_iconst (v := 4) hx hb d_Cu_multiply_641 (by decide) ?_
  refine lv_lload_n hx hb d_Cu_multiply_642 rfl (lv_at hl 29 rfl) ?_
  refine lv_lload hx hb d_Cu_multiply_643 (lv_at hl 15 rfl) ?_
  refine lv_lmul hx hb d_Cu_multiply_645 ?_
  refine lv_topl (fun v107 ev => ?_)
  have hf := bn ev hf
  clear ev
  refine lv_lload hx hb d_Cu_multiply_646 (lv_at hl 28 rfl) ?_
  refine lv_lload hx hb d_Cu_multiply_648 (lv_at hl 16 rfl) ?_
  refine lv_lmul hx hb d_Cu_multiply_650 ?_
  refine lv_ladd hx hb d_Cu_multiply_651 ?_
  refine lv_topl (fun v108 ev => ?_)
  have hf := bn ev hf
  clear ev
  refine lv_lload hx hb d_Cu_multiply_652 (lv_at hl 27 rfl) ?_
  refine lv_lload hx hb d_Cu_multiply_654 (lv_at hl 17 rfl) ?_
  refine lv_lmul hx hb d_Cu_multiply_656 ?_
  refine lv_ladd hx hb d_Cu_multiply_657 ?_
  refine lv_topl (fun v109 ev => ?_)
  have hf := bn ev hf
  clear ev
  refine lv_lload hx hb d_Cu_multiply_658 (lv_at hl 26 rfl) ?_
  refine lv_lload hx hb d_Cu_multiply_660 (lv_at hl 18 rfl) ?_
  refine lv_lmul hx hb d_Cu_multiply_662 ?_
  refine lv_ladd hx hb d_Cu_multiply_663 ?_
  refine lv_topl (fun v110 ev => ?_)
  have hf := bn ev hf
  clear ev
  refine lv_lload hx hb d_Cu_multiply_664 (lv_at hl 25 rfl) ?_
  refine lv_lload hx hb d_Cu_multiply_666 (lv_at hl 19 rfl) ?_
  refine lv_lmul hx hb d_Cu_multiply_668 ?_
  refine lv_ladd hx hb d_Cu_multiply_669 ?_
  refine lv_topl (fun v111 ev => ?_)
  have hf := bn ev hf
  clear ev
  refine lv_lload hx hb d_Cu_multiply_670 (lv_at hl 4 rfl) ?_
  refine lv_ldc2 (v := 15632) hx hb hown (hts _ gw_1079) d_Cu_multiply_672 ?_
  refine lv_lmul hx hb d_Cu_multiply_675 ?_
  refine lv_ladd hx hb d_Cu_multiply_676 ?_
  refine lv_topl (fun v112 ev => ?_)
  have hf := bn ev hf
  clear ev
  refine lv_lload hx hb d_Cu_multiply_677 (lv_at hl 5 rfl) ?_
  refine lv_ldc2 (v := 1024) hx hb hown (hts _ gw_1081) d_Cu_multiply_679 ?_
  refine lv_lmul hx hb d_Cu_multiply_682 ?_
  refine lv_ladd hx hb d_Cu_multiply_683 ?_
  refine lv_topl (fun v113 ev => ?_)
  have hf := bn ev hf
  clear ev
  refine va_last hx hb hK hP hD hS 2 2 rfl rfl (inb_in (by decide)) d_Cu_multiply_684 (fun H locs hP hD hS => ?_)
  obtain ⟨f114, ev, hf⟩ := bne hf
  have hP : va_P D classes [(b0, .inl (cy 2, 10, .inr (.inl h0))), (b1, .inl (cy 2, 10, .inr (.inl h1))), (b2, .inl (cy 2, 10, .inr (.inl f114)))] H := by rw [ev]; exact hP
  have hD : va_D A [(b0, .inl (cy 2, 10, .inr (.inl h0))), (b1, .inl (cy 2, 10, .inr (.inl h1))), (b2, .inl (cy 2, 10, .inr (.inl f114)))] := by rw [ev]; exact hD
  clear ev
  refine lv_aload_n hx hb d_Cu_multiply_685 rfl (lv_at hl 32 rfl) ?_
  refine lv_iconst (v := 5) hx hb d_Cu_multiply_686 (by decide) ?_
  refine lv_lload_n hx hb d_Cu_multiply_687 rfl (lv_at hl 29 rfl) ?_
  refine lv_lload hx hb d_Cu_multiply_688 (lv_at hl 14 rfl) ?_
  refine lv_lmul hx hb d_Cu_multiply_690 ?_
  refine lv_topl (fun v115 ev => ?_)
  have hf := bn ev hf
  clear ev
  refine lv_lload hx hb d_Cu_multiply_691 (lv_at hl 28 rfl) ?_
  refine lv_lload hx hb d_Cu_multiply_693 (lv_at hl 15 rfl) ?_
  refine lv_lmul hx hb d_Cu_multiply_695 ?_
  refine lv_ladd hx hb d_Cu_multiply_696 ?_
  refine lv_topl (fun v116 ev => ?_)
  have hf := bn ev hf
  clear ev
  refine lv_lload hx hb d_Cu_multiply_697 (lv_at hl 27 rfl) ?_
  refine lv_lload hx hb d_Cu_multiply_699 (lv_at hl 16 rfl) ?_
  refine lv_lmul hx hb d_Cu_multiply_701 ?_
  refine lv_ladd hx hb d_Cu_multiply_702 ?_
  refine lv_topl (fun v117 ev => ?_)
  have hf := bn ev hf
  clear ev
  refine lv_lload hx hb d_Cu_multiply_703 (lv_at hl 26 rfl) ?_
  refine lv_lload hx hb d_Cu_multiply_705 (lv_at hl 17 rfl) ?_
  refine lv_lmul hx hb d_Cu_multiply_707 ?_
  refine lv_ladd hx hb d_Cu_multiply_708 ?_
  refine lv_topl (fun v118 ev => ?_)
  have hf := bn ev hf
  clear ev
  refine lv_lload hx hb d_Cu_multiply_709 (lv_at hl 25 rfl) ?_
  refine lv_lload hx hb d_Cu_multiply_711 (lv_at hl 18 rfl) ?_
  refine lv_lmul hx hb d_Cu_multiply_713 ?_
  refine lv_ladd hx hb d_Cu_multiply_714 ?_
  refine lv_topl (fun v119 ev => ?_)
  have hf := bn ev hf
  clear ev
  refine lv_lload hx hb d_Cu_multiply_715 (lv_at hl 24 rfl) ?_
  refine lv_lload hx hb d_Cu_multiply_717 (lv_at hl 19 rfl) ?_
  refine lv_lmul hx hb d_Cu_multiply_719 ?_
  refine lv_ladd hx hb d_Cu_multiply_720 ?_
  refine lv_topl (fun v120 ev => ?_)
  have hf := bn ev hf
  clear ev
  refine lv_lload hx hb d_Cu_multiply_721 (lv_at hl 3 rfl) ?_
  refine lv_ldc2 (v := 15632) hx hb hown (hts _ gw_1079) d_Cu_multiply_723 ?_
  refine lv_lmul hx hb d_Cu_multiply_726 ?_
  refine lv_ladd hx hb d_Cu_multiply_727 ?_
  refine lv_topl (fun v121 ev => ?_)
  have hf := bn ev hf
  clear ev
  refine lv_lload hx hb d_Cu_multiply_728 (lv_at hl 4 rfl) ?_
  refine lv_ldc2 (v := 1024) hx hb hown (hts _ gw_1081) d_Cu_multiply_730 ?_
  refine lv_lmul hx hb d_Cu_multiply_733 ?_
  refine lv_ladd hx hb d_Cu_multiply_734 ?_
  refine lv_topl (fun v122 ev => ?_)
  have hf := bn ev hf
  clear ev
  refine va_last hx hb hK hP hD hS 2 2 rfl rfl (inb_in (by decide)) d_Cu_multiply_735 (fun H locs hP hD hS => ?_)
  obtain ⟨f123, ev, hf⟩ := bne hf
  have hP : va_P D classes [(b0, .inl (cy 2, 10, .inr (.inl h0))), (b1, .inl (cy 2, 10, .inr (.inl h1))), (b2, .inl (cy 2, 10, .inr (.inl f123)))] H := by rw [ev]; exact hP
  have hD : va_D A [(b0, .inl (cy 2, 10, .inr (.inl h0))), (b1, .inl (cy 2, 10, .inr (.inl h1))), (b2, .inl (cy 2, 10, .inr (.inl f123)))] := by rw [ev]; exact hD
  clear ev
  refine lv_aload_n hx hb d_Cu_multiply_736 rfl (lv_at hl 32 rfl) ?_
  refine lv_bipush (v := 6) hx hb d_Cu_multiply_737 (by decide) ?_
  refine lv_lload_n hx hb d_Cu_multiply_739 rfl (lv_at hl 29 rfl) ?_
  refine lv_lload hx hb d_Cu_multiply_740 (lv_at hl 13 rfl) ?_
  refine lv_lmul hx hb d_Cu_multiply_742 ?_
  refine lv_topl (fun v124 ev => ?_)
  have hf := bn ev hf
  clear ev
  refine lv_lload hx hb d_Cu_multiply_743 (lv_at hl 28 rfl) ?_
  refine lv_lload hx hb d_Cu_multiply_745 (lv_at hl 14 rfl) ?_
  refine lv_lmul hx hb d_Cu_multiply_747 ?_
  refine lv_ladd hx hb d_Cu_multiply_748 ?_
  refine lv_topl (fun v125 ev => ?_)
  have hf := bn ev hf
  clear ev
  refine lv_lload hx hb d_Cu_multiply_749 (lv_at hl 27 rfl) ?_
  refine lv_lload hx hb d_Cu_multiply_751 (lv_at hl 15 rfl) ?_
  refine lv_lmul hx hb d_Cu_multiply_753 ?_
  refine lv_ladd hx hb d_Cu_multiply_754 ?_
  refine lv_topl (fun v126 ev => ?_)
  have hf := bn ev hf
  clear ev
  refine lv_lload hx hb d_Cu_multiply_755 (lv_at hl 26 rfl) ?_
  refine lv_lload hx hb d_Cu_multiply_757 (lv_at hl 16 rfl) ?_
  refine lv_lmul hx hb d_Cu_multiply_759 ?_
  refine lv_ladd hx hb d_Cu_multiply_760 ?_
  refine lv_topl (fun v127 ev => ?_)
  have hf := bn ev hf
  clear ev
  refine lv_lload hx hb d_Cu_multiply_761 (lv_at hl 25 rfl) ?_
  refine lv_lload hx hb d_Cu_multiply_763 (lv_at hl 17 rfl) ?_
  refine lv_lmul hx hb d_Cu_multiply_765 ?_
  refine lv_ladd hx hb d_Cu_multiply_766 ?_
  refine lv_topl (fun v128 ev => ?_)
  have hf := bn ev hf
  clear ev
  refine lv_lload hx hb d_Cu_multiply_767 (lv_at hl 24 rfl) ?_
  refine lv_lload hx hb d_Cu_multiply_769 (lv_at hl 18 rfl) ?_
  refine lv_lmul hx hb d_Cu_multiply_771 ?_
  refine lv_ladd hx hb d_Cu_multiply_772 ?_
  refine lv_topl (fun v129 ev => ?_)
  have hf := bn ev hf
  clear ev
  refine lv_lload hx hb d_Cu_multiply_773 (lv_at hl 23 rfl) ?_
  refine lv_lload hx hb d_Cu_multiply_775 (lv_at hl 19 rfl) ?_
  refine lv_lmul hx hb d_Cu_multiply_777 ?_
  refine lv_ladd hx hb d_Cu_multiply_778 ?_
  refine lv_topl (fun v130 ev => ?_)
  have hf := bn ev hf
  clear ev
  refine lv_lload hx hb d_Cu_multiply_779 (lv_at hl 2 rfl) ?_
  refine lv_ldc2 (v := 15632) hx hb hown (hts _ gw_1079) d_Cu_multiply_781 ?_
  refine lv_lmul hx hb d_Cu_multiply_784 ?_
  refine lv_ladd hx hb d_Cu_multiply_785 ?_
  refine lv_topl (fun v131 ev => ?_)
  have hf := bn ev hf
  clear ev
  refine lv_lload hx hb d_Cu_multiply_786 (lv_at hl 3 rfl) ?_
  refine lv_ldc2 (v := 1024) hx hb hown (hts _ gw_1081) d_Cu_multiply_788 ?_
  refine lv_lmul hx hb d_Cu_multiply_791 ?_
  refine lv_ladd hx hb d_Cu_multiply_792 ?_
  refine lv_topl (fun v132 ev => ?_)
  have hf := bn ev hf
  clear ev
  refine va_last hx hb hK hP hD hS 2 2 rfl rfl (inb_in (by decide)) d_Cu_multiply_793 (fun H locs hP hD hS => ?_)
  obtain ⟨f133, ev, hf⟩ := bne hf
  have hP : va_P D classes [(b0, .inl (cy 2, 10, .inr (.inl h0))), (b1, .inl (cy 2, 10, .inr (.inl h1))), (b2, .inl (cy 2, 10, .inr (.inl f133)))] H := by rw [ev]; exact hP
  have hD : va_D A [(b0, .inl (cy 2, 10, .inr (.inl h0))), (b1, .inl (cy 2, 10, .inr (.inl h1))), (b2, .inl (cy 2, 10, .inr (.inl f133)))] := by rw [ev]; exact hD
  clear ev
  refine lv_aload_n hx hb d_Cu_multiply_794 rfl (lv_at hl 32 rfl) ?_
  refine lv_bipush (v := 7) hx hb d_Cu_multiply_795 (by decide) ?_
  refine lv_lload_n hx hb d_Cu_multiply_797 rfl (lv_at hl 29 rfl) ?_
  refine lv_lload hx hb d_Cu_multiply_798 (lv_at hl 12 rfl) ?_
  refine lv_lmul hx hb d_Cu_multiply_800 ?_
  refine lv_topl (fun v134 ev => ?_)
  have hf := bn ev hf
  clear ev
  refine lv_lload hx hb d_Cu_multiply_801 (lv_at hl 28 rfl) ?_
  refine lv_lload hx hb d_Cu_multiply_803 (lv_at hl 13 rfl) ?_
  refine lv_lmul hx hb d_Cu_multiply_805 ?_
  refine lv_ladd hx hb d_Cu_multiply_806 ?_
  refine lv_topl (fun v135 ev => ?_)
  have hf := bn ev hf
  clear ev
  refine lv_lload hx hb d_Cu_multiply_807 (lv_at hl 27 rfl) ?_
  refine lv_lload hx hb d_Cu_multiply_809 (lv_at hl 14 rfl) ?_
  refine lv_lmul hx hb d_Cu_multiply_811 ?_
  refine lv_ladd hx hb d_Cu_multiply_812 ?_
  refine lv_topl (fun v136 ev => ?_)
  have hf := bn ev hf
  clear ev
  refine lv_lload hx hb d_Cu_multiply_813 (lv_at hl 26 rfl) ?_
  refine lv_lload hx hb d_Cu_multiply_815 (lv_at hl 15 rfl) ?_
  refine lv_lmul hx hb d_Cu_multiply_817 ?_
  refine lv_ladd hx hb d_Cu_multiply_818 ?_
  refine lv_topl (fun v137 ev => ?_)
  have hf := bn ev hf
  clear ev
  refine lv_lload hx hb d_Cu_multiply_819 (lv_at hl 25 rfl) ?_
  refine lv_lload hx hb d_Cu_multiply_821 (lv_at hl 16 rfl) ?_
  refine lv_lmul hx hb d_Cu_multiply_823 ?_
  refine lv_ladd hx hb d_Cu_multiply_824 ?_
  refine lv_topl (fun v138 ev => ?_)
  have hf := bn ev hf
  clear ev
  refine lv_lload hx hb d_Cu_multiply_825 (lv_at hl 24 rfl) ?_
  refine lv_lload hx hb d_Cu_multiply_827 (lv_at hl 17 rfl) ?_
  refine lv_lmul hx hb d_Cu_multiply_829 ?_
  refine lv_ladd hx hb d_Cu_multiply_830 ?_
  refine lv_topl (fun v139 ev => ?_)
  have hf := bn ev hf
  clear ev
  refine lv_lload hx hb d_Cu_multiply_831 (lv_at hl 23 rfl) ?_
  refine lv_lload hx hb d_Cu_multiply_833 (lv_at hl 18 rfl) ?_
  refine lv_lmul hx hb d_Cu_multiply_835 ?_
  refine lv_ladd hx hb d_Cu_multiply_836 ?_
  refine lv_topl (fun v140 ev => ?_)
  have hf := bn ev hf
  clear ev
  refine lv_lload hx hb d_Cu_multiply_837 (lv_at hl 22 rfl) ?_
  refine lv_lload hx hb d_Cu_multiply_839 (lv_at hl 19 rfl) ?_
  refine lv_lmul hx hb d_Cu_multiply_841 ?_
  refine lv_ladd hx hb d_Cu_multiply_842 ?_
  refine lv_topl (fun v141 ev => ?_)
  have hf := bn ev hf
  clear ev
  refine lv_lload hx hb d_Cu_multiply_843 (lv_at hl 1 rfl) ?_
  refine lv_ldc2 (v := 15632) hx hb hown (hts _ gw_1079) d_Cu_multiply_845 ?_
  refine lv_lmul hx hb d_Cu_multiply_848 ?_
  refine lv_ladd hx hb d_Cu_multiply_849 ?_
  refine lv_topl (fun v142 ev => ?_)
  have hf := bn ev hf
  clear ev
  refine lv_lload hx hb d_Cu_multiply_850 (lv_at hl 2 rfl) ?_
  refine lv_ldc2 (v := 1024) hx hb hown (hts _ gw_1081) d_Cu_multiply_852 ?_
  refine lv_lmul hx hb d_Cu_multiply_855 ?_
  refine lv_ladd hx hb d_Cu_multiply_856 ?_
  refine lv_topl (fun v143 ev => ?_)
  have hf := bn ev hf
  clear ev
  refine va_last hx hb hK hP hD hS 2 2 rfl rfl (inb_in (by decide)) d_Cu_multiply_857 (fun H locs hP hD hS => ?_)
  obtain ⟨f144, ev, hf⟩ := bne hf
  have hP : va_P D classes [(b0, .inl (cy 2, 10, .inr (.inl h0))), (b1, .inl (cy 2, 10, .inr (.inl h1))), (b2, .inl (cy 2, 10, .inr (.inl f144)))] H := by rw [ev]; exact hP
  have hD : va_D A [(b0, .inl (cy 2, 10, .inr (.inl h0))), (b1, .inl (cy 2, 10, .inr (.inl h1))), (b2, .inl (cy 2, 10, .inr (.inl f144)))] := by rw [ev]; exact hD
  clear ev
  refine lv_aload_n hx hb d_Cu_multiply_858 rfl (lv_at hl 32 rfl) ?_
  refine lv_bipush (v := 8) hx hb d_Cu_multiply_859 (by decide) ?_
  refine lv_lload_n hx hb d_Cu_multiply_861 rfl (lv_at hl 29 rfl) ?_
  refine lv_lload hx hb d_Cu_multiply_862 (lv_at hl 11 rfl) ?_
  refine lv_lmul hx hb d_Cu_multiply_864 ?_
  refine lv_topl (fun v145 ev => ?_)
  have hf := bn ev hf
  clear ev
  refine lv_lload hx hb d_Cu_multiply_865 (lv_at hl 28 rfl) ?_
  refine lv_lload hx hb d_Cu_multiply_867 (lv_at hl 12 rfl) ?_
  refine lv_lmul hx hb d_Cu_multiply_869 ?_
  refine lv_ladd hx hb d_Cu_multiply_870 ?_
  refine lv_topl (fun v146 ev => ?_)
  have hf := bn ev hf
  clear ev
  refine lv_lload hx hb d_Cu_multiply_871 (lv_at hl 27 rfl) ?_
  refine lv_lload hx hb d_Cu_multiply_873 (lv_at hl 13 rfl) ?_
  refine lv_lmul hx hb d_Cu_multiply_875 ?_
  refine lv_ladd hx hb d_Cu_multiply_876 ?_
  refine lv_topl (fun v147 ev => ?_)
  have hf := bn ev hf
  clear ev
  refine lv_lload hx hb d_Cu_multiply_877 (lv_at hl 26 rfl) ?_
  refine lv_lload hx hb d_Cu_multiply_879 (lv_at hl 14 rfl) ?_
  refine lv_lmul hx hb d_Cu_multiply_881 ?_
  refine lv_ladd hx hb d_Cu_multiply_882 ?_
  refine lv_topl (fun v148 ev => ?_)
  have hf := bn ev hf
  clear ev
  refine lv_lload hx hb d_Cu_multiply_883 (lv_at hl 25 rfl) ?_
  refine lv_lload hx hb d_Cu_multiply_885 (lv_at hl 15 rfl) ?_
  refine lv_lmul hx hb d_Cu_multiply_887 ?_
  refine lv_ladd hx hb d_Cu_multiply_888 ?_
  refine lv_topl (fun v149 ev => ?_)
  have hf := bn ev hf
  clear ev
  refine lv_lload hx hb d_Cu_multiply_889 (lv_at hl 24 rfl) ?_
  refine lv_lload hx hb d_Cu_multiply_891 (lv_at hl 16 rfl) ?_
  refine lv_lmul hx hb d_Cu_multiply_893 ?_
  refine lv_ladd hx hb d_Cu_multiply_894 ?_
  refine lv_topl (fun v150 ev => ?_)
  have hf := bn ev hf
  clear ev
  refine lv_lload hx hb d_Cu_multiply_895 (lv_at hl 23 rfl) ?_
  refine lv_lload hx hb d_Cu_multiply_897 (lv_at hl 17 rfl) ?_
  refine lv_lmul hx hb d_Cu_multiply_899 ?_
  refine lv_ladd hx hb d_Cu_multiply_900 ?_
  refine lv_topl (fun v151 ev => ?_)
  have hf := bn ev hf
  clear ev
  refine lv_lload hx hb d_Cu_multiply_901 (lv_at hl 22 rfl) ?_
  refine lv_lload hx hb d_Cu_multiply_903 (lv_at hl 18 rfl) ?_
  refine lv_lmul hx hb d_Cu_multiply_905 ?_
  refine lv_ladd hx hb d_Cu_multiply_906 ?_
  refine lv_topl (fun v152 ev => ?_)
  have hf := bn ev hf
  clear ev
  refine lv_lload hx hb d_Cu_multiply_907 (lv_at hl 21 rfl) ?_
  refine lv_lload hx hb d_Cu_multiply_909 (lv_at hl 19 rfl) ?_
  refine lv_lmul hx hb d_Cu_multiply_911 ?_
  refine lv_ladd hx hb d_Cu_multiply_912 ?_
  refine lv_topl (fun v153 ev => ?_)
  have hf := bn ev hf
  clear ev
  refine lv_lload hx hb d_Cu_multiply_913 (lv_at hl 0 rfl) ?_
  refine lv_ldc2 (v := 15632) hx hb hown (hts _ gw_1079) d_Cu_multiply_915 ?_
  refine lv_lmul hx hb d_Cu_multiply_918 ?_
  refine lv_ladd hx hb d_Cu_multiply_919 ?_
  refine lv_topl (fun v154 ev => ?_)
  have hf := bn ev hf
  clear ev
  refine lv_lload hx hb d_Cu_multiply_920 (lv_at hl 1 rfl) ?_
  refine lv_ldc2 (v := 1024) hx hb hown (hts _ gw_1081) d_Cu_multiply_922 ?_
  refine lv_lmul hx hb d_Cu_multiply_925 ?_
  refine lv_ladd hx hb d_Cu_multiply_926 ?_
  refine lv_topl (fun v155 ev => ?_)
  have hf := bn ev hf
  clear ev
  refine va_last hx hb hK hP hD hS 2 2 rfl rfl (inb_in (by decide)) d_Cu_multiply_927 (fun H locs hP hD hS => ?_)
  obtain ⟨f156, ev, hf⟩ := bne hf
  have hP : va_P D classes [(b0, .inl (cy 2, 10, .inr (.inl h0))), (b1, .inl (cy 2, 10, .inr (.inl h1))), (b2, .inl (cy 2, 10, .inr (.inl f156)))] H := by rw [ev]; exact hP
  have hD : va_D A [(b0, .inl (cy 2, 10, .inr (.inl h0))), (b1, .inl (cy 2, 10, .inr (.inl h1))), (b2, .inl (cy 2, 10, .inr (.inl f156)))] := by rw [ev]; exact hD
  clear ev
  refine lv_aload_n hx hb d_Cu_multiply_928 rfl (lv_at hl 32 rfl) ?_
  refine lv_bipush (v := 9) hx hb d_Cu_multiply_929 (by decide) ?_
  refine lv_lload_n hx hb d_Cu_multiply_931 rfl (lv_at hl 29 rfl) ?_
  refine lv_lload hx hb d_Cu_multiply_932 (lv_at hl 10 rfl) ?_
  refine lv_lmul hx hb d_Cu_multiply_934 ?_
  refine lv_topl (fun v157 ev => ?_)
  have hf := bn ev hf
  clear ev
  refine lv_lload hx hb d_Cu_multiply_935 (lv_at hl 28 rfl) ?_
  refine lv_lload hx hb d_Cu_multiply_937 (lv_at hl 11 rfl) ?_
  refine lv_lmul hx hb d_Cu_multiply_939 ?_
  refine lv_ladd hx hb d_Cu_multiply_940 ?_
  refine lv_topl (fun v158 ev => ?_)
  have hf := bn ev hf
  clear ev
  refine lv_lload hx hb d_Cu_multiply_941 (lv_at hl 27 rfl) ?_
  refine lv_lload hx hb d_Cu_multiply_943 (lv_at hl 12 rfl) ?_
  refine lv_lmul hx hb d_Cu_multiply_945 ?_
  refine lv_ladd hx hb d_Cu_multiply_946 ?_
  refine lv_topl (fun v159 ev => ?_)
  have hf := bn ev hf
  clear ev
  refine lv_lload hx hb d_Cu_multiply_947 (lv_at hl 26 rfl) ?_
  refine lv_lload hx hb d_Cu_multiply_949 (lv_at hl 13 rfl) ?_
  refine lv_lmul hx hb d_Cu_multiply_951 ?_
  refine lv_ladd hx hb d_Cu_multiply_952 ?_
  refine lv_topl (fun v160 ev => ?_)
  have hf := bn ev hf
  clear ev
  refine lv_lload hx hb d_Cu_multiply_953 (lv_at hl 25 rfl) ?_
  refine lv_lload hx hb d_Cu_multiply_955 (lv_at hl 14 rfl) ?_
  refine lv_lmul hx hb d_Cu_multiply_957 ?_
  refine lv_ladd hx hb d_Cu_multiply_958 ?_
  refine lv_topl (fun v161 ev => ?_)
  have hf := bn ev hf
  clear ev
  refine lv_lload hx hb d_Cu_multiply_959 (lv_at hl 24 rfl) ?_
  refine lv_lload hx hb d_Cu_multiply_961 (lv_at hl 15 rfl) ?_
  refine lv_lmul hx hb d_Cu_multiply_963 ?_
  refine lv_ladd hx hb d_Cu_multiply_964 ?_
  refine lv_topl (fun v162 ev => ?_)
  have hf := bn ev hf
  clear ev
  refine lv_lload hx hb d_Cu_multiply_965 (lv_at hl 23 rfl) ?_
  refine lv_lload hx hb d_Cu_multiply_967 (lv_at hl 16 rfl) ?_
  refine lv_lmul hx hb d_Cu_multiply_969 ?_
  refine lv_ladd hx hb d_Cu_multiply_970 ?_
  refine lv_topl (fun v163 ev => ?_)
  have hf := bn ev hf
  clear ev
  refine lv_lload hx hb d_Cu_multiply_971 (lv_at hl 22 rfl) ?_
  refine lv_lload hx hb d_Cu_multiply_973 (lv_at hl 17 rfl) ?_
  refine lv_lmul hx hb d_Cu_multiply_975 ?_
  refine lv_ladd hx hb d_Cu_multiply_976 ?_
  refine lv_topl (fun v164 ev => ?_)
  have hf := bn ev hf
  clear ev
  refine lv_lload hx hb d_Cu_multiply_977 (lv_at hl 21 rfl) ?_
  refine lv_lload hx hb d_Cu_multiply_979 (lv_at hl 18 rfl) ?_
  refine lv_lmul hx hb d_Cu_multiply_981 ?_
  refine lv_ladd hx hb d_Cu_multiply_982 ?_
  refine lv_topl (fun v165 ev => ?_)
  have hf := bn ev hf
  clear ev
  refine lv_lload hx hb d_Cu_multiply_983 (lv_at hl 20 rfl) ?_
  refine lv_lload hx hb d_Cu_multiply_985 (lv_at hl 19 rfl) ?_
  refine lv_lmul hx hb d_Cu_multiply_987 ?_
  refine lv_ladd hx hb d_Cu_multiply_988 ?_
  refine lv_topl (fun v166 ev => ?_)
  have hf := bn ev hf
  clear ev
  refine lv_lload hx hb d_Cu_multiply_989 (lv_at hl 9 rfl) ?_
  refine lv_ldc2 (v := 15632) hx hb hown (hts _ gw_1079) d_Cu_multiply_991 ?_
  refine lv_lmul hx hb d_Cu_multiply_994 ?_
  refine lv_ladd hx hb d_Cu_multiply_995 ?_
  refine lv_topl (fun v167 ev => ?_)
  have hf := bn ev hf
  clear ev
  refine lv_lload hx hb d_Cu_multiply_996 (lv_at hl 0 rfl) ?_
  refine lv_ldc2 (v := 1024) hx hb hown (hts _ gw_1081) d_Cu_multiply_998 ?_
  refine lv_lmul hx hb d_Cu_multiply_1001 ?_
  refine lv_ladd hx hb d_Cu_multiply_1002 ?_
  refine lv_topl (fun v168 ev => ?_)
  have hf := bn ev hf
  clear ev
  refine va_last hx hb hK hP hD hS 2 2 rfl rfl (inb_in (by decide)) d_Cu_multiply_1003 (fun H locs hP hD hS => ?_)
  obtain ⟨f169, ev, hf⟩ := bne hf
  have hP : va_P D classes [(b0, .inl (cy 2, 10, .inr (.inl h0))), (b1, .inl (cy 2, 10, .inr (.inl h1))), (b2, .inl (cy 2, 10, .inr (.inl f169)))] H := by rw [ev]; exact hP
  have hD : va_D A [(b0, .inl (cy 2, 10, .inr (.inl h0))), (b1, .inl (cy 2, 10, .inr (.inl h1))), (b2, .inl (cy 2, 10, .inr (.inl f169)))] := by rw [ev]; exact hD
  clear ev
  refine lv_iconst (v := 0) hx hb d_Cu_multiply_1004 (by decide) ?_
  refine lv_istore (lv' := [(63, .int (0 : Int32)), (59, .long v83), (57, .long v82), (55, .long v81), (53, .long v80), (51, .long v79), (49, .long v78), (47, .long v77), (45, .long v76), (43, .long v75), (61, .long v74), (41, .long v20), (39, .long v19), (37, .long v18), (35, .long v17), (33, .long v16), (31, .long v15), (29, .long v14), (27, .long v13), (25, .long v12), (23, .long v11), (21, .long v10), (19, .long v9), (17, .long v8), (15, .long v7), (13, .long v6), (11, .long v5), (9, .long v4), (7, .long v3), (5, .long v2), (3, .long v1), (0, .ref b0), (1, .ref b1), (2, .ref b2)]) hx hb d_Cu_multiply_1005 hl (by decide) rfl (fun ls hl => ?_)
  exact w_Cu_multiply_1007 F fu _ _ _ hf _ _ _ hP hD hS (lv_sub hl [33, 0] rfl)
theorem c_Cu_multiply (l : Launch) (D : va_G) (cy : Nat → ClassId) (ad : Nat → Nat) (fu : Nat) (b0 : Nat) (b1 : Nat) (b2 : Nat) (h0 : Nat → Int64) (h1 : Nat → Int64) (u0 : Nat → Int64) (res : (Nat → Int64)) (hf : x_Cu_multiply fu h0 h1 u0 = some res) (sz : Nat) : Met l ({ cls := "CoinKeeper$Curve", name := "multiply", desc := "([J[J[J)V" } : Jvm.MethodName) (.code ({ cls := "CoinKeeper$Curve", name := "multiply", desc := "([J[J[J)V" } : Jvm.MethodName) b_Cu_multiply 65 none :: gw) rm_Cu_multiply (va_Pc [.ref b0, .ref b1, .ref b2] (Pr D cy ad [(b0, .inl (cy 2, 10, .inr (.inl h0))), (b1, .inl (cy 2, 10, .inr (.inl h1))), (b2, .inl (cy 2, 10, .inr (.inl u0)))] sz)) (q_Cu_multiply D cy (va_A [(b0, .inl (cy 2, 10, .inr (.inl h0))), (b1, .inl (cy 2, 10, .inr (.inl h1))), (b2, .inl (cy 2, 10, .inr (.inl u0)))] sz) b0 b1 b2 h0 h1 res) 0 0 (va_A [(b0, .inl (cy 2, 10, .inr (.inl h0))), (b1, .inl (cy 2, 10, .inr (.inl h1))), (b2, .inl (cy 2, 10, .inr (.inl u0)))] sz) :=
  q_met (Qc := fun A => q_Cu_multiply D cy A b0 b1 b2 h0 h1 res) (by decide) rfl rfl (Nat.le_of_ble_eq_true rfl) (fun p e s m below meth c ls F hP hD hS hl => we_Cu_multiply (fu := fu) F u0 res hf _ _ _ hP hD hS hl) sz
abbrev rm_Sc_compare_s1x5 : Room := { frames := 0, cells := 0, slots := 0, locals := 0 }
abbrev q_Sc_compare_s1x5 (D : va_G) (cy : Nat → ClassId) (A : Nat → Prop) (b0 : Nat) (h0 : Nat → Int64) (res : Int32) : Array Value → State → Outcome → State → Prop := va_Qi (fun r' (_ : Unit) => r' = res) (fun _ t => Po D cy A [(b0, .inl (cy 2, 5, .inr (.inl h0)))] t) A
def I_Sc_compare_s1x5_2 (p : Program) (l : Launch) (e : Env) (s : State) (m : MethodId) (args : Array Value) (below : List Frame) (meth : Method) (c : Code) (D : va_G) (cy : Nat → ClassId) (A : Nat → Prop) (ad : Nat → Nat) (b0 : Nat) (h0 : Nat → Int64) (k : Int32 → Option (Int32)) : Prop :=
  ∀ (x2 : Int32) (res : Int32), k x2 = some res → ∀ (H : Heap) (locs : List Loc) (ls : Array Slot), va_P D classes [(b0, .inl (cy 2, 5, .inr (.inl h0)))] H → va_D A [(b0, .inl (cy 2, 5, .inr (.inl h0)))] → va_S A s.heap H locs → lv_has ls 3 [(0, .ref b0), (1, .ref (ad 5)), (2, .int x2)] → W p l e rm_Sc_compare_s1x5 s m args below meth c H locs 0 0 (MQ below (q_Sc_compare_s1x5 D cy A b0 h0 res) args s 0 0 A) (F0 m 2 ls [])
def I_Sc_compare_s1x5_e (p : Program) (l : Launch) (e : Env) (s : State) (m : MethodId) (args : Array Value) (below : List Frame) (meth : Method) (c : Code) (D : va_G) (cy : Nat → ClassId) (A : Nat → Prop) (ad : Nat → Nat) (b0 : Nat) (h0 : Nat → Int64) (k : Option (Int32)) : Prop :=
  ∀ (res : Int32), k  = some res → ∀ (H : Heap) (locs : List Loc) (ls : Array Slot), va_P D classes [(b0, .inl (cy 2, 5, .inr (.inl h0)))] H → va_D A [(b0, .inl (cy 2, 5, .inr (.inl h0)))] → va_S A s.heap H locs → lv_has ls 3 [(0, .ref b0), (1, .ref (ad 5))] → W p l e rm_Sc_compare_s1x5 s m args below meth c H locs 0 0 (MQ below (q_Sc_compare_s1x5 D cy A b0 h0 res) args s 0 0 A) (F0 m 0 ls [])
set_option maxHeartbeats 8000000 in
set_option maxRecDepth 100000 in
theorem wb_Sc_compare_s1x5_2 {p : Program} {l : Launch} {e : Env} {s : State} {m : MethodId} {args : Array Value} {below : List Frame} {meth : Method} {c : Code} {D : va_G} {cy : Nat → ClassId} {A : Nat → Prop} {ad : Nat → Nat} {b0 : Nat} {h0 : Nat → Int64} {fu : Nat} {k_2 : Int32 → Option (Int32)} (F : Fx p s m args meth c b_Sc_compare 3 "CoinKeeper$Scalar" "compare" (some .int) D cy ad A) (hk_2 : I_Sc_compare_s1x5_2 p l e s m args below meth c D cy A ad b0 h0 k_2) : I_Sc_compare_s1x5_2 p l e s m args below meth c D cy A ad b0 h0 (xb_Sc_compare_s1x5_2 fu h0 k_2) := by
  obtain ⟨hx, hb, hr, hml, hown, hts, hlocks, hK, hA, hSt, hnm, hex⟩ := id F
  intro x2 res hf H locs ls hP hD hS hl
  unfold xb_Sc_compare_s1x5_2 at hf
  refine lv_iload_n hx hb d_Sc_compare_2 rfl (lv_at hl 2 rfl) ?_
  refine lv_if_lt (tgt := 38) hx hb d_Sc_compare_3 (by decide) (fun cx => ?_) (fun cx => ?_)
  · have hf := ifp cx hf
    refine lv_iconst (v := 0) hx hb d_Sc_compare_38 (by decide) ?_
    obtain rfl := Option.some.inj hf
    exact q_ri hx hb hr hlocks hK hP hD hS d_Sc_compare_39
  · have hf := ifn cx hf
    refine lv_aload_n hx hb d_Sc_compare_6 rfl (lv_at hl 0 rfl) ?_
    refine lv_iload_n hx hb d_Sc_compare_7 rfl (lv_at hl 2 rfl) ?_
    obtain ⟨hg, hf⟩ := gdp hf
    refine va_lald hx hb hK hP 0 2 rfl rfl (inb_in hg) d_Sc_compare_8 ?_
    refine lv_topl (fun v1 ev => ?_)
    have hf := bn ev hf
    clear ev
    refine lv_aload_n hx hb d_Sc_compare_9 rfl (lv_at hl 1 rfl) ?_
    refine lv_iload_n hx hb d_Sc_compare_10 rfl (lv_at hl 2 rfl) ?_
    obtain ⟨hg, hf⟩ := gdp hf
    refine va_tl (v := .long (tb_5.getD x2.toNatClampNeg 0)) hx hb (hSt.1 5 _ rfl).2 hS (inb_in hg) rfl d_Sc_compare_11 ?_
    refine lv_topl (fun v2 ev => ?_)
    have hf := bn ev hf
    clear ev
    refine W.lcmp hx hb d_Sc_compare_12 ?_
    refine lv_if_eq (tgt := 32) hx hb d_Sc_compare_13 (by decide) (fun cx => ?_) (fun cx => ?_)
    · have hf := ifp cx hf
      obtain ⟨v3, ev, hf⟩ := bne hf
      refine lv_iinc (v := v3) (lv' := [(2, .int v3), (0, .ref b0), (1, .ref (ad 5))]) hx hb d_Sc_compare_32 hl (k := 2) rfl (by rw [ev]; rfl) (by decide) rfl (fun ls hl => ?_)
      clear ev
      refine lv_goto (tgt := 2) hx hb d_Sc_compare_35 (by decide) ?_
      exact hk_2 _ _ hf _ _ _ hP hD hS (lv_sub hl [1, 2, 0] rfl)
    · have hf := ifn cx hf
      refine lv_aload_n hx hb d_Sc_compare_16 rfl (lv_at hl 0 rfl) ?_
      refine lv_iload_n hx hb d_Sc_compare_17 rfl (lv_at hl 2 rfl) ?_
      obtain ⟨hg, hf⟩ := gdp hf
      refine va_lald hx hb hK hP 0 2 rfl rfl (inb_in hg) d_Sc_compare_18 ?_
      refine lv_topl (fun v4 ev => ?_)
      have hf := bn ev hf
      clear ev
      refine lv_aload_n hx hb d_Sc_compare_19 rfl (lv_at hl 1 rfl) ?_
      refine lv_iload_n hx hb d_Sc_compare_20 rfl (lv_at hl 2 rfl) ?_
      obtain ⟨hg, hf⟩ := gdp hf
      refine va_tl (v := .long (tb_5.getD x2.toNatClampNeg 0)) hx hb (hSt.1 5 _ rfl).2 hS (inb_in hg) rfl d_Sc_compare_21 ?_
      refine lv_topl (fun v5 ev => ?_)
      have hf := bn ev hf
      clear ev
      refine W.lcmp hx hb d_Sc_compare_22 ?_
      refine lv_if_ge (tgt := 30) hx hb d_Sc_compare_23 (by decide) (fun cx => ?_) (fun cx => ?_)
      · have hf := ifp cx hf
        refine lv_iconst (v := 1) hx hb d_Sc_compare_30 (by decide) ?_
        obtain rfl := Option.some.inj hf
        exact q_ri hx hb hr hlocks hK hP hD hS d_Sc_compare_31
      · have hf := ifn cx hf
        refine lv_iconst (v := (-1)) hx hb d_Sc_compare_26 (by decide) ?_
        refine lv_goto (tgt := 31) hx hb d_Sc_compare_27 (by decide) ?_
        obtain rfl := Option.some.inj hf
        exact q_ri hx hb hr hlocks hK hP hD hS d_Sc_compare_31
theorem w_Sc_compare_s1x5_2 {p : Program} {l : Launch} {e : Env} {s : State} {m : MethodId} {args : Array Value} {below : List Frame} {meth : Method} {c : Code} {D : va_G} {cy : Nat → ClassId} {A : Nat → Prop} {ad : Nat → Nat} {b0 : Nat} {h0 : Nat → Int64} {fu : Nat} (F : Fx p s m args meth c b_Sc_compare 3 "CoinKeeper$Scalar" "compare" (some .int) D cy ad A) : ∀ n : Nat, I_Sc_compare_s1x5_2 p l e s m args below meth c D cy A ad b0 h0 (x_Sc_compare_s1x5_2 fu h0 n)
  | 0 => fun _ _ hf => nomatch (show (none : Option (Int32)) = some _ from hf)
  | n + 1 => wb_Sc_compare_s1x5_2 F (w_Sc_compare_s1x5_2 F n)
set_option maxHeartbeats 8000000 in
set_option maxRecDepth 100000 in
theorem we_Sc_compare_s1x5 {p : Program} {l : Launch} {e : Env} {s : State} {m : MethodId} {args : Array Value} {below : List Frame} {meth : Method} {c : Code} {D : va_G} {cy : Nat → ClassId} {A : Nat → Prop} {ad : Nat → Nat} {b0 : Nat} {h0 : Nat → Int64} {fu : Nat} (F : Fx p s m args meth c b_Sc_compare 3 "CoinKeeper$Scalar" "compare" (some .int) D cy ad A) : I_Sc_compare_s1x5_e p l e s m args below meth c D cy A ad b0 h0 (x_Sc_compare_s1x5 fu h0) := by
  obtain ⟨hx, hb, hr, hml, hown, hts, hlocks, hK, hA, hSt, hnm, hex⟩ := id F
  intro  res hf H locs ls hP hD hS hl
  unfold x_Sc_compare_s1x5 at hf
  refine lv_iconst (v := 4) hx hb d_Sc_compare_0 (by decide) ?_
  refine lv_istore_n (lv' := [(2, .int (4 : Int32)), (0, .ref b0), (1, .ref (ad 5))]) hx hb d_Sc_compare_1 rfl hl (by decide) rfl (fun ls hl => ?_)
  exact w_Sc_compare_s1x5_2 F fu _ _ hf _ _ _ hP hD hS (lv_sub hl [1, 2, 0] rfl)
theorem c_Sc_compare_s1x5 (l : Launch) (D : va_G) (cy : Nat → ClassId) (ad : Nat → Nat) (fu : Nat) (b0 : Nat) (h0 : Nat → Int64) (res : Int32) (hf : x_Sc_compare_s1x5 fu h0 = some res) (sz : Nat) : Met l ({ cls := "CoinKeeper$Scalar", name := "compare", desc := "([J[J)I" } : Jvm.MethodName) (.code ({ cls := "CoinKeeper$Scalar", name := "compare", desc := "([J[J)I" } : Jvm.MethodName) b_Sc_compare 3 (some .int) :: gw) rm_Sc_compare_s1x5 (va_Pc [.ref b0, .ref (ad 5)] (Pr D cy ad [(b0, .inl (cy 2, 5, .inr (.inl h0)))] sz)) (q_Sc_compare_s1x5 D cy (va_A [(b0, .inl (cy 2, 5, .inr (.inl h0)))] sz) b0 h0 res) 0 0 (va_A [(b0, .inl (cy 2, 5, .inr (.inl h0)))] sz) :=
  q_met (Qc := fun A => q_Sc_compare_s1x5 D cy A b0 h0 res) (by decide) rfl rfl (Nat.le_of_ble_eq_true rfl) (fun p e s m below meth c ls F hP hD hS hl => we_Sc_compare_s1x5 (fu := fu) F  res hf _ _ _ hP hD hS hl) sz
abbrev b_Cu_readCoordinate : ByteArray := prog_4_method_3_code
theorem d_Cu_readCoordinate_0 : decode b_Cu_readCoordinate 0 = .ok (.aload_n 1, 1) := by decide +kernel
theorem d_Cu_readCoordinate_1 : decode b_Cu_readCoordinate 1 = .ok (.iload_n 2, 1) := by decide +kernel
theorem d_Cu_readCoordinate_2 : decode b_Cu_readCoordinate 2 = .ok (.bipush 32, 2) := by decide +kernel
theorem d_Cu_readCoordinate_4 : decode b_Cu_readCoordinate 4 = .ok (.aload_n 0, 1) := by decide +kernel
theorem d_Cu_readCoordinate_5 : decode b_Cu_readCoordinate 5 = .ok (.getfield 16, 3) := by decide +kernel
theorem d_Cu_readCoordinate_8 : decode b_Cu_readCoordinate 8 = .ok (.invokestatic 71, 3) := by decide +kernel
theorem d_Cu_readCoordinate_11 : decode b_Cu_readCoordinate 11 = .ok (.aload_n 0, 1) := by decide +kernel
theorem d_Cu_readCoordinate_12 : decode b_Cu_readCoordinate 12 = .ok (.getfield 16, 3) := by decide +kernel
theorem d_Cu_readCoordinate_15 : decode b_Cu_readCoordinate 15 = .ok (.getstatic 75, 3) := by decide +kernel
theorem d_Cu_readCoordinate_18 : decode b_Cu_readCoordinate 18 = .ok (.invokestatic 78, 3) := by decide +kernel
theorem d_Cu_readCoordinate_21 : decode b_Cu_readCoordinate 21 = .ok (.ifCond .lt 5, 3) := by decide +kernel
theorem d_Cu_readCoordinate_24 : decode b_Cu_readCoordinate 24 = .ok (.iconst 0, 1) := by decide +kernel
theorem d_Cu_readCoordinate_25 : decode b_Cu_readCoordinate 25 = .ok (.ireturn, 1) := by decide +kernel
theorem d_Cu_readCoordinate_26 : decode b_Cu_readCoordinate 26 = .ok (.aload_n 0, 1) := by decide +kernel
theorem d_Cu_readCoordinate_27 : decode b_Cu_readCoordinate 27 = .ok (.getfield 16, 3) := by decide +kernel
theorem d_Cu_readCoordinate_30 : decode b_Cu_readCoordinate 30 = .ok (.aload_n 3, 1) := by decide +kernel
theorem d_Cu_readCoordinate_31 : decode b_Cu_readCoordinate 31 = .ok (.invokestatic 82, 3) := by decide +kernel
theorem d_Cu_readCoordinate_34 : decode b_Cu_readCoordinate 34 = .ok (.iconst 1, 1) := by decide +kernel
theorem d_Cu_readCoordinate_35 : decode b_Cu_readCoordinate 35 = .ok (.ireturn, 1) := by decide +kernel
abbrev rm_Cu_readCoordinate : Room := { frames := 1, cells := 0, slots := 0, locals := 28 }
abbrev q_Cu_readCoordinate (D : va_G) (cy : Nat → ClassId) (A : Nat → Prop) (o : Nat) (r_rows : Value) (v_a_a : Value) (v_a_b : Value) (v_a_c : Value) (v_a_d : Value) (v_a_f : Value) (a_limbs : Nat) (b1 : Nat) (b3 : Nat) (n1 : Nat) (h1 : Nat → Int32) (res : Int32 × (Nat → Int64) × (Nat → Int64)) : Array Value → State → Outcome → State → Prop := va_Qi (fun r' (_ : Unit) => r' = res.1) (fun _ t => Po D cy A [(o, .inr (3, [r_rows, .ref a_limbs, v_a_a, v_a_b, v_a_c, v_a_d, v_a_f])), (a_limbs, .inl (cy 2, 5, .inr (.inl res.2.1))), (b1, .inl (cy 0, n1, .inl h1)), (b3, .inl (cy 2, 10, .inr (.inl res.2.2)))] t) A
def I_Cu_readCoordinate_e (p : Program) (l : Launch) (e : Env) (s : State) (m : MethodId) (args : Array Value) (below : List Frame) (meth : Method) (c : Code) (D : va_G) (cy : Nat → ClassId) (A : Nat → Prop) (ad : Nat → Nat) (o : Nat) (r_rows : Value) (v_a_a : Value) (v_a_b : Value) (v_a_c : Value) (v_a_d : Value) (v_a_f : Value) (a_limbs : Nat) (b1 : Nat) (b3 : Nat) (n1 : Nat) (h1 : Nat → Int32) (k : Int32 → (Nat → Int64) → (Nat → Int64) → Option (Int32 × (Nat → Int64) × (Nat → Int64))) : Prop :=
  ∀ (a2 : Int32) (u0 : Nat → Int64) (u1 : Nat → Int64) (res : Int32 × (Nat → Int64) × (Nat → Int64)), k a2 u0 u1 = some res → ∀ (H : Heap) (locs : List Loc) (ls : Array Slot), va_P D classes [(o, .inr (3, [r_rows, .ref a_limbs, v_a_a, v_a_b, v_a_c, v_a_d, v_a_f])), (a_limbs, .inl (cy 2, 5, .inr (.inl u0))), (b1, .inl (cy 0, n1, .inl h1)), (b3, .inl (cy 2, 10, .inr (.inl u1)))] H → va_D A [(o, .inr (3, [r_rows, .ref a_limbs, v_a_a, v_a_b, v_a_c, v_a_d, v_a_f])), (a_limbs, .inl (cy 2, 5, .inr (.inl u0))), (b1, .inl (cy 0, n1, .inl h1)), (b3, .inl (cy 2, 10, .inr (.inl u1)))] → va_S A s.heap H locs → lv_has ls 4 [(0, .ref o), (1, .ref b1), (2, .int a2), (3, .ref b3)] → W p l e rm_Cu_readCoordinate s m args below meth c H locs 0 0 (MQ below (q_Cu_readCoordinate D cy A o r_rows v_a_a v_a_b v_a_c v_a_d v_a_f a_limbs b1 b3 n1 h1 res) args s 0 0 A) (F0 m 0 ls [])
theorem hdc_13 : ({ cls := "CoinKeeper$Scalar", name := "load", desc := "([BII[J)V" } : Jvm.MethodName).cls ≠ "java/lang/invoke/MethodHandle" ∧ ({ cls := "CoinKeeper$Scalar", name := "load", desc := "([BII[J)V" } : Jvm.MethodName).cls ≠ "java/lang/invoke/VarHandle" ∧ (parseMethodDescriptor ({ cls := "CoinKeeper$Scalar", name := "load", desc := "([BII[J)V" } : Jvm.MethodName).desc).map (fun d => d.parameters.length) = some 4 := by decide +kernel
theorem hdc_14 : ({ cls := "CoinKeeper$Scalar", name := "compare", desc := "([J[J)I" } : Jvm.MethodName).cls ≠ "java/lang/invoke/MethodHandle" ∧ ({ cls := "CoinKeeper$Scalar", name := "compare", desc := "([J[J)I" } : Jvm.MethodName).cls ≠ "java/lang/invoke/VarHandle" ∧ (parseMethodDescriptor ({ cls := "CoinKeeper$Scalar", name := "compare", desc := "([J[J)I" } : Jvm.MethodName).desc).map (fun d => d.parameters.length) = some 2 := by decide +kernel
theorem hdc_15 : ({ cls := "CoinKeeper$Curve", name := "split", desc := "([J[J)V" } : Jvm.MethodName).cls ≠ "java/lang/invoke/MethodHandle" ∧ ({ cls := "CoinKeeper$Curve", name := "split", desc := "([J[J)V" } : Jvm.MethodName).cls ≠ "java/lang/invoke/VarHandle" ∧ (parseMethodDescriptor ({ cls := "CoinKeeper$Curve", name := "split", desc := "([J[J)V" } : Jvm.MethodName).desc).map (fun d => d.parameters.length) = some 2 := by decide +kernel
set_option maxHeartbeats 8000000 in
set_option maxRecDepth 100000 in
theorem we_Cu_readCoordinate {p : Program} {l : Launch} {e : Env} {s : State} {m : MethodId} {args : Array Value} {below : List Frame} {meth : Method} {c : Code} {D : va_G} {cy : Nat → ClassId} {A : Nat → Prop} {ad : Nat → Nat} {o : Nat} {r_rows : Value} {v_a_a : Value} {v_a_b : Value} {v_a_c : Value} {v_a_d : Value} {v_a_f : Value} {a_limbs : Nat} {b1 : Nat} {b3 : Nat} {n1 : Nat} {h1 : Nat → Int32} {fu : Nat} (F : Fx p s m args meth c b_Cu_readCoordinate 4 "CoinKeeper$Curve" "readCoordinate" (some .boolean) D cy ad A) : I_Cu_readCoordinate_e p l e s m args below meth c D cy A ad o r_rows v_a_a v_a_b v_a_c v_a_d v_a_f a_limbs b1 b3 n1 h1 (x_Cu_readCoordinate fu n1 h1) := by
  obtain ⟨hx, hb, hr, hml, hown, hts, hlocks, hK, hA, hSt, hnm, hex⟩ := id F
  intro a2 u0 u1 res hf H locs ls hP hD hS hl
  unfold x_Cu_readCoordinate at hf
  refine lv_aload_n hx hb d_Cu_readCoordinate_0 rfl (lv_at hl 1 rfl) ?_
  refine lv_iload_n hx hb d_Cu_readCoordinate_1 rfl (lv_at hl 2 rfl) ?_
  refine lv_bipush (v := 32) hx hb d_Cu_readCoordinate_2 (by decide) ?_
  refine lv_aload_n hx hb d_Cu_readCoordinate_4 rfl (lv_at hl 0 rfl) ?_
  refine va_get (D := D) (ci := 3) (v := .ref a_limbs) (C := "CoinKeeper$Curve") (T := F_3) (N := 7) hx hb hts i_3 hown hK hP 0 rfl rfl 1 (by decide) (hts _ gw_77) (fun _ h9 => h9) rfl d_Cu_readCoordinate_5 ?_
  obtain ⟨f1, hc, hf⟩ := bdp1 hf
  refine q_av (wr := [(o, .inr (3, [r_rows, .ref a_limbs, v_a_a, v_a_b, v_a_c, v_a_d, v_a_f])), (b3, .inl (cy 2, 10, .inr (.inl u1)))]) (va_runS (As := [.ref b1, .int a2, .int (32 : Int32), .ref a_limbs]) (rest := []) ⟨hx, hb, hml, hown, hts⟩ (c_Sc_load l D cy ad fu b1 a_limbs n1 h1 a2 (32 : Int32) u0 _ hc H.size) ⟨q_cB hts gw_1049 gw_28 gw_1068 hdc_13 ⟨by decide, by decide⟩, hts _ gw_1048⟩ (q_pre (hP.sub [2, 1] rfl) (hD.sub [2, 1] (by decide) rfl) hK hSt hS (va_free hD hS hA [2, 1] rfl) _) rfl rfl hl.1 rfl (lv_room (Nat.le_of_ble_eq_true rfl)) d_Cu_readCoordinate_8 ⟨Nat.le_of_ble_eq_true rfl, Nat.le_of_ble_eq_true rfl⟩) hP hD hS hA [2, 1] [0, 3] rfl rfl (by decide) (by decide) (fun H locs hP hD hS => ?_)
  clear hc
  have hP : va_P D classes [(o, .inr (3, [r_rows, .ref a_limbs, v_a_a, v_a_b, v_a_c, v_a_d, v_a_f])), (b3, .inl (cy 2, 10, .inr (.inl u1))), (b1, .inl (cy 0, n1, .inl h1)), (a_limbs, .inl (cy 2, 5, .inr (.inl f1)))] H := hP
  have hD : va_D A [(o, .inr (3, [r_rows, .ref a_limbs, v_a_a, v_a_b, v_a_c, v_a_d, v_a_f])), (b3, .inl (cy 2, 10, .inr (.inl u1))), (b1, .inl (cy 0, n1, .inl h1)), (a_limbs, .inl (cy 2, 5, .inr (.inl f1)))] := hD
  refine lv_aload_n hx hb d_Cu_readCoordinate_11 rfl (lv_at hl 0 rfl) ?_
  refine va_get (D := D) (ci := 3) (v := .ref a_limbs) (C := "CoinKeeper$Curve") (T := F_3) (N := 7) hx hb hts i_3 hown hK hP 0 rfl rfl 1 (by decide) (hts _ gw_77) (fun _ h9 => h9) rfl d_Cu_readCoordinate_12 ?_
  refine va_gets hx hb (hSt.1 5 _ rfl).1 hS hown (hts _ gw_1069) (fun _ h9 => h9) d_Cu_readCoordinate_15 ?_
  obtain ⟨v2, hc, hf⟩ := bdp1 hf
  refine q_ai (wr := [(o, .inr (3, [r_rows, .ref a_limbs, v_a_a, v_a_b, v_a_c, v_a_d, v_a_f])), (b3, .inl (cy 2, 10, .inr (.inl u1))), (b1, .inl (cy 0, n1, .inl h1))]) (va_runS (As := [.ref a_limbs, .ref (ad 5)]) (rest := []) ⟨hx, hb, hml, hown, hts⟩ (c_Sc_compare_s1x5 l D cy ad fu a_limbs f1 _ hc H.size) ⟨q_cB hts gw_1059 gw_28 gw_1071 hdc_14 ⟨by decide, by decide⟩, hts _ gw_1058⟩ (q_pre (hP.sub [3] rfl) (hD.sub [3] (by decide) rfl) hK hSt hS (va_free hD hS hA [3] rfl) _) rfl rfl hl.1 rfl (lv_room (Nat.le_of_ble_eq_true rfl)) d_Cu_readCoordinate_18 ⟨Nat.le_of_ble_eq_true rfl, Nat.le_of_ble_eq_true rfl⟩) hP hD hS hA [3] [0, 1, 2] rfl rfl (by decide) (by decide) (fun H locs hP hD hS => ?_)
  clear hc
  have hP : va_P D classes [(o, .inr (3, [r_rows, .ref a_limbs, v_a_a, v_a_b, v_a_c, v_a_d, v_a_f])), (b3, .inl (cy 2, 10, .inr (.inl u1))), (b1, .inl (cy 0, n1, .inl h1)), (a_limbs, .inl (cy 2, 5, .inr (.inl f1)))] H := hP
  have hD : va_D A [(o, .inr (3, [r_rows, .ref a_limbs, v_a_a, v_a_b, v_a_c, v_a_d, v_a_f])), (b3, .inl (cy 2, 10, .inr (.inl u1))), (b1, .inl (cy 0, n1, .inl h1)), (a_limbs, .inl (cy 2, 5, .inr (.inl f1)))] := hD
  refine lv_if_lt (tgt := 26) hx hb d_Cu_readCoordinate_21 (by decide) (fun cx => ?_) (fun cx => ?_)
  · have hf := ifp cx hf
    refine lv_aload_n hx hb d_Cu_readCoordinate_26 rfl (lv_at hl 0 rfl) ?_
    refine va_get (D := D) (ci := 3) (v := .ref a_limbs) (C := "CoinKeeper$Curve") (T := F_3) (N := 7) hx hb hts i_3 hown hK hP 0 rfl rfl 1 (by decide) (hts _ gw_77) (fun _ h9 => h9) rfl d_Cu_readCoordinate_27 ?_
    refine lv_aload_n hx hb d_Cu_readCoordinate_30 rfl (lv_at hl 3 rfl) ?_
    obtain ⟨f3, hc, hf⟩ := bdp1 hf
    refine q_av (wr := [(o, .inr (3, [r_rows, .ref a_limbs, v_a_a, v_a_b, v_a_c, v_a_d, v_a_f])), (b1, .inl (cy 0, n1, .inl h1))]) (va_runS (As := [.ref a_limbs, .ref b3]) (rest := []) ⟨hx, hb, hml, hown, hts⟩ (c_Cu_split l D cy ad fu a_limbs b3 f1 u1 _ hc H.size) ⟨q_cB hts gw_1074 gw_4 gw_1072 hdc_15 ⟨by decide, by decide⟩, hts _ gw_1073⟩ (q_pre (hP.sub [3, 1] rfl) (hD.sub [3, 1] (by decide) rfl) hK hSt hS (va_free hD hS hA [3, 1] rfl) _) rfl rfl hl.1 rfl (lv_room (Nat.le_of_ble_eq_true rfl)) d_Cu_readCoordinate_31 ⟨Nat.le_of_ble_eq_true rfl, Nat.le_of_ble_eq_true rfl⟩) hP hD hS hA [3, 1] [0, 2] rfl rfl (by decide) (by decide) (fun H locs hP hD hS => ?_)
    clear hc
    have hP : va_P D classes [(o, .inr (3, [r_rows, .ref a_limbs, v_a_a, v_a_b, v_a_c, v_a_d, v_a_f])), (b1, .inl (cy 0, n1, .inl h1)), (a_limbs, .inl (cy 2, 5, .inr (.inl f1))), (b3, .inl (cy 2, 10, .inr (.inl f3)))] H := hP
    have hD : va_D A [(o, .inr (3, [r_rows, .ref a_limbs, v_a_a, v_a_b, v_a_c, v_a_d, v_a_f])), (b1, .inl (cy 0, n1, .inl h1)), (a_limbs, .inl (cy 2, 5, .inr (.inl f1))), (b3, .inl (cy 2, 10, .inr (.inl f3)))] := hD
    refine lv_iconst (v := 1) hx hb d_Cu_readCoordinate_34 (by decide) ?_
    obtain rfl := Option.some.inj hf
    exact q_rz hx hb hr hlocks hK (hP.sub [0, 2, 1, 3] rfl) (hD.sub [0, 2, 1, 3] (by decide) rfl) hS (isb_n (v := 1) (by decide)) d_Cu_readCoordinate_35
  · have hf := ifn cx hf
    refine lv_iconst (v := 0) hx hb d_Cu_readCoordinate_24 (by decide) ?_
    obtain rfl := Option.some.inj hf
    exact q_rz hx hb hr hlocks hK (hP.sub [0, 3, 2, 1] rfl) (hD.sub [0, 3, 2, 1] (by decide) rfl) hS (isb_n (v := 0) (by decide)) d_Cu_readCoordinate_25
theorem c_Cu_readCoordinate (l : Launch) (D : va_G) (cy : Nat → ClassId) (ad : Nat → Nat) (fu : Nat) (o : Nat) (r_rows : Value) (v_a_a : Value) (v_a_b : Value) (v_a_c : Value) (v_a_d : Value) (v_a_f : Value) (a_limbs : Nat) (b1 : Nat) (b3 : Nat) (n1 : Nat) (h1 : Nat → Int32) (a2 : Int32) (u0 : Nat → Int64) (u1 : Nat → Int64) (res : Int32 × (Nat → Int64) × (Nat → Int64)) (hf : x_Cu_readCoordinate fu n1 h1 a2 u0 u1 = some res) (sz : Nat) : Met l ({ cls := "CoinKeeper$Curve", name := "readCoordinate", desc := "([BI[J)Z" } : Jvm.MethodName) (.code ({ cls := "CoinKeeper$Curve", name := "readCoordinate", desc := "([BI[J)Z" } : Jvm.MethodName) b_Cu_readCoordinate 4 (some .boolean) :: gw) rm_Cu_readCoordinate (va_Pc [.ref o, .ref b1, .int a2, .ref b3] (Pr D cy ad [(o, .inr (3, [r_rows, .ref a_limbs, v_a_a, v_a_b, v_a_c, v_a_d, v_a_f])), (a_limbs, .inl (cy 2, 5, .inr (.inl u0))), (b1, .inl (cy 0, n1, .inl h1)), (b3, .inl (cy 2, 10, .inr (.inl u1)))] sz)) (q_Cu_readCoordinate D cy (va_A [(o, .inr (3, [r_rows, .ref a_limbs, v_a_a, v_a_b, v_a_c, v_a_d, v_a_f])), (a_limbs, .inl (cy 2, 5, .inr (.inl u0))), (b1, .inl (cy 0, n1, .inl h1)), (b3, .inl (cy 2, 10, .inr (.inl u1)))] sz) o r_rows v_a_a v_a_b v_a_c v_a_d v_a_f a_limbs b1 b3 n1 h1 res) 0 0 (va_A [(o, .inr (3, [r_rows, .ref a_limbs, v_a_a, v_a_b, v_a_c, v_a_d, v_a_f])), (a_limbs, .inl (cy 2, 5, .inr (.inl u0))), (b1, .inl (cy 0, n1, .inl h1)), (b3, .inl (cy 2, 10, .inr (.inl u1)))] sz) :=
  q_met (Qc := fun A => q_Cu_readCoordinate D cy A o r_rows v_a_a v_a_b v_a_c v_a_d v_a_f a_limbs b1 b3 n1 h1 res) (by decide) rfl rfl (Nat.le_of_ble_eq_true rfl) (fun p e s m below meth c ls F hP hD hS hl => we_Cu_readCoordinate (fu := fu) F a2 u0 u1 res hf _ _ _ hP hD hS hl) sz
