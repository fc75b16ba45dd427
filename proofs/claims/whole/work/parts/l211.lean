abbrev b_La_scriptsAreSound : ByteArray := prog_5_method_15_code
theorem d_La_scriptsAreSound_0 : decode b_La_scriptsAreSound 0 = .ok (.iconst 0, 1) := by decide +kernel
theorem d_La_scriptsAreSound_1 : decode b_La_scriptsAreSound 1 = .ok (.istore_n 1, 1) := by decide +kernel
theorem d_La_scriptsAreSound_2 : decode b_La_scriptsAreSound 2 = .ok (.iconst 0, 1) := by decide +kernel
theorem d_La_scriptsAreSound_3 : decode b_La_scriptsAreSound 3 = .ok (.istore_n 2, 1) := by decide +kernel
theorem d_La_scriptsAreSound_4 : decode b_La_scriptsAreSound 4 = .ok (.iload_n 2, 1) := by decide +kernel
theorem d_La_scriptsAreSound_5 : decode b_La_scriptsAreSound 5 = .ok (.aload_n 0, 1) := by decide +kernel
theorem d_La_scriptsAreSound_6 : decode b_La_scriptsAreSound 6 = .ok (.getfield 53, 3) := by decide +kernel
theorem d_La_scriptsAreSound_9 : decode b_La_scriptsAreSound 9 = .ok (.if_icmp .ge 49, 3) := by decide +kernel
theorem d_La_scriptsAreSound_12 : decode b_La_scriptsAreSound 12 = .ok (.aload_n 0, 1) := by decide +kernel
theorem d_La_scriptsAreSound_13 : decode b_La_scriptsAreSound 13 = .ok (.getfield 27, 3) := by decide +kernel
theorem d_La_scriptsAreSound_16 : decode b_La_scriptsAreSound 16 = .ok (.iload_n 2, 1) := by decide +kernel
theorem d_La_scriptsAreSound_17 : decode b_La_scriptsAreSound 17 = .ok (.iaload, 1) := by decide +kernel
theorem d_La_scriptsAreSound_18 : decode b_La_scriptsAreSound 18 = .ok (.aload_n 0, 1) := by decide +kernel
theorem d_La_scriptsAreSound_19 : decode b_La_scriptsAreSound 19 = .ok (.getfield 24, 3) := by decide +kernel
theorem d_La_scriptsAreSound_22 : decode b_La_scriptsAreSound 22 = .ok (.iload_n 2, 1) := by decide +kernel
theorem d_La_scriptsAreSound_23 : decode b_La_scriptsAreSound 23 = .ok (.iaload, 1) := by decide +kernel
theorem d_La_scriptsAreSound_24 : decode b_La_scriptsAreSound 24 = .ok (.isub, 1) := by decide +kernel
theorem d_La_scriptsAreSound_25 : decode b_La_scriptsAreSound 25 = .ok (.sipush 1000, 3) := by decide +kernel
theorem d_La_scriptsAreSound_28 : decode b_La_scriptsAreSound 28 = .ok (.if_icmp .le 5, 3) := by decide +kernel
theorem d_La_scriptsAreSound_31 : decode b_La_scriptsAreSound 31 = .ok (.iconst 0, 1) := by decide +kernel
theorem d_La_scriptsAreSound_32 : decode b_La_scriptsAreSound 32 = .ok (.ireturn, 1) := by decide +kernel
theorem d_La_scriptsAreSound_33 : decode b_La_scriptsAreSound 33 = .ok (.iload_n 1, 1) := by decide +kernel
theorem d_La_scriptsAreSound_34 : decode b_La_scriptsAreSound 34 = .ok (.aload_n 0, 1) := by decide +kernel
theorem d_La_scriptsAreSound_35 : decode b_La_scriptsAreSound 35 = .ok (.aload_n 0, 1) := by decide +kernel
theorem d_La_scriptsAreSound_36 : decode b_La_scriptsAreSound 36 = .ok (.getfield 24, 3) := by decide +kernel
theorem d_La_scriptsAreSound_39 : decode b_La_scriptsAreSound 39 = .ok (.iload_n 2, 1) := by decide +kernel
theorem d_La_scriptsAreSound_40 : decode b_La_scriptsAreSound 40 = .ok (.iaload, 1) := by decide +kernel
theorem d_La_scriptsAreSound_41 : decode b_La_scriptsAreSound 41 = .ok (.aload_n 0, 1) := by decide +kernel
theorem d_La_scriptsAreSound_42 : decode b_La_scriptsAreSound 42 = .ok (.getfield 27, 3) := by decide +kernel
theorem d_La_scriptsAreSound_45 : decode b_La_scriptsAreSound 45 = .ok (.iload_n 2, 1) := by decide +kernel
theorem d_La_scriptsAreSound_46 : decode b_La_scriptsAreSound 46 = .ok (.iaload, 1) := by decide +kernel
theorem d_La_scriptsAreSound_47 : decode b_La_scriptsAreSound 47 = .ok (.invokevirtual 136, 3) := by decide +kernel
theorem d_La_scriptsAreSound_50 : decode b_La_scriptsAreSound 50 = .ok (.iadd, 1) := by decide +kernel
theorem d_La_scriptsAreSound_51 : decode b_La_scriptsAreSound 51 = .ok (.istore_n 1, 1) := by decide +kernel
theorem d_La_scriptsAreSound_52 : decode b_La_scriptsAreSound 52 = .ok (.iinc 2 1, 3) := by decide +kernel
theorem d_La_scriptsAreSound_55 : decode b_La_scriptsAreSound 55 = .ok (.goto (-51), 3) := by decide +kernel
theorem d_La_scriptsAreSound_58 : decode b_La_scriptsAreSound 58 = .ok (.iconst 0, 1) := by decide +kernel
theorem d_La_scriptsAreSound_59 : decode b_La_scriptsAreSound 59 = .ok (.istore_n 2, 1) := by decide +kernel
theorem d_La_scriptsAreSound_60 : decode b_La_scriptsAreSound 60 = .ok (.iload_n 2, 1) := by decide +kernel
theorem d_La_scriptsAreSound_61 : decode b_La_scriptsAreSound 61 = .ok (.aload_n 0, 1) := by decide +kernel
theorem d_La_scriptsAreSound_62 : decode b_La_scriptsAreSound 62 = .ok (.getfield 56, 3) := by decide +kernel
theorem d_La_scriptsAreSound_65 : decode b_La_scriptsAreSound 65 = .ok (.if_icmp .ge 49, 3) := by decide +kernel
theorem d_La_scriptsAreSound_68 : decode b_La_scriptsAreSound 68 = .ok (.aload_n 0, 1) := by decide +kernel
theorem d_La_scriptsAreSound_69 : decode b_La_scriptsAreSound 69 = .ok (.getfield 36, 3) := by decide +kernel
theorem d_La_scriptsAreSound_72 : decode b_La_scriptsAreSound 72 = .ok (.iload_n 2, 1) := by decide +kernel
theorem d_La_scriptsAreSound_73 : decode b_La_scriptsAreSound 73 = .ok (.iaload, 1) := by decide +kernel
theorem d_La_scriptsAreSound_74 : decode b_La_scriptsAreSound 74 = .ok (.aload_n 0, 1) := by decide +kernel
theorem d_La_scriptsAreSound_75 : decode b_La_scriptsAreSound 75 = .ok (.getfield 33, 3) := by decide +kernel
theorem d_La_scriptsAreSound_78 : decode b_La_scriptsAreSound 78 = .ok (.iload_n 2, 1) := by decide +kernel
theorem d_La_scriptsAreSound_79 : decode b_La_scriptsAreSound 79 = .ok (.iaload, 1) := by decide +kernel
theorem d_La_scriptsAreSound_80 : decode b_La_scriptsAreSound 80 = .ok (.isub, 1) := by decide +kernel
theorem d_La_scriptsAreSound_81 : decode b_La_scriptsAreSound 81 = .ok (.sipush 1000, 3) := by decide +kernel
theorem d_La_scriptsAreSound_84 : decode b_La_scriptsAreSound 84 = .ok (.if_icmp .le 5, 3) := by decide +kernel
theorem d_La_scriptsAreSound_87 : decode b_La_scriptsAreSound 87 = .ok (.iconst 0, 1) := by decide +kernel
theorem d_La_scriptsAreSound_88 : decode b_La_scriptsAreSound 88 = .ok (.ireturn, 1) := by decide +kernel
theorem d_La_scriptsAreSound_89 : decode b_La_scriptsAreSound 89 = .ok (.iload_n 1, 1) := by decide +kernel
theorem d_La_scriptsAreSound_90 : decode b_La_scriptsAreSound 90 = .ok (.aload_n 0, 1) := by decide +kernel
theorem d_La_scriptsAreSound_91 : decode b_La_scriptsAreSound 91 = .ok (.aload_n 0, 1) := by decide +kernel
theorem d_La_scriptsAreSound_92 : decode b_La_scriptsAreSound 92 = .ok (.getfield 33, 3) := by decide +kernel
theorem d_La_scriptsAreSound_95 : decode b_La_scriptsAreSound 95 = .ok (.iload_n 2, 1) := by decide +kernel
theorem d_La_scriptsAreSound_96 : decode b_La_scriptsAreSound 96 = .ok (.iaload, 1) := by decide +kernel
theorem d_La_scriptsAreSound_97 : decode b_La_scriptsAreSound 97 = .ok (.aload_n 0, 1) := by decide +kernel
theorem d_La_scriptsAreSound_98 : decode b_La_scriptsAreSound 98 = .ok (.getfield 36, 3) := by decide +kernel
theorem d_La_scriptsAreSound_101 : decode b_La_scriptsAreSound 101 = .ok (.iload_n 2, 1) := by decide +kernel
theorem d_La_scriptsAreSound_102 : decode b_La_scriptsAreSound 102 = .ok (.iaload, 1) := by decide +kernel
theorem d_La_scriptsAreSound_103 : decode b_La_scriptsAreSound 103 = .ok (.invokevirtual 136, 3) := by decide +kernel
theorem d_La_scriptsAreSound_106 : decode b_La_scriptsAreSound 106 = .ok (.iadd, 1) := by decide +kernel
theorem d_La_scriptsAreSound_107 : decode b_La_scriptsAreSound 107 = .ok (.istore_n 1, 1) := by decide +kernel
theorem d_La_scriptsAreSound_108 : decode b_La_scriptsAreSound 108 = .ok (.iinc 2 1, 3) := by decide +kernel
theorem d_La_scriptsAreSound_111 : decode b_La_scriptsAreSound 111 = .ok (.goto (-51), 3) := by decide +kernel
theorem d_La_scriptsAreSound_114 : decode b_La_scriptsAreSound 114 = .ok (.iload_n 1, 1) := by decide +kernel
theorem d_La_scriptsAreSound_115 : decode b_La_scriptsAreSound 115 = .ok (.bipush 40, 2) := by decide +kernel
theorem d_La_scriptsAreSound_117 : decode b_La_scriptsAreSound 117 = .ok (.if_icmp .gt 7, 3) := by decide +kernel
theorem d_La_scriptsAreSound_120 : decode b_La_scriptsAreSound 120 = .ok (.iconst 1, 1) := by decide +kernel
theorem d_La_scriptsAreSound_121 : decode b_La_scriptsAreSound 121 = .ok (.goto 4, 3) := by decide +kernel
theorem d_La_scriptsAreSound_124 : decode b_La_scriptsAreSound 124 = .ok (.iconst 0, 1) := by decide +kernel
theorem d_La_scriptsAreSound_125 : decode b_La_scriptsAreSound 125 = .ok (.ireturn, 1) := by decide +kernel
abbrev rm_La_scriptsAreSound : Room := { frames := 1, cells := 0, slots := 0, locals := 25 }
abbrev q_La_scriptsAreSound (D : va_G) (cy : Nat → ClassId) (A : Nat → Prop) (o : Nat) (v_a_txAt : Value) (v_a_firstIn : Value) (v_a_firstOut : Value) (v_a_inAt : Value) (v_a_outAt : Value) (a_raw : Nat) (a_inScript : Nat) (a_inEnd : Nat) (a_outScript : Nat) (a_outEnd : Nat) (i_txs : Int32) (i_end : Int32) (i_at : Int32) (i_ins : Int32) (i_outs : Int32) (n_raw : Nat) (g_raw : Nat → Int32) (g_inScript : Nat → Int32) (g_inEnd : Nat → Int32) (g_outScript : Nat → Int32) (g_outEnd : Nat → Int32) (res : Int32) : Array Value → State → Outcome → State → Prop := va_Qi (fun r' (_ : Unit) => r' = res) (fun _ t => Po D cy A [(o, .inr (4, [.ref a_raw, .int i_txs, v_a_txAt, v_a_firstIn, v_a_firstOut, v_a_inAt, .ref a_inScript, .ref a_inEnd, v_a_outAt, .ref a_outScript, .ref a_outEnd, .int i_end, .int i_at, .int i_ins, .int i_outs])), (a_raw, .inl (cy 0, n_raw, .inl g_raw)), (a_inScript, .inl (cy 1, 73, .inl g_inScript)), (a_inEnd, .inl (cy 1, 73, .inl g_inEnd)), (a_outScript, .inl (cy 1, 333, .inl g_outScript)), (a_outEnd, .inl (cy 1, 333, .inl g_outEnd))] t) A
def I_La_scriptsAreSound_60 (p : Program) (l : Launch) (e : Env) (s : State) (m : MethodId) (args : Array Value) (below : List Frame) (meth : Method) (c : Code) (D : va_G) (cy : Nat → ClassId) (A : Nat → Prop) (ad : Nat → Nat) (o : Nat) (v_a_txAt : Value) (v_a_firstIn : Value) (v_a_firstOut : Value) (v_a_inAt : Value) (v_a_outAt : Value) (a_raw : Nat) (a_inScript : Nat) (a_inEnd : Nat) (a_outScript : Nat) (a_outEnd : Nat) (i_txs : Int32) (i_end : Int32) (i_at : Int32) (i_ins : Int32) (i_outs : Int32) (n_raw : Nat) (g_raw : Nat → Int32) (g_inScript : Nat → Int32) (g_inEnd : Nat → Int32) (g_outScript : Nat → Int32) (g_outEnd : Nat → Int32) (k : Int32 → Int32 → Option (Int32)) : Prop :=
  ∀ (x1 : Int32) (x2 : Int32) (res : Int32), k x1 x2 = some res → ∀ (H : Heap) (locs : List Loc) (ls : Array Slot), va_P D classes [(o, .inr (4, [.ref a_raw, .int i_txs, v_a_txAt, v_a_firstIn, v_a_firstOut, v_a_inAt, .ref a_inScript, .ref a_inEnd, v_a_outAt, .ref a_outScript, .ref a_outEnd, .int i_end, .int i_at, .int i_ins, .int i_outs])), (a_raw, .inl (cy 0, n_raw, .inl g_raw)), (a_inScript, .inl (cy 1, 73, .inl g_inScript)), (a_inEnd, .inl (cy 1, 73, .inl g_inEnd)), (a_outScript, .inl (cy 1, 333, .inl g_outScript)), (a_outEnd, .inl (cy 1, 333, .inl g_outEnd))] H → va_D A [(o, .inr (4, [.ref a_raw, .int i_txs, v_a_txAt, v_a_firstIn, v_a_firstOut, v_a_inAt, .ref a_inScript, .ref a_inEnd, v_a_outAt, .ref a_outScript, .ref a_outEnd, .int i_end, .int i_at, .int i_ins, .int i_outs])), (a_raw, .inl (cy 0, n_raw, .inl g_raw)), (a_inScript, .inl (cy 1, 73, .inl g_inScript)), (a_inEnd, .inl (cy 1, 73, .inl g_inEnd)), (a_outScript, .inl (cy 1, 333, .inl g_outScript)), (a_outEnd, .inl (cy 1, 333, .inl g_outEnd))] → va_S A s.heap H locs → lv_has ls 3 [(0, .ref o), (1, .int x1), (2, .int x2)] → W p l e rm_La_scriptsAreSound s m args below meth c H locs 0 0 (MQ below (q_La_scriptsAreSound D cy A o v_a_txAt v_a_firstIn v_a_firstOut v_a_inAt v_a_outAt a_raw a_inScript a_inEnd a_outScript a_outEnd i_txs i_end i_at i_ins i_outs n_raw g_raw g_inScript g_inEnd g_outScript g_outEnd res) args s 0 0 A) (F0 m 60 ls [])
def I_La_scriptsAreSound_4 (p : Program) (l : Launch) (e : Env) (s : State) (m : MethodId) (args : Array Value) (below : List Frame) (meth : Method) (c : Code) (D : va_G) (cy : Nat → ClassId) (A : Nat → Prop) (ad : Nat → Nat) (o : Nat) (v_a_txAt : Value) (v_a_firstIn : Value) (v_a_firstOut : Value) (v_a_inAt : Value) (v_a_outAt : Value) (a_raw : Nat) (a_inScript : Nat) (a_inEnd : Nat) (a_outScript : Nat) (a_outEnd : Nat) (i_txs : Int32) (i_end : Int32) (i_at : Int32) (i_ins : Int32) (i_outs : Int32) (n_raw : Nat) (g_raw : Nat → Int32) (g_inScript : Nat → Int32) (g_inEnd : Nat → Int32) (g_outScript : Nat → Int32) (g_outEnd : Nat → Int32) (k : Int32 → Int32 → Option (Int32)) : Prop :=
  ∀ (x1 : Int32) (x2 : Int32) (res : Int32), k x1 x2 = some res → ∀ (H : Heap) (locs : List Loc) (ls : Array Slot), va_P D classes [(o, .inr (4, [.ref a_raw, .int i_txs, v_a_txAt, v_a_firstIn, v_a_firstOut, v_a_inAt, .ref a_inScript, .ref a_inEnd, v_a_outAt, .ref a_outScript, .ref a_outEnd, .int i_end, .int i_at, .int i_ins, .int i_outs])), (a_raw, .inl (cy 0, n_raw, .inl g_raw)), (a_inScript, .inl (cy 1, 73, .inl g_inScript)), (a_inEnd, .inl (cy 1, 73, .inl g_inEnd)), (a_outScript, .inl (cy 1, 333, .inl g_outScript)), (a_outEnd, .inl (cy 1, 333, .inl g_outEnd))] H → va_D A [(o, .inr (4, [.ref a_raw, .int i_txs, v_a_txAt, v_a_firstIn, v_a_firstOut, v_a_inAt, .ref a_inScript, .ref a_inEnd, v_a_outAt, .ref a_outScript, .ref a_outEnd, .int i_end, .int i_at, .int i_ins, .int i_outs])), (a_raw, .inl (cy 0, n_raw, .inl g_raw)), (a_inScript, .inl (cy 1, 73, .inl g_inScript)), (a_inEnd, .inl (cy 1, 73, .inl g_inEnd)), (a_outScript, .inl (cy 1, 333, .inl g_outScript)), (a_outEnd, .inl (cy 1, 333, .inl g_outEnd))] → va_S A s.heap H locs → lv_has ls 3 [(0, .ref o), (1, .int x1), (2, .int x2)] → W p l e rm_La_scriptsAreSound s m args below meth c H locs 0 0 (MQ below (q_La_scriptsAreSound D cy A o v_a_txAt v_a_firstIn v_a_firstOut v_a_inAt v_a_outAt a_raw a_inScript a_inEnd a_outScript a_outEnd i_txs i_end i_at i_ins i_outs n_raw g_raw g_inScript g_inEnd g_outScript g_outEnd res) args s 0 0 A) (F0 m 4 ls [])
def I_La_scriptsAreSound_e (p : Program) (l : Launch) (e : Env) (s : State) (m : MethodId) (args : Array Value) (below : List Frame) (meth : Method) (c : Code) (D : va_G) (cy : Nat → ClassId) (A : Nat → Prop) (ad : Nat → Nat) (o : Nat) (v_a_txAt : Value) (v_a_firstIn : Value) (v_a_firstOut : Value) (v_a_inAt : Value) (v_a_outAt : Value) (a_raw : Nat) (a_inScript : Nat) (a_inEnd : Nat) (a_outScript : Nat) (a_outEnd : Nat) (i_txs : Int32) (i_end : Int32) (i_at : Int32) (i_ins : Int32) (i_outs : Int32) (n_raw : Nat) (g_raw : Nat → Int32) (g_inScript : Nat → Int32) (g_inEnd : Nat → Int32) (g_outScript : Nat → Int32) (g_outEnd : Nat → Int32) (k : Option (Int32)) : Prop :=
  ∀ (res : Int32), k  = some res → ∀ (H : Heap) (locs : List Loc) (ls : Array Slot), va_P D classes [(o, .inr (4, [.ref a_raw, .int i_txs, v_a_txAt, v_a_firstIn, v_a_firstOut, v_a_inAt, .ref a_inScript, .ref a_inEnd, v_a_outAt, .ref a_outScript, .ref a_outEnd, .int i_end, .int i_at, .int i_ins, .int i_outs])), (a_raw, .inl (cy 0, n_raw, .inl g_raw)), (a_inScript, .inl (cy 1, 73, .inl g_inScript)), (a_inEnd, .inl (cy 1, 73, .inl g_inEnd)), (a_outScript, .inl (cy 1, 333, .inl g_outScript)), (a_outEnd, .inl (cy 1, 333, .inl g_outEnd))] H → va_D A [(o, .inr (4, [.ref a_raw, .int i_txs, v_a_txAt, v_a_firstIn, v_a_firstOut, v_a_inAt, .ref a_inScript, .ref a_inEnd, v_a_outAt, .ref a_outScript, .ref a_outEnd, .int i_end, .int i_at, .int i_ins, .int i_outs])), (a_raw, .inl (cy 0, n_raw, .inl g_raw)), (a_inScript, .inl (cy 1, 73, .inl g_inScript)), (a_inEnd, .inl (cy 1, 73, .inl g_inEnd)), (a_outScript, .inl (cy 1, 333, .inl g_outScript)), (a_outEnd, .inl (cy 1, 333, .inl g_outEnd))] → va_S A s.heap H locs → lv_has ls 3 [(0, .ref o)] → W p l e rm_La_scriptsAreSound s m args below meth c H locs 0 0 (MQ below (q_La_scriptsAreSound D cy A o v_a_txAt v_a_firstIn v_a_firstOut v_a_inAt v_a_outAt a_raw a_inScript a_inEnd a_outScript a_outEnd i_txs i_end i_at i_ins i_outs n_raw g_raw g_inScript g_inEnd g_outScript g_outEnd res) args s 0 0 A) (F0 m 0 ls [])
theorem hdc_28 : ({ cls := "CoinKeeper$Layout", name := "sigsOf", desc := "(II)I" } : Jvm.MethodName).cls ≠ "java/lang/invoke/MethodHandle" ∧ ({ cls := "CoinKeeper$Layout", name := "sigsOf", desc := "(II)I" } : Jvm.MethodName).cls ≠ "java/lang/invoke/VarHandle" ∧ (parseMethodDescriptor ({ cls := "CoinKeeper$Layout", name := "sigsOf", desc := "(II)I" } : Jvm.MethodName).desc).map (fun d => d.parameters.length) = some 2 := by decide +kernel
set_option maxHeartbeats 8000000 in
set_option maxRecDepth 100000 in
theorem wb_La_scriptsAreSound_60 {p : Program} {l : Launch} {e : Env} {s : State} {m : MethodId} {args : Array Value} {below : List Frame} {meth : Method} {c : Code} {D : va_G} {cy : Nat → ClassId} {A : Nat → Prop} {ad : Nat → Nat} {o : Nat} {v_a_txAt : Value} {v_a_firstIn : Value} {v_a_firstOut : Value} {v_a_inAt : Value} {v_a_outAt : Value} {a_raw : Nat} {a_inScript : Nat} {a_inEnd : Nat} {a_outScript : Nat} {a_outEnd : Nat} {i_txs : Int32} {i_end : Int32} {i_at : Int32} {i_ins : Int32} {i_outs : Int32} {n_raw : Nat} {g_raw : Nat → Int32} {g_inScript : Nat → Int32} {g_inEnd : Nat → Int32} {g_outScript : Nat → Int32} {g_outEnd : Nat → Int32} {fu : Nat} {k_60 : Int32 → Int32 → Option (Int32)} (F : Fx p s m args meth c b_La_scriptsAreSound 3 "CoinKeeper$Layout" "scriptsAreSound" (some .boolean) D cy ad A) (hk_60 : I_La_scriptsAreSound_60 p l e s m args below meth c D cy A ad o v_a_txAt v_a_firstIn v_a_firstOut v_a_inAt v_a_outAt a_raw a_inScript a_inEnd a_outScript a_outEnd i_txs i_end i_at i_ins i_outs n_raw g_raw g_inScript g_inEnd g_outScript g_outEnd k_60) : I_La_scriptsAreSound_60 p l e s m args below meth c D cy A ad o v_a_txAt v_a_firstIn v_a_firstOut v_a_inAt v_a_outAt a_raw a_inScript a_inEnd a_outScript a_outEnd i_txs i_end i_at i_ins i_outs n_raw g_raw g_inScript g_inEnd g_outScript g_outEnd (xb_La_scriptsAreSound_60 fu i_txs i_end i_at i_ins i_outs n_raw g_raw g_inScript g_inEnd g_outScript g_outEnd k_60) := by
  obtain ⟨hx, hb, hr, hml, hown, hts, hlocks, hK, hA, hSt, hnm, hex⟩ := id F
  intro x1 x2 res hf H locs ls hP hD hS hl
  unfold xb_La_scriptsAreSound_60 at hf
  refine lv_iload_n hx hb d_La_scriptsAreSound_60 rfl (lv_at hl 2 rfl) ?_
  refine lv_aload_n hx hb d_La_scriptsAreSound_61 rfl (lv_at hl 0 rfl) ?_
  refine va_get (D := D) (ci := 4) (v := .int i_outs) (C := "CoinKeeper$Layout") (T := F_4) (N := 15) hx hb hts i_4 hown hK hP 0 rfl rfl 14 (by decide) (hts _ gw_299) (fun _ h9 => h9) rfl d_La_scriptsAreSound_62 ?_
  refine lv_icmp_ge (tgt := 114) hx hb d_La_scriptsAreSound_65 (by decide) (fun cx => ?_) (fun cx => ?_)
  · have hf := ifp cx hf
    refine lv_iload_n hx hb d_La_scriptsAreSound_114 rfl (lv_at hl 1 rfl) ?_
    refine lv_bipush (v := 40) hx hb d_La_scriptsAreSound_115 (by decide) ?_
    refine lv_icmp_gt (tgt := 124) hx hb d_La_scriptsAreSound_117 (by decide) (fun cx => ?_) (fun cx => ?_)
    · have hf := ifp cx hf
      refine lv_iconst (v := 0) hx hb d_La_scriptsAreSound_124 (by decide) ?_
      obtain rfl := Option.some.inj hf
      exact q_rz hx hb hr hlocks hK hP hD hS (isb_n (v := 0) (by decide)) d_La_scriptsAreSound_125
    · have hf := ifn cx hf
      refine lv_iconst (v := 1) hx hb d_La_scriptsAreSound_120 (by decide) ?_
      refine lv_goto (tgt := 125) hx hb d_La_scriptsAreSound_121 (by decide) ?_
      obtain rfl := Option.some.inj hf
      exact q_rz hx hb hr hlocks hK hP hD hS (isb_n (v := 1) (by decide)) d_La_scriptsAreSound_125
  · have hf := ifn cx hf
    refine lv_aload_n hx hb d_La_scriptsAreSound_68 rfl (lv_at hl 0 rfl) ?_
    refine va_get (D := D) (ci := 4) (v := .ref a_outEnd) (C := "CoinKeeper$Layout") (T := F_4) (N := 15) hx hb hts i_4 hown hK hP 0 rfl rfl 10 (by decide) (hts _ gw_294) (fun _ h9 => h9) rfl d_La_scriptsAreSound_69 ?_
    refine lv_iload_n hx hb d_La_scriptsAreSound_72 rfl (lv_at hl 2 rfl) ?_
    obtain ⟨hg, hf⟩ := gdp hf
    refine va_iald hx hb hK hP 5 1 rfl rfl (inb_in hg) d_La_scriptsAreSound_73 ?_
    refine lv_topi (fun v1 ev => ?_)
    have hf := bn ev hf
    clear ev
    refine lv_aload_n hx hb d_La_scriptsAreSound_74 rfl (lv_at hl 0 rfl) ?_
    refine va_get (D := D) (ci := 4) (v := .ref a_outScript) (C := "CoinKeeper$Layout") (T := F_4) (N := 15) hx hb hts i_4 hown hK hP 0 rfl rfl 9 (by decide) (hts _ gw_292) (fun _ h9 => h9) rfl d_La_scriptsAreSound_75 ?_
    refine lv_iload_n hx hb d_La_scriptsAreSound_78 rfl (lv_at hl 2 rfl) ?_
    obtain ⟨hg, hf⟩ := gdp hf
    refine va_iald hx hb hK hP 4 1 rfl rfl (inb_in hg) d_La_scriptsAreSound_79 ?_
    refine lv_topi (fun v2 ev => ?_)
    have hf := bn ev hf
    clear ev
    refine lv_isub hx hb d_La_scriptsAreSound_80 ?_
    refine lv_topi (fun v3 ev => ?_)
    have hf := bn ev hf
    clear ev
    refine lv_sipush (v := 1000) hx hb d_La_scriptsAreSound_81 (by decide) ?_
    refine lv_icmp_le (tgt := 89) hx hb d_La_scriptsAreSound_84 (by decide) (fun cx => ?_) (fun cx => ?_)
    · have hf := ifp cx hf
      refine lv_iload_n hx hb d_La_scriptsAreSound_89 rfl (lv_at hl 1 rfl) ?_
      refine lv_aload_n hx hb d_La_scriptsAreSound_90 rfl (lv_at hl 0 rfl) ?_
      refine lv_aload_n hx hb d_La_scriptsAreSound_91 rfl (lv_at hl 0 rfl) ?_
      refine va_get (D := D) (ci := 4) (v := .ref a_outScript) (C := "CoinKeeper$Layout") (T := F_4) (N := 15) hx hb hts i_4 hown hK hP 0 rfl rfl 9 (by decide) (hts _ gw_292) (fun _ h9 => h9) rfl d_La_scriptsAreSound_92 ?_
      refine lv_iload_n hx hb d_La_scriptsAreSound_95 rfl (lv_at hl 2 rfl) ?_
      obtain ⟨hg, hf⟩ := gdp hf
      refine va_iald hx hb hK hP 4 1 rfl rfl (inb_in hg) d_La_scriptsAreSound_96 ?_
      refine lv_topi (fun v4 ev => ?_)
      have hf := bn ev hf
      clear ev
      refine lv_aload_n hx hb d_La_scriptsAreSound_97 rfl (lv_at hl 0 rfl) ?_
      refine va_get (D := D) (ci := 4) (v := .ref a_outEnd) (C := "CoinKeeper$Layout") (T := F_4) (N := 15) hx hb hts i_4 hown hK hP 0 rfl rfl 10 (by decide) (hts _ gw_294) (fun _ h9 => h9) rfl d_La_scriptsAreSound_98 ?_
      refine lv_iload_n hx hb d_La_scriptsAreSound_101 rfl (lv_at hl 2 rfl) ?_
      obtain ⟨hg, hf⟩ := gdp hf
      refine va_iald hx hb hK hP 5 1 rfl rfl (inb_in hg) d_La_scriptsAreSound_102 ?_
      refine lv_topi (fun v5 ev => ?_)
      have hf := bn ev hf
      clear ev
      obtain ⟨v6, hc, hf⟩ := bdp1 hf
      refine q_ai (wr := [(a_inScript, .inl (cy 1, 73, .inl g_inScript)), (a_inEnd, .inl (cy 1, 73, .inl g_inEnd)), (a_outScript, .inl (cy 1, 333, .inl g_outScript)), (a_outEnd, .inl (cy 1, 333, .inl g_outEnd))]) (va_runV (C := "CoinKeeper$Layout") (As := [.int v4, .int v5]) (rest := [.int x1]) ⟨hx, hb, hml, hown, hts⟩ (c_La_sigsOf l D cy ad fu o v_a_txAt v_a_firstIn v_a_firstOut v_a_inAt (.ref a_inScript) (.ref a_inEnd) v_a_outAt (.ref a_outScript) (.ref a_outEnd) a_raw i_txs i_end i_at i_ins i_outs n_raw g_raw v4 v5 _ hc H.size) ⟨q_cB hts gw_829 gw_8 gw_826 hdc_28 ⟨by decide, by decide⟩, hts _ gw_828, hts _ gs_19⟩ (q_preV (q_pre (hP.sub [0, 1] rfl) (hD.sub [0, 1] (by decide) rfl) hK hSt hS (va_free hD hS hA [0, 1] rfl) _) (va_recv hK (hP.sub [0, 1] rfl) (ci := 4) (q0 := 0) rfl rfl)) rfl rfl hl.1 rfl (lv_room (Nat.le_of_ble_eq_true rfl)) d_La_scriptsAreSound_103 ⟨Nat.le_of_ble_eq_true rfl, Nat.le_of_ble_eq_true rfl⟩) hP hD hS hA [0, 1] [2, 3, 4, 5] rfl rfl (by decide) (by decide) (fun H locs hP hD hS => ?_)
      clear hc
      have hP : va_P D classes [(a_inScript, .inl (cy 1, 73, .inl g_inScript)), (a_inEnd, .inl (cy 1, 73, .inl g_inEnd)), (a_outScript, .inl (cy 1, 333, .inl g_outScript)), (a_outEnd, .inl (cy 1, 333, .inl g_outEnd)), (o, .inr (4, [.ref a_raw, .int i_txs, v_a_txAt, v_a_firstIn, v_a_firstOut, v_a_inAt, .ref a_inScript, .ref a_inEnd, v_a_outAt, .ref a_outScript, .ref a_outEnd, .int i_end, .int i_at, .int i_ins, .int i_outs])), (a_raw, .inl (cy 0, n_raw, .inl g_raw))] H := hP
      have hD : va_D A [(a_inScript, .inl (cy 1, 73, .inl g_inScript)), (a_inEnd, .inl (cy 1, 73, .inl g_inEnd)), (a_outScript, .inl (cy 1, 333, .inl g_outScript)), (a_outEnd, .inl (cy 1, 333, .inl g_outEnd)), (o, .inr (4, [.ref a_raw, .int i_txs, v_a_txAt, v_a_firstIn, v_a_firstOut, v_a_inAt, .ref a_inScript, .ref a_inEnd, v_a_outAt, .ref a_outScript, .ref a_outEnd, .int i_end, .int i_at, .int i_ins, .int i_outs])), (a_raw, .inl (cy 0, n_raw, .inl g_raw))] := hD
      refine lv_iadd hx hb d_La_scriptsAreSound_106 ?_
      refine lv_topi (fun v7 ev => ?_)
      have hf := bn ev hf
      clear ev
      refine lv_istore_n (lv' := [(1, .int v7), (0, .ref o), (2, .int x2)]) hx hb d_La_scriptsAreSound_107 rfl hl (by decide) rfl (fun ls hl => ?_)
      obtain ⟨v8, ev, hf⟩ := bne hf
      refine lv_iinc (v := v8) (lv' := [(2, .int v8), (1, .int v7), (0, .ref o)]) hx hb d_La_scriptsAreSound_108 hl (k := 2) rfl (by rw [ev]; rfl) (by decide) rfl (fun ls hl => ?_)
      clear ev
      refine lv_goto (tgt := 60) hx hb d_La_scriptsAreSound_111 (by decide) ?_
      exact hk_60 _ _ _ hf _ _ _ (hP.sub (ws' := [(o, .inr (4, [.ref a_raw, .int i_txs, v_a_txAt, v_a_firstIn, v_a_firstOut, v_a_inAt, .ref a_inScript, .ref a_inEnd, v_a_outAt, .ref a_outScript, .ref a_outEnd, .int i_end, .int i_at, .int i_ins, .int i_outs])), (a_raw, .inl (cy 0, n_raw, .inl g_raw)), (a_inScript, .inl (cy 1, 73, .inl g_inScript)), (a_inEnd, .inl (cy 1, 73, .inl g_inEnd)), (a_outScript, .inl (cy 1, 333, .inl g_outScript)), (a_outEnd, .inl (cy 1, 333, .inl g_outEnd))]) [4, 5, 0, 1, 2, 3] rfl) (hD.sub (ws' := [(o, .inr (4, [.ref a_raw, .int i_txs, v_a_txAt, v_a_firstIn, v_a_firstOut, v_a_inAt, .ref a_inScript, .ref a_inEnd, v_a_outAt, .ref a_outScript, .ref a_outEnd, .int i_end, .int i_at, .int i_ins, .int i_outs])), (a_raw, .inl (cy 0, n_raw, .inl g_raw)), (a_inScript, .inl (cy 1, 73, .inl g_inScript)), (a_inEnd, .inl (cy 1, 73, .inl g_inEnd)), (a_outScript, .inl (cy 1, 333, .inl g_outScript)), (a_outEnd, .inl (cy 1, 333, .inl g_outEnd))]) [4, 5, 0, 1, 2, 3] (by decide) rfl) hS (lv_sub hl [2, 1, 0] rfl)
    · have hf := ifn cx hf
      refine lv_iconst (v := 0) hx hb d_La_scriptsAreSound_87 (by decide) ?_
      obtain rfl := Option.some.inj hf
      exact q_rz hx hb hr hlocks hK hP hD hS (isb_n (v := 0) (by decide)) d_La_scriptsAreSound_88
theorem w_La_scriptsAreSound_60 {p : Program} {l : Launch} {e : Env} {s : State} {m : MethodId} {args : Array Value} {below : List Frame} {meth : Method} {c : Code} {D : va_G} {cy : Nat → ClassId} {A : Nat → Prop} {ad : Nat → Nat} {o : Nat} {v_a_txAt : Value} {v_a_firstIn : Value} {v_a_firstOut : Value} {v_a_inAt : Value} {v_a_outAt : Value} {a_raw : Nat} {a_inScript : Nat} {a_inEnd : Nat} {a_outScript : Nat} {a_outEnd : Nat} {i_txs : Int32} {i_end : Int32} {i_at : Int32} {i_ins : Int32} {i_outs : Int32} {n_raw : Nat} {g_raw : Nat → Int32} {g_inScript : Nat → Int32} {g_inEnd : Nat → Int32} {g_outScript : Nat → Int32} {g_outEnd : Nat → Int32} {fu : Nat} (F : Fx p s m args meth c b_La_scriptsAreSound 3 "CoinKeeper$Layout" "scriptsAreSound" (some .boolean) D cy ad A) : ∀ n : Nat, I_La_scriptsAreSound_60 p l e s m args below meth c D cy A ad o v_a_txAt v_a_firstIn v_a_firstOut v_a_inAt v_a_outAt a_raw a_inScript a_inEnd a_outScript a_outEnd i_txs i_end i_at i_ins i_outs n_raw g_raw g_inScript g_inEnd g_outScript g_outEnd (x_La_scriptsAreSound_60 fu i_txs i_end i_at i_ins i_outs n_raw g_raw g_inScript g_inEnd g_outScript g_outEnd n)
  | 0 => fun _ _ _ hf => nomatch (show (none : Option (Int32)) = some _ from hf)
  | n + 1 => wb_La_scriptsAreSound_60 F (w_La_scriptsAreSound_60 F n)
set_option maxHeartbeats 8000000 in
set_option maxRecDepth 100000 in
theorem wb_La_scriptsAreSound_4 {p : Program} {l : Launch} {e : Env} {s : State} {m : MethodId} {args : Array Value} {below : List Frame} {meth : Method} {c : Code} {D : va_G} {cy : Nat → ClassId} {A : Nat → Prop} {ad : Nat → Nat} {o : Nat} {v_a_txAt : Value} {v_a_firstIn : Value} {v_a_firstOut : Value} {v_a_inAt : Value} {v_a_outAt : Value} {a_raw : Nat} {a_inScript : Nat} {a_inEnd : Nat} {a_outScript : Nat} {a_outEnd : Nat} {i_txs : Int32} {i_end : Int32} {i_at : Int32} {i_ins : Int32} {i_outs : Int32} {n_raw : Nat} {g_raw : Nat → Int32} {g_inScript : Nat → Int32} {g_inEnd : Nat → Int32} {g_outScript : Nat → Int32} {g_outEnd : Nat → Int32} {fu : Nat} {k_4 : Int32 → Int32 → Option (Int32)} (F : Fx p s m args meth c b_La_scriptsAreSound 3 "CoinKeeper$Layout" "scriptsAreSound" (some .boolean) D cy ad A) (hk_4 : I_La_scriptsAreSound_4 p l e s m args below meth c D cy A ad o v_a_txAt v_a_firstIn v_a_firstOut v_a_inAt v_a_outAt a_raw a_inScript a_inEnd a_outScript a_outEnd i_txs i_end i_at i_ins i_outs n_raw g_raw g_inScript g_inEnd g_outScript g_outEnd k_4) : I_La_scriptsAreSound_4 p l e s m args below meth c D cy A ad o v_a_txAt v_a_firstIn v_a_firstOut v_a_inAt v_a_outAt a_raw a_inScript a_inEnd a_outScript a_outEnd i_txs i_end i_at i_ins i_outs n_raw g_raw g_inScript g_inEnd g_outScript g_outEnd (xb_La_scriptsAreSound_4 fu i_txs i_end i_at i_ins i_outs n_raw g_raw g_inScript g_inEnd g_outScript g_outEnd k_4) := by
  obtain ⟨hx, hb, hr, hml, hown, hts, hlocks, hK, hA, hSt, hnm, hex⟩ := id F
  intro x1 x2 res hf H locs ls hP hD hS hl
  unfold xb_La_scriptsAreSound_4 at hf
  refine lv_iload_n hx hb d_La_scriptsAreSound_4 rfl (lv_at hl 2 rfl) ?_
  refine lv_aload_n hx hb d_La_scriptsAreSound_5 rfl (lv_at hl 0 rfl) ?_
  refine va_get (D := D) (ci := 4) (v := .int i_ins) (C := "CoinKeeper$Layout") (T := F_4) (N := 15) hx hb hts i_4 hown hK hP 0 rfl rfl 13 (by decide) (hts _ gw_298) (fun _ h9 => h9) rfl d_La_scriptsAreSound_6 ?_
  refine lv_icmp_ge (tgt := 58) hx hb d_La_scriptsAreSound_9 (by decide) (fun cx => ?_) (fun cx => ?_)
  · have hf := ifp cx hf
    refine lv_iconst (v := 0) hx hb d_La_scriptsAreSound_58 (by decide) ?_
    refine lv_istore_n (lv' := [(2, .int (0 : Int32)), (0, .ref o), (1, .int x1)]) hx hb d_La_scriptsAreSound_59 rfl hl (by decide) rfl (fun ls hl => ?_)
    exact w_La_scriptsAreSound_60 F fu _ _ _ hf _ _ _ hP hD hS (lv_sub hl [1, 2, 0] rfl)
  · have hf := ifn cx hf
    refine lv_aload_n hx hb d_La_scriptsAreSound_12 rfl (lv_at hl 0 rfl) ?_
    refine va_get (D := D) (ci := 4) (v := .ref a_inEnd) (C := "CoinKeeper$Layout") (T := F_4) (N := 15) hx hb hts i_4 hown hK hP 0 rfl rfl 7 (by decide) (hts _ gw_287) (fun _ h9 => h9) rfl d_La_scriptsAreSound_13 ?_
    refine lv_iload_n hx hb d_La_scriptsAreSound_16 rfl (lv_at hl 2 rfl) ?_
    obtain ⟨hg, hf⟩ := gdp hf
    refine va_iald hx hb hK hP 3 1 rfl rfl (inb_in hg) d_La_scriptsAreSound_17 ?_
    refine lv_topi (fun v1 ev => ?_)
    have hf := bn ev hf
    clear ev
    refine lv_aload_n hx hb d_La_scriptsAreSound_18 rfl (lv_at hl 0 rfl) ?_
    refine va_get (D := D) (ci := 4) (v := .ref a_inScript) (C := "CoinKeeper$Layout") (T := F_4) (N := 15) hx hb hts i_4 hown hK hP 0 rfl rfl 6 (by decide) (hts _ gw_285) (fun _ h9 => h9) rfl d_La_scriptsAreSound_19 ?_
    refine lv_iload_n hx hb d_La_scriptsAreSound_22 rfl (lv_at hl 2 rfl) ?_
    obtain ⟨hg, hf⟩ := gdp hf
    refine va_iald hx hb hK hP 2 1 rfl rfl (inb_in hg) d_La_scriptsAreSound_23 ?_
    refine lv_topi (fun v2 ev => ?_)
    have hf := bn ev hf
    clear ev
    refine lv_isub hx hb d_La_scriptsAreSound_24 ?_
    refine lv_topi (fun v3 ev => ?_)
    have hf := bn ev hf
    clear ev
    refine lv_sipush (v := 1000) hx hb d_La_scriptsAreSound_25 (by decide) ?_
    refine lv_icmp_le (tgt := 33) hx hb d_La_scriptsAreSound_28 (by decide) (fun cx => ?_) (fun cx => ?_)
    · have hf := ifp cx hf
      refine lv_iload_n hx hb d_La_scriptsAreSound_33 rfl (lv_at hl 1 rfl) ?_
      refine lv_aload_n hx hb d_La_scriptsAreSound_34 rfl (lv_at hl 0 rfl) ?_
      refine lv_aload_n hx hb d_La_scriptsAreSound_35 rfl (lv_at hl 0 rfl) ?_
      refine va_get (D := D) (ci := 4) (v := .ref a_inScript) (C := "CoinKeeper$Layout") (T := F_4) (N := 15) hx hb hts i_4 hown hK hP 0 rfl rfl 6 (by decide) (hts _ gw_285) (fun _ h9 => h9) rfl d_La_scriptsAreSound_36 ?_
      refine lv_iload_n hx hb d_La_scriptsAreSound_39 rfl (lv_at hl 2 rfl) ?_
      obtain ⟨hg, hf⟩ := gdp hf
      refine va_iald hx hb hK hP 2 1 rfl rfl (inb_in hg) d_La_scriptsAreSound_40 ?_
      refine lv_topi (fun v4 ev => ?_)
      have hf := bn ev hf
      clear ev
      refine lv_aload_n hx hb d_La_scriptsAreSound_41 rfl (lv_at hl 0 rfl) ?_
      refine va_get (D := D) (ci := 4) (v := .ref a_inEnd) (C := "CoinKeeper$Layout") (T := F_4) (N := 15) hx hb hts i_4 hown hK hP 0 rfl rfl 7 (by decide) (hts _ gw_287) (fun _ h9 => h9) rfl d_La_scriptsAreSound_42 ?_
      refine lv_iload_n hx hb d_La_scriptsAreSound_45 rfl (lv_at hl 2 rfl) ?_
      obtain ⟨hg, hf⟩ := gdp hf
      refine va_iald hx hb hK hP 3 1 rfl rfl (inb_in hg) d_La_scriptsAreSound_46 ?_
      refine lv_topi (fun v5 ev => ?_)
      have hf := bn ev hf
      clear ev
      obtain ⟨v6, hc, hf⟩ := bdp1 hf
      refine q_ai (wr := [(a_inScript, .inl (cy 1, 73, .inl g_inScript)), (a_inEnd, .inl (cy 1, 73, .inl g_inEnd)), (a_outScript, .inl (cy 1, 333, .inl g_outScript)), (a_outEnd, .inl (cy 1, 333, .inl g_outEnd))]) (va_runV (C := "CoinKeeper$Layout") (As := [.int v4, .int v5]) (rest := [.int x1]) ⟨hx, hb, hml, hown, hts⟩ (c_La_sigsOf l D cy ad fu o v_a_txAt v_a_firstIn v_a_firstOut v_a_inAt (.ref a_inScript) (.ref a_inEnd) v_a_outAt (.ref a_outScript) (.ref a_outEnd) a_raw i_txs i_end i_at i_ins i_outs n_raw g_raw v4 v5 _ hc H.size) ⟨q_cB hts gw_829 gw_8 gw_826 hdc_28 ⟨by decide, by decide⟩, hts _ gw_828, hts _ gs_19⟩ (q_preV (q_pre (hP.sub [0, 1] rfl) (hD.sub [0, 1] (by decide) rfl) hK hSt hS (va_free hD hS hA [0, 1] rfl) _) (va_recv hK (hP.sub [0, 1] rfl) (ci := 4) (q0 := 0) rfl rfl)) rfl rfl hl.1 rfl (lv_room (Nat.le_of_ble_eq_true rfl)) d_La_scriptsAreSound_47 ⟨Nat.le_of_ble_eq_true rfl, Nat.le_of_ble_eq_true rfl⟩) hP hD hS hA [0, 1] [2, 3, 4, 5] rfl rfl (by decide) (by decide) (fun H locs hP hD hS => ?_)
      clear hc
      have hP : va_P D classes [(a_inScript, .inl (cy 1, 73, .inl g_inScript)), (a_inEnd, .inl (cy 1, 73, .inl g_inEnd)), (a_outScript, .inl (cy 1, 333, .inl g_outScript)), (a_outEnd, .inl (cy 1, 333, .inl g_outEnd)), (o, .inr (4, [.ref a_raw, .int i_txs, v_a_txAt, v_a_firstIn, v_a_firstOut, v_a_inAt, .ref a_inScript, .ref a_inEnd, v_a_outAt, .ref a_outScript, .ref a_outEnd, .int i_end, .int i_at, .int i_ins, .int i_outs])), (a_raw, .inl (cy 0, n_raw, .inl g_raw))] H := hP
      have hD : va_D A [(a_inScript, .inl (cy 1, 73, .inl g_inScript)), (a_inEnd, .inl (cy 1, 73, .inl g_inEnd)), (a_outScript, .inl (cy 1, 333, .inl g_outScript)), (a_outEnd, .inl (cy 1, 333, .inl g_outEnd)), (o, .inr (4, [.ref a_raw, .int i_txs, v_a_txAt, v_a_firstIn, v_a_firstOut, v_a_inAt, .ref a_inScript, .ref a_inEnd, v_a_outAt, .ref a_outScript, .ref a_outEnd, .int i_end, .int i_at, .int i_ins, .int i_outs])), (a_raw, .inl (cy 0, n_raw, .inl g_raw))] := hD
      refine lv_iadd hx hb d_La_scriptsAreSound_50 ?_
      refine lv_topi (fun v7 ev => ?_)
      have hf := bn ev hf
      clear ev
      refine lv_istore_n (lv' := [(1, .int v7), (0, .ref o), (2, .int x2)]) hx hb d_La_scriptsAreSound_51 rfl hl (by decide) rfl (fun ls hl => ?_)
      obtain ⟨v8, ev, hf⟩ := bne hf
      refine lv_iinc (v := v8) (lv' := [(2, .int v8), (1, .int v7), (0, .ref o)]) hx hb d_La_scriptsAreSound_52 hl (k := 2) rfl (by rw [ev]; rfl) (by decide) rfl (fun ls hl => ?_)
      clear ev
      refine lv_goto (tgt := 4) hx hb d_La_scriptsAreSound_55 (by decide) ?_
      exact hk_4 _ _ _ hf _ _ _ (hP.sub (ws' := [(o, .inr (4, [.ref a_raw, .int i_txs, v_a_txAt, v_a_firstIn, v_a_firstOut, v_a_inAt, .ref a_inScript, .ref a_inEnd, v_a_outAt, .ref a_outScript, .ref a_outEnd, .int i_end, .int i_at, .int i_ins, .int i_outs])), (a_raw, .inl (cy 0, n_raw, .inl g_raw)), (a_inScript, .inl (cy 1, 73, .inl g_inScript)), (a_inEnd, .inl (cy 1, 73, .inl g_inEnd)), (a_outScript, .inl (cy 1, 333, .inl g_outScript)), (a_outEnd, .inl (cy 1, 333, .inl g_outEnd))]) [4, 5, 0, 1, 2, 3] rfl) (hD.sub (ws' := [(o, .inr (4, [.ref a_raw, .int i_txs, v_a_txAt, v_a_firstIn, v_a_firstOut, v_a_inAt, .ref a_inScript, .ref a_inEnd, v_a_outAt, .ref a_outScript, .ref a_outEnd, .int i_end, .int i_at, .int i_ins, .int i_outs])), (a_raw, .inl (cy 0, n_raw, .inl g_raw)), (a_inScript, .inl (cy 1, 73, .inl g_inScript)), (a_inEnd, .inl (cy 1, 73, .inl g_inEnd)), (a_outScript, .inl (cy 1, 333, .inl g_outScript)), (a_outEnd, .inl (cy 1, 333, .inl g_outEnd))]) [4, 5, 0, 1, 2, 3] (by decide) rfl) hS (lv_sub hl [2, 1, 0] rfl)
    · have hf := ifn cx hf
      refine lv_iconst (v := 0) hx hb d_La_scriptsAreSound_31 (by decide) ?_
      obtain rfl := Option.some.inj hf
      exact q_rz hx hb hr hlocks hK hP hD hS (isb_n (v := 0) (by decide)) d_La_scriptsAreSound_32
theorem w_La_scriptsAreSound_4 {p : Program} {l : Launch} {e : Env} {s : State} {m : MethodId} {args : Array Value} {below : List Frame} {meth : Method} {c : Code} {D : va_G} {cy : Nat → ClassId} {A : Nat → Prop} {ad : Nat → Nat} {o : Nat} {v_a_txAt : Value} {v_a_firstIn : Value} {v_a_firstOut : Value} {v_a_inAt : Value} {v_a_outAt : Value} {a_raw : Nat} {a_inScript : Nat} {a_inEnd : Nat} {a_outScript : Nat} {a_outEnd : Nat} {i_txs : Int32} {i_end : Int32} {i_at : Int32} {i_ins : Int32} {i_outs : Int32} {n_raw : Nat} {g_raw : Nat → Int32} {g_inScript : Nat → Int32} {g_inEnd : Nat → Int32} {g_outScript : Nat → Int32} {g_outEnd : Nat → Int32} {fu : Nat} (F : Fx p s m args meth c b_La_scriptsAreSound 3 "CoinKeeper$Layout" "scriptsAreSound" (some .boolean) D cy ad A) : ∀ n : Nat, I_La_scriptsAreSound_4 p l e s m args below meth c D cy A ad o v_a_txAt v_a_firstIn v_a_firstOut v_a_inAt v_a_outAt a_raw a_inScript a_inEnd a_outScript a_outEnd i_txs i_end i_at i_ins i_outs n_raw g_raw g_inScript g_inEnd g_outScript g_outEnd (x_La_scriptsAreSound_4 fu i_txs i_end i_at i_ins i_outs n_raw g_raw g_inScript g_inEnd g_outScript g_outEnd n)
  | 0 => fun _ _ _ hf => nomatch (show (none : Option (Int32)) = some _ from hf)
  | n + 1 => wb_La_scriptsAreSound_4 F (w_La_scriptsAreSound_4 F n)
set_option maxHeartbeats 8000000 in
set_option maxRecDepth 100000 in
theorem we_La_scriptsAreSound {p : Program} {l : Launch} {e : Env} {s : State} {m : MethodId} {args : Array Value} {below : List Frame} {meth : Method} {c : Code} {D : va_G} {cy : Nat → ClassId} {A : Nat → Prop} {ad : Nat → Nat} {o : Nat} {v_a_txAt : Value} {v_a_firstIn : Value} {v_a_firstOut : Value} {v_a_inAt : Value} {v_a_outAt : Value} {a_raw : Nat} {a_inScript : Nat} {a_inEnd : Nat} {a_outScript : Nat} {a_outEnd : Nat} {i_txs : Int32} {i_end : Int32} {i_at : Int32} {i_ins : Int32} {i_outs : Int32} {n_raw : Nat} {g_raw : Nat → Int32} {g_inScript : Nat → Int32} {g_inEnd : Nat → Int32} {g_outScript : Nat → Int32} {g_outEnd : Nat → Int32} {fu : Nat} (F : Fx p s m args meth c b_La_scriptsAreSound 3 "CoinKeeper$Layout" "scriptsAreSound" (some .boolean) D cy ad A) : I_La_scriptsAreSound_e p l e s m args below meth c D cy A ad o v_a_txAt v_a_firstIn v_a_firstOut v_a_inAt v_a_outAt a_raw a_inScript a_inEnd a_outScript a_outEnd i_txs i_end i_at i_ins i_outs n_raw g_raw g_inScript g_inEnd g_outScript g_outEnd (x_La_scriptsAreSound fu i_txs i_end i_at i_ins i_outs n_raw g_raw g_inScript g_inEnd g_outScript g_outEnd) := by
  obtain ⟨hx, hb, hr, hml, hown, hts, hlocks, hK, hA, hSt, hnm, hex⟩ := id F
  intro  res hf H locs ls hP hD hS hl
  unfold x_La_scriptsAreSound at hf
  refine lv_iconst (v := 0) hx hb d_La_scriptsAreSound_0 (by decide) ?_
  refine lv_istore_n (lv' := [(1, .int (0 : Int32)), (0, .ref o)]) hx hb d_La_scriptsAreSound_1 rfl hl (by decide) rfl (fun ls hl => ?_)
  refine lv_iconst (v := 0) hx hb d_La_scriptsAreSound_2 (by decide) ?_
  refine lv_istore_n (lv' := [(2, .int (0 : Int32)), (1, .int (0 : Int32)), (0, .ref o)]) hx hb d_La_scriptsAreSound_3 rfl hl (by decide) rfl (fun ls hl => ?_)
  exact w_La_scriptsAreSound_4 F fu _ _ _ hf _ _ _ hP hD hS (lv_sub hl [2, 1, 0] rfl)
theorem c_La_scriptsAreSound (l : Launch) (D : va_G) (cy : Nat → ClassId) (ad : Nat → Nat) (fu : Nat) (o : Nat) (v_a_txAt : Value) (v_a_firstIn : Value) (v_a_firstOut : Value) (v_a_inAt : Value) (v_a_outAt : Value) (a_raw : Nat) (a_inScript : Nat) (a_inEnd : Nat) (a_outScript : Nat) (a_outEnd : Nat) (i_txs : Int32) (i_end : Int32) (i_at : Int32) (i_ins : Int32) (i_outs : Int32) (n_raw : Nat) (g_raw : Nat → Int32) (g_inScript : Nat → Int32) (g_inEnd : Nat → Int32) (g_outScript : Nat → Int32) (g_outEnd : Nat → Int32) (res : Int32) (hf : x_La_scriptsAreSound fu i_txs i_end i_at i_ins i_outs n_raw g_raw g_inScript g_inEnd g_outScript g_outEnd = some res) (sz : Nat) : Met l ({ cls := "CoinKeeper$Layout", name := "scriptsAreSound", desc := "()Z" } : Jvm.MethodName) (.code ({ cls := "CoinKeeper$Layout", name := "scriptsAreSound", desc := "()Z" } : Jvm.MethodName) b_La_scriptsAreSound 3 (some .boolean) :: gw) rm_La_scriptsAreSound (va_Pc [.ref o] (Pr D cy ad [(o, .inr (4, [.ref a_raw, .int i_txs, v_a_txAt, v_a_firstIn, v_a_firstOut, v_a_inAt, .ref a_inScript, .ref a_inEnd, v_a_outAt, .ref a_outScript, .ref a_outEnd, .int i_end, .int i_at, .int i_ins, .int i_outs])), (a_raw, .inl (cy 0, n_raw, .inl g_raw)), (a_inScript, .inl (cy 1, 73, .inl g_inScript)), (a_inEnd, .inl (cy 1, 73, .inl g_inEnd)), (a_outScript, .inl (cy 1, 333, .inl g_outScript)), (a_outEnd, .inl (cy 1, 333, .inl g_outEnd))] sz)) (q_La_scriptsAreSound D cy (va_A [(o, .inr (4, [.ref a_raw, .int i_txs, v_a_txAt, v_a_firstIn, v_a_firstOut, v_a_inAt, .ref a_inScript, .ref a_inEnd, v_a_outAt, .ref a_outScript, .ref a_outEnd, .int i_end, .int i_at, .int i_ins, .int i_outs])), (a_raw, .inl (cy 0, n_raw, .inl g_raw)), (a_inScript, .inl (cy 1, 73, .inl g_inScript)), (a_inEnd, .inl (cy 1, 73, .inl g_inEnd)), (a_outScript, .inl (cy 1, 333, .inl g_outScript)), (a_outEnd, .inl (cy 1, 333, .inl g_outEnd))] sz) o v_a_txAt v_a_firstIn v_a_firstOut v_a_inAt v_a_outAt a_raw a_inScript a_inEnd a_outScript a_outEnd i_txs i_end i_at i_ins i_outs n_raw g_raw g_inScript g_inEnd g_outScript g_outEnd res) 0 0 (va_A [(o, .inr (4, [.ref a_raw, .int i_txs, v_a_txAt, v_a_firstIn, v_a_firstOut, v_a_inAt, .ref a_inScript, .ref a_inEnd, v_a_outAt, .ref a_outScript, .ref a_outEnd, .int i_end, .int i_at, .int i_ins, .int i_outs])), (a_raw, .inl (cy 0, n_raw, .inl g_raw)), (a_inScript, .inl (cy 1, 73, .inl g_inScript)), (a_inEnd, .inl (cy 1, 73, .inl g_inEnd)), (a_outScript, .inl (cy 1, 333, .inl g_outScript)), (a_outEnd, .inl (cy 1, 333, .inl g_outEnd))] sz) :=
  q_met (Qc := fun A => q_La_scriptsAreSound D cy A o v_a_txAt v_a_firstIn v_a_firstOut v_a_inAt v_a_outAt a_raw a_inScript a_inEnd a_outScript a_outEnd i_txs i_end i_at i_ins i_outs n_raw g_raw g_inScript g_inEnd g_outScript g_outEnd res) (by decide) rfl rfl (Nat.le_of_ble_eq_true rfl) (fun p e s m below meth c ls F hP hD hS hl => we_La_scriptsAreSound (fu := fu) F  res hf _ _ _ hP hD hS hl) sz
abbrev b_La_value : ByteArray := prog_5_method_17_code
theorem d_La_value_0 : decode b_La_value 0 = .ok (.aload_n 0, 1) := by decide +kernel
theorem d_La_value_1 : decode b_La_value 1 = .ok (.getfield 39, 3) := by decide +kernel
theorem d_La_value_4 : decode b_La_value 4 = .ok (.aload_n 0, 1) := by decide +kernel
theorem d_La_value_5 : decode b_La_value 5 = .ok (.getfield 30, 3) := by decide +kernel
theorem d_La_value_8 : decode b_La_value 8 = .ok (.iload_n 1, 1) := by decide +kernel
theorem d_La_value_9 : decode b_La_value 9 = .ok (.iaload, 1) := by decide +kernel
theorem d_La_value_10 : decode b_La_value 10 = .ok (.invokestatic 128, 3) := by decide +kernel
theorem d_La_value_13 : decode b_La_value 13 = .ok (.i2l, 1) := by decide +kernel
theorem d_La_value_14 : decode b_La_value 14 = .ok (.ldc2_w 132, 3) := by decide +kernel
theorem d_La_value_17 : decode b_La_value 17 = .ok (.land, 1) := by decide +kernel
theorem d_La_value_18 : decode b_La_value 18 = .ok (.aload_n 0, 1) := by decide +kernel
theorem d_La_value_19 : decode b_La_value 19 = .ok (.getfield 39, 3) := by decide +kernel
theorem d_La_value_22 : decode b_La_value 22 = .ok (.aload_n 0, 1) := by decide +kernel
theorem d_La_value_23 : decode b_La_value 23 = .ok (.getfield 30, 3) := by decide +kernel
theorem d_La_value_26 : decode b_La_value 26 = .ok (.iload_n 1, 1) := by decide +kernel
theorem d_La_value_27 : decode b_La_value 27 = .ok (.iaload, 1) := by decide +kernel
theorem d_La_value_28 : decode b_La_value 28 = .ok (.iconst 4, 1) := by decide +kernel
theorem d_La_value_29 : decode b_La_value 29 = .ok (.iadd, 1) := by decide +kernel
theorem d_La_value_30 : decode b_La_value 30 = .ok (.invokestatic 128, 3) := by decide +kernel
theorem d_La_value_33 : decode b_La_value 33 = .ok (.i2l, 1) := by decide +kernel
theorem d_La_value_34 : decode b_La_value 34 = .ok (.bipush 32, 2) := by decide +kernel
theorem d_La_value_36 : decode b_La_value 36 = .ok (.lshl, 1) := by decide +kernel
theorem d_La_value_37 : decode b_La_value 37 = .ok (.lor, 1) := by decide +kernel
theorem d_La_value_38 : decode b_La_value 38 = .ok (.lreturn, 1) := by decide +kernel
abbrev rm_La_value : Room := { frames := 1, cells := 0, slots := 0, locals := 21 }
abbrev q_La_value (D : va_G) (cy : Nat → ClassId) (A : Nat → Prop) (o : Nat) (v_a_txAt : Value) (v_a_firstIn : Value) (v_a_firstOut : Value) (v_a_inAt : Value) (v_a_inScript : Value) (v_a_inEnd : Value) (v_a_outScript : Value) (v_a_outEnd : Value) (a_raw : Nat) (a_outAt : Nat) (i_txs : Int32) (i_end : Int32) (i_at : Int32) (i_ins : Int32) (i_outs : Int32) (n_raw : Nat) (g_raw : Nat → Int32) (g_outAt : Nat → Int32) (res : Int64) : Array Value → State → Outcome → State → Prop := va_Ql (fun r' (_ : Unit) => r' = res) (fun _ t => Po D cy A [(o, .inr (4, [.ref a_raw, .int i_txs, v_a_txAt, v_a_firstIn, v_a_firstOut, v_a_inAt, v_a_inScript, v_a_inEnd, .ref a_outAt, v_a_outScript, v_a_outEnd, .int i_end, .int i_at, .int i_ins, .int i_outs])), (a_raw, .inl (cy 0, n_raw, .inl g_raw)), (a_outAt, .inl (cy 1, 333, .inl g_outAt))] t) A
def I_La_value_e (p : Program) (l : Launch) (e : Env) (s : State) (m : MethodId) (args : Array Value) (below : List Frame) (meth : Method) (c : Code) (D : va_G) (cy : Nat → ClassId) (A : Nat → Prop) (ad : Nat → Nat) (o : Nat) (v_a_txAt : Value) (v_a_firstIn : Value) (v_a_firstOut : Value) (v_a_inAt : Value) (v_a_inScript : Value) (v_a_inEnd : Value) (v_a_outScript : Value) (v_a_outEnd : Value) (a_raw : Nat) (a_outAt : Nat) (i_txs : Int32) (i_end : Int32) (i_at : Int32) (i_ins : Int32) (i_outs : Int32) (n_raw : Nat) (g_raw : Nat → Int32) (g_outAt : Nat → Int32) (k : Int32 → Option (Int64)) : Prop :=
  ∀ (a1 : Int32) (res : Int64), k a1 = some res → ∀ (H : Heap) (locs : List Loc) (ls : Array Slot), va_P D classes [(o, .inr (4, [.ref a_raw, .int i_txs, v_a_txAt, v_a_firstIn, v_a_firstOut, v_a_inAt, v_a_inScript, v_a_inEnd, .ref a_outAt, v_a_outScript, v_a_outEnd, .int i_end, .int i_at, .int i_ins, .int i_outs])), (a_raw, .inl (cy 0, n_raw, .inl g_raw)), (a_outAt, .inl (cy 1, 333, .inl g_outAt))] H → va_D A [(o, .inr (4, [.ref a_raw, .int i_txs, v_a_txAt, v_a_firstIn, v_a_firstOut, v_a_inAt, v_a_inScript, v_a_inEnd, .ref a_outAt, v_a_outScript, v_a_outEnd, .int i_end, .int i_at, .int i_ins, .int i_outs])), (a_raw, .inl (cy 0, n_raw, .inl g_raw)), (a_outAt, .inl (cy 1, 333, .inl g_outAt))] → va_S A s.heap H locs → lv_has ls 2 [(0, .ref o), (1, .int a1)] → W p l e rm_La_value s m args below meth c H locs 0 0 (MQ below (q_La_value D cy A o v_a_txAt v_a_firstIn v_a_firstOut v_a_inAt v_a_inScript v_a_inEnd v_a_outScript v_a_outEnd a_raw a_outAt i_txs i_end i_at i_ins i_outs n_raw g_raw g_outAt res) args s 0 0 A) (F0 m 0 ls [])
theorem hdc_29 : ({ cls := "CoinKeeper", name := "word", desc := "([BI)I" } : Jvm.MethodName).cls ≠ "java/lang/invoke/MethodHandle" ∧ ({ cls := "CoinKeeper", name := "word", desc := "([BI)I" } : Jvm.MethodName).cls ≠ "java/lang/invoke/VarHandle" ∧ (parseMethodDescriptor ({ cls := "CoinKeeper", name := "word", desc := "([BI)I" } : Jvm.MethodName).desc).map (fun d => d.parameters.length) = some 2 := by decide +kernel
set_option maxHeartbeats 8000000 in
set_option maxRecDepth 100000 in
theorem we_La_value {p : Program} {l : Launch} {e : Env} {s : State} {m : MethodId} {args : Array Value} {below : List Frame} {meth : Method} {c : Code} {D : va_G} {cy : Nat → ClassId} {A : Nat → Prop} {ad : Nat → Nat} {o : Nat} {v_a_txAt : Value} {v_a_firstIn : Value} {v_a_firstOut : Value} {v_a_inAt : Value} {v_a_inScript : Value} {v_a_inEnd : Value} {v_a_outScript : Value} {v_a_outEnd : Value} {a_raw : Nat} {a_outAt : Nat} {i_txs : Int32} {i_end : Int32} {i_at : Int32} {i_ins : Int32} {i_outs : Int32} {n_raw : Nat} {g_raw : Nat → Int32} {g_outAt : Nat → Int32} {fu : Nat} (F : Fx p s m args meth c b_La_value 2 "CoinKeeper$Layout" "value" (some .long) D cy ad A) : I_La_value_e p l e s m args below meth c D cy A ad o v_a_txAt v_a_firstIn v_a_firstOut v_a_inAt v_a_inScript v_a_inEnd v_a_outScript v_a_outEnd a_raw a_outAt i_txs i_end i_at i_ins i_outs n_raw g_raw g_outAt (x_La_value fu i_txs i_end i_at i_ins i_outs n_raw g_raw g_outAt) := by
  obtain ⟨hx, hb, hr, hml, hown, hts, hlocks, hK, hA, hSt, hnm, hex⟩ := id F
  intro a1 res hf H locs ls hP hD hS hl
  unfold x_La_value at hf
  refine lv_aload_n hx hb d_La_value_0 rfl (lv_at hl 0 rfl) ?_
  refine va_get (D := D) (ci := 4) (v := .ref a_raw) (C := "CoinKeeper$Layout") (T := F_4) (N := 15) hx hb hts i_4 hown hK hP 0 rfl rfl 0 (by decide) (hts _ gw_269) (fun _ h9 => h9) rfl d_La_value_1 ?_
  refine lv_aload_n hx hb d_La_value_4 rfl (lv_at hl 0 rfl) ?_
  refine va_get (D := D) (ci := 4) (v := .ref a_outAt) (C := "CoinKeeper$Layout") (T := F_4) (N := 15) hx hb hts i_4 hown hK hP 0 rfl rfl 8 (by decide) (hts _ gw_290) (fun _ h9 => h9) rfl d_La_value_5 ?_
  refine lv_iload_n hx hb d_La_value_8 rfl (lv_at hl 1 rfl) ?_
  obtain ⟨hg, hf⟩ := gdp hf
  refine va_iald hx hb hK hP 2 1 rfl rfl (inb_in hg) d_La_value_9 ?_
  refine lv_topi (fun v1 ev => ?_)
  have hf := bn ev hf
  clear ev
  obtain ⟨v2, hc, hf⟩ := bdp1 hf
  refine q_ai (wr := [(o, .inr (4, [.ref a_raw, .int i_txs, v_a_txAt, v_a_firstIn, v_a_firstOut, v_a_inAt, v_a_inScript, v_a_inEnd, .ref a_outAt, v_a_outScript, v_a_outEnd, .int i_end, .int i_at, .int i_ins, .int i_outs])), (a_outAt, .inl (cy 1, 333, .inl g_outAt))]) (va_runSN (As := [.ref a_raw, .int v1]) (rest := []) ⟨hx, hb, hml, hown, hts⟩ (c_K_word l D cy ad fu a_raw n_raw g_raw v1 _ hc H.size) ⟨q_cN hts hSt.2.1 gw_383 gw_1 (List.mem_of_getElem? (i := 16) rfl) hdc_29 ⟨by decide, by decide⟩, hts _ gw_382, trivial⟩ (q_pre (hP.sub [1] rfl) (hD.sub [1] (by decide) rfl) hK hSt hS (va_free hD hS hA [1] rfl) _) rfl rfl hl.1 rfl (lv_room (Nat.le_of_ble_eq_true rfl)) d_La_value_10 ⟨Nat.le_of_ble_eq_true rfl, Nat.le_of_ble_eq_true rfl⟩) hP hD hS hA [1] [0, 2] rfl rfl (by decide) (by decide) (fun H locs hP hD hS => ?_)
  clear hc
  have hP : va_P D classes [(o, .inr (4, [.ref a_raw, .int i_txs, v_a_txAt, v_a_firstIn, v_a_firstOut, v_a_inAt, v_a_inScript, v_a_inEnd, .ref a_outAt, v_a_outScript, v_a_outEnd, .int i_end, .int i_at, .int i_ins, .int i_outs])), (a_outAt, .inl (cy 1, 333, .inl g_outAt)), (a_raw, .inl (cy 0, n_raw, .inl g_raw))] H := hP
  have hD : va_D A [(o, .inr (4, [.ref a_raw, .int i_txs, v_a_txAt, v_a_firstIn, v_a_firstOut, v_a_inAt, v_a_inScript, v_a_inEnd, .ref a_outAt, v_a_outScript, v_a_outEnd, .int i_end, .int i_at, .int i_ins, .int i_outs])), (a_outAt, .inl (cy 1, 333, .inl g_outAt)), (a_raw, .inl (cy 0, n_raw, .inl g_raw))] := hD
  refine lv_i2l hx hb d_La_value_13 rfl ?_
  refine lv_topl (fun v3 ev => ?_)
  have hf := bn ev hf
  clear ev
  refine lv_ldc2 (v := 4294967295) hx hb hown (hts _ gw_803) d_La_value_14 ?_
  refine lv_land hx hb d_La_value_17 ?_
  refine lv_topl (fun v4 ev => ?_)
  have hf := bn ev hf
  clear ev
  refine lv_aload_n hx hb d_La_value_18 rfl (lv_at hl 0 rfl) ?_
  refine va_get (D := D) (ci := 4) (v := .ref a_raw) (C := "CoinKeeper$Layout") (T := F_4) (N := 15) hx hb hts i_4 hown hK hP 0 rfl rfl 0 (by decide) (hts _ gw_269) (fun _ h9 => h9) rfl d_La_value_19 ?_
  refine lv_aload_n hx hb d_La_value_22 rfl (lv_at hl 0 rfl) ?_
  refine va_get (D := D) (ci := 4) (v := .ref a_outAt) (C := "CoinKeeper$Layout") (T := F_4) (N := 15) hx hb hts i_4 hown hK hP 0 rfl rfl 8 (by decide) (hts _ gw_290) (fun _ h9 => h9) rfl d_La_value_23 ?_
  refine lv_iload_n hx hb d_La_value_26 rfl (lv_at hl 1 rfl) ?_
  obtain ⟨hg, hf⟩ := gdp hf
  refine va_iald hx hb hK hP 1 1 rfl rfl (inb_in hg) d_La_value_27 ?_
  refine lv_topi (fun v5 ev => ?_)
  have hf := bn ev hf
  clear ev
  refine lv_iconst (v := 4) hx hb d_La_value_28 (by decide) ?_
  refine lv_iadd hx hb d_La_value_29 ?_
  refine lv_topi (fun v6 ev => ?_)
  have hf := bn ev hf
  clear ev
  obtain ⟨v7, hc, hf⟩ := bdp1 hf
  refine q_ai (wr := [(o, .inr (4, [.ref a_raw, .int i_txs, v_a_txAt, v_a_firstIn, v_a_firstOut, v_a_inAt, v_a_inScript, v_a_inEnd, .ref a_outAt, v_a_outScript, v_a_outEnd, .int i_end, .int i_at, .int i_ins, .int i_outs])), (a_outAt, .inl (cy 1, 333, .inl g_outAt))]) (va_runSN (As := [.ref a_raw, .int v6]) (rest := [.long v4]) ⟨hx, hb, hml, hown, hts⟩ (c_K_word l D cy ad fu a_raw n_raw g_raw v6 _ hc H.size) ⟨q_cN hts hSt.2.1 gw_383 gw_1 (List.mem_of_getElem? (i := 16) rfl) hdc_29 ⟨by decide, by decide⟩, hts _ gw_382, trivial⟩ (q_pre (hP.sub [2] rfl) (hD.sub [2] (by decide) rfl) hK hSt hS (va_free hD hS hA [2] rfl) _) rfl rfl hl.1 rfl (lv_room (Nat.le_of_ble_eq_true rfl)) d_La_value_30 ⟨Nat.le_of_ble_eq_true rfl, Nat.le_of_ble_eq_true rfl⟩) hP hD hS hA [2] [0, 1] rfl rfl (by decide) (by decide) (fun H locs hP hD hS => ?_)
  clear hc
  have hP : va_P D classes [(o, .inr (4, [.ref a_raw, .int i_txs, v_a_txAt, v_a_firstIn, v_a_firstOut, v_a_inAt, v_a_inScript, v_a_inEnd, .ref a_outAt, v_a_outScript, v_a_outEnd, .int i_end, .int i_at, .int i_ins, .int i_outs])), (a_outAt, .inl (cy 1, 333, .inl g_outAt)), (a_raw, .inl (cy 0, n_raw, .inl g_raw))] H := hP
  have hD : va_D A [(o, .inr (4, [.ref a_raw, .int i_txs, v_a_txAt, v_a_firstIn, v_a_firstOut, v_a_inAt, v_a_inScript, v_a_inEnd, .ref a_outAt, v_a_outScript, v_a_outEnd, .int i_end, .int i_at, .int i_ins, .int i_outs])), (a_outAt, .inl (cy 1, 333, .inl g_outAt)), (a_raw, .inl (cy 0, n_raw, .inl g_raw))] := hD
  refine lv_i2l hx hb d_La_value_33 rfl ?_
  refine lv_topl (fun v8 ev => ?_)
  have hf := bn ev hf
  clear ev
  refine lv_bipush (v := 32) hx hb d_La_value_34 (by decide) ?_
  refine lv_lshl hx hb d_La_value_36 rfl ?_
  refine lv_lor hx hb d_La_value_37 ?_
  refine lv_topl (fun v9 ev => ?_)
  have hf := bn ev hf
  clear ev
  obtain rfl := Option.some.inj hf
  exact q_rl hx hb hr hlocks hK (hP.sub [0, 2, 1] rfl) (hD.sub [0, 2, 1] (by decide) rfl) hS d_La_value_38
theorem c_La_value (l : Launch) (D : va_G) (cy : Nat → ClassId) (ad : Nat → Nat) (fu : Nat) (o : Nat) (v_a_txAt : Value) (v_a_firstIn : Value) (v_a_firstOut : Value) (v_a_inAt : Value) (v_a_inScript : Value) (v_a_inEnd : Value) (v_a_outScript : Value) (v_a_outEnd : Value) (a_raw : Nat) (a_outAt : Nat) (i_txs : Int32) (i_end : Int32) (i_at : Int32) (i_ins : Int32) (i_outs : Int32) (n_raw : Nat) (g_raw : Nat → Int32) (g_outAt : Nat → Int32) (a1 : Int32) (res : Int64) (hf : x_La_value fu i_txs i_end i_at i_ins i_outs n_raw g_raw g_outAt a1 = some res) (sz : Nat) : Met l ({ cls := "CoinKeeper$Layout", name := "value", desc := "(I)J" } : Jvm.MethodName) (.code ({ cls := "CoinKeeper$Layout", name := "value", desc := "(I)J" } : Jvm.MethodName) b_La_value 2 (some .long) :: gw) rm_La_value (va_Pc [.ref o, .int a1] (Pr D cy ad [(o, .inr (4, [.ref a_raw, .int i_txs, v_a_txAt, v_a_firstIn, v_a_firstOut, v_a_inAt, v_a_inScript, v_a_inEnd, .ref a_outAt, v_a_outScript, v_a_outEnd, .int i_end, .int i_at, .int i_ins, .int i_outs])), (a_raw, .inl (cy 0, n_raw, .inl g_raw)), (a_outAt, .inl (cy 1, 333, .inl g_outAt))] sz)) (q_La_value D cy (va_A [(o, .inr (4, [.ref a_raw, .int i_txs, v_a_txAt, v_a_firstIn, v_a_firstOut, v_a_inAt, v_a_inScript, v_a_inEnd, .ref a_outAt, v_a_outScript, v_a_outEnd, .int i_end, .int i_at, .int i_ins, .int i_outs])), (a_raw, .inl (cy 0, n_raw, .inl g_raw)), (a_outAt, .inl (cy 1, 333, .inl g_outAt))] sz) o v_a_txAt v_a_firstIn v_a_firstOut v_a_inAt v_a_inScript v_a_inEnd v_a_outScript v_a_outEnd a_raw a_outAt i_txs i_end i_at i_ins i_outs n_raw g_raw g_outAt res) 0 0 (va_A [(o, .inr (4, [.ref a_raw, .int i_txs, v_a_txAt, v_a_firstIn, v_a_firstOut, v_a_inAt, v_a_inScript, v_a_inEnd, .ref a_outAt, v_a_outScript, v_a_outEnd, .int i_end, .int i_at, .int i_ins, .int i_outs])), (a_raw, .inl (cy 0, n_raw, .inl g_raw)), (a_outAt, .inl (cy 1, 333, .inl g_outAt))] sz) :=
  q_met (Qc := fun A => q_La_value D cy A o v_a_txAt v_a_firstIn v_a_firstOut v_a_inAt v_a_inScript v_a_inEnd v_a_outScript v_a_outEnd a_raw a_outAt i_txs i_end i_at i_ins i_outs n_raw g_raw g_outAt res) (by decide) rfl rfl (Nat.le_of_ble_eq_true rfl) (fun p e s m below meth c ls F hP hD hS hl => we_La_value (fu := fu) F a1 res hf _ _ _ hP hD hS hl) sz
abbrev b_La_amountsAreSound : ByteArray := prog_5_method_10_code
theorem d_La_amountsAreSound_0 : decode b_La_amountsAreSound 0 = .ok (.lconst 0, 1) := by decide +kernel
theorem d_La_amountsAreSound_1 : decode b_La_amountsAreSound 1 = .ok (.lstore_n 2, 1) := by decide +kernel
theorem d_La_amountsAreSound_2 : decode b_La_amountsAreSound 2 = .ok (.aload_n 0, 1) := by decide +kernel
theorem d_La_amountsAreSound_3 : decode b_La_amountsAreSound 3 = .ok (.getfield 18, 3) := by decide +kernel
theorem d_La_amountsAreSound_6 : decode b_La_amountsAreSound 6 = .ok (.iload_n 1, 1) := by decide +kernel
theorem d_La_amountsAreSound_7 : decode b_La_amountsAreSound 7 = .ok (.iaload, 1) := by decide +kernel
theorem d_La_amountsAreSound_8 : decode b_La_amountsAreSound 8 = .ok (.istore 4, 2) := by decide +kernel
theorem d_La_amountsAreSound_10 : decode b_La_amountsAreSound 10 = .ok (.iload 4, 2) := by decide +kernel
theorem d_La_amountsAreSound_12 : decode b_La_amountsAreSound 12 = .ok (.aload_n 0, 1) := by decide +kernel
theorem d_La_amountsAreSound_13 : decode b_La_amountsAreSound 13 = .ok (.getfield 18, 3) := by decide +kernel
theorem d_La_amountsAreSound_16 : decode b_La_amountsAreSound 16 = .ok (.iload_n 1, 1) := by decide +kernel
theorem d_La_amountsAreSound_17 : decode b_La_amountsAreSound 17 = .ok (.iconst 1, 1) := by decide +kernel
theorem d_La_amountsAreSound_18 : decode b_La_amountsAreSound 18 = .ok (.iadd, 1) := by decide +kernel
theorem d_La_amountsAreSound_19 : decode b_La_amountsAreSound 19 = .ok (.iaload, 1) := by decide +kernel
theorem d_La_amountsAreSound_20 : decode b_La_amountsAreSound 20 = .ok (.if_icmp .ge 51, 3) := by decide +kernel
theorem d_La_amountsAreSound_23 : decode b_La_amountsAreSound 23 = .ok (.aload_n 0, 1) := by decide +kernel
theorem d_La_amountsAreSound_24 : decode b_La_amountsAreSound 24 = .ok (.iload 4, 2) := by decide +kernel
theorem d_La_amountsAreSound_26 : decode b_La_amountsAreSound 26 = .ok (.invokevirtual 119, 3) := by decide +kernel
theorem d_La_amountsAreSound_29 : decode b_La_amountsAreSound 29 = .ok (.lstore 5, 2) := by decide +kernel
theorem d_La_amountsAreSound_31 : decode b_La_amountsAreSound 31 = .ok (.lload 5, 2) := by decide +kernel
theorem d_La_amountsAreSound_33 : decode b_La_amountsAreSound 33 = .ok (.lconst 0, 1) := by decide +kernel
theorem d_La_amountsAreSound_34 : decode b_La_amountsAreSound 34 = .ok (.lcmp, 1) := by decide +kernel
theorem d_La_amountsAreSound_35 : decode b_La_amountsAreSound 35 = .ok (.ifCond .lt 23, 3) := by decide +kernel
theorem d_La_amountsAreSound_38 : decode b_La_amountsAreSound 38 = .ok (.lload 5, 2) := by decide +kernel
theorem d_La_amountsAreSound_40 : decode b_La_amountsAreSound 40 = .ok (.ldc2_w 123, 3) := by decide +kernel
theorem d_La_amountsAreSound_43 : decode b_La_amountsAreSound 43 = .ok (.lcmp, 1) := by decide +kernel
theorem d_La_amountsAreSound_44 : decode b_La_amountsAreSound 44 = .ok (.ifCond .gt 14, 3) := by decide +kernel
theorem d_La_amountsAreSound_47 : decode b_La_amountsAreSound 47 = .ok (.lload_n 2, 1) := by decide +kernel
theorem d_La_amountsAreSound_48 : decode b_La_amountsAreSound 48 = .ok (.lload 5, 2) := by decide +kernel
theorem d_La_amountsAreSound_50 : decode b_La_amountsAreSound 50 = .ok (.ladd, 1) := by decide +kernel
theorem d_La_amountsAreSound_51 : decode b_La_amountsAreSound 51 = .ok (.ldc2_w 123, 3) := by decide +kernel
theorem d_La_amountsAreSound_54 : decode b_La_amountsAreSound 54 = .ok (.lcmp, 1) := by decide +kernel
theorem d_La_amountsAreSound_55 : decode b_La_amountsAreSound 55 = .ok (.ifCond .le 5, 3) := by decide +kernel
theorem d_La_amountsAreSound_58 : decode b_La_amountsAreSound 58 = .ok (.iconst 0, 1) := by decide +kernel
theorem d_La_amountsAreSound_59 : decode b_La_amountsAreSound 59 = .ok (.ireturn, 1) := by decide +kernel
theorem d_La_amountsAreSound_60 : decode b_La_amountsAreSound 60 = .ok (.lload_n 2, 1) := by decide +kernel
theorem d_La_amountsAreSound_61 : decode b_La_amountsAreSound 61 = .ok (.lload 5, 2) := by decide +kernel
theorem d_La_amountsAreSound_63 : decode b_La_amountsAreSound 63 = .ok (.ladd, 1) := by decide +kernel
theorem d_La_amountsAreSound_64 : decode b_La_amountsAreSound 64 = .ok (.lstore_n 2, 1) := by decide +kernel
theorem d_La_amountsAreSound_65 : decode b_La_amountsAreSound 65 = .ok (.iinc 4 1, 3) := by decide +kernel
theorem d_La_amountsAreSound_68 : decode b_La_amountsAreSound 68 = .ok (.goto (-58), 3) := by decide +kernel
theorem d_La_amountsAreSound_71 : decode b_La_amountsAreSound 71 = .ok (.aload_n 0, 1) := by decide +kernel
theorem d_La_amountsAreSound_72 : decode b_La_amountsAreSound 72 = .ok (.getfield 18, 3) := by decide +kernel
theorem d_La_amountsAreSound_75 : decode b_La_amountsAreSound 75 = .ok (.iload_n 1, 1) := by decide +kernel
theorem d_La_amountsAreSound_76 : decode b_La_amountsAreSound 76 = .ok (.iaload, 1) := by decide +kernel
theorem d_La_amountsAreSound_77 : decode b_La_amountsAreSound 77 = .ok (.aload_n 0, 1) := by decide +kernel
theorem d_La_amountsAreSound_78 : decode b_La_amountsAreSound 78 = .ok (.getfield 18, 3) := by decide +kernel
theorem d_La_amountsAreSound_81 : decode b_La_amountsAreSound 81 = .ok (.iload_n 1, 1) := by decide +kernel
theorem d_La_amountsAreSound_82 : decode b_La_amountsAreSound 82 = .ok (.iconst 1, 1) := by decide +kernel
theorem d_La_amountsAreSound_83 : decode b_La_amountsAreSound 83 = .ok (.iadd, 1) := by decide +kernel
theorem d_La_amountsAreSound_84 : decode b_La_amountsAreSound 84 = .ok (.iaload, 1) := by decide +kernel
theorem d_La_amountsAreSound_85 : decode b_La_amountsAreSound 85 = .ok (.if_icmp .ge 7, 3) := by decide +kernel
theorem d_La_amountsAreSound_88 : decode b_La_amountsAreSound 88 = .ok (.iconst 1, 1) := by decide +kernel
theorem d_La_amountsAreSound_89 : decode b_La_amountsAreSound 89 = .ok (.goto 4, 3) := by decide +kernel
theorem d_La_amountsAreSound_92 : decode b_La_amountsAreSound 92 = .ok (.iconst 0, 1) := by decide +kernel
theorem d_La_amountsAreSound_93 : decode b_La_amountsAreSound 93 = .ok (.ireturn, 1) := by decide +kernel
abbrev rm_La_amountsAreSound : Room := { frames := 2, cells := 0, slots := 0, locals := 42 }
abbrev q_La_amountsAreSound (D : va_G) (cy : Nat → ClassId) (A : Nat → Prop) (o : Nat) (v_a_txAt : Value) (v_a_firstIn : Value) (v_a_inAt : Value) (v_a_inScript : Value) (v_a_inEnd : Value) (v_a_outScript : Value) (v_a_outEnd : Value) (a_raw : Nat) (a_firstOut : Nat) (a_outAt : Nat) (i_txs : Int32) (i_end : Int32) (i_at : Int32) (i_ins : Int32) (i_outs : Int32) (n_raw : Nat) (g_raw : Nat → Int32) (g_firstOut : Nat → Int32) (g_outAt : Nat → Int32) (res : Int32) : Array Value → State → Outcome → State → Prop := va_Qi (fun r' (_ : Unit) => r' = res) (fun _ t => Po D cy A [(o, .inr (4, [.ref a_raw, .int i_txs, v_a_txAt, v_a_firstIn, .ref a_firstOut, v_a_inAt, v_a_inScript, v_a_inEnd, .ref a_outAt, v_a_outScript, v_a_outEnd, .int i_end, .int i_at, .int i_ins, .int i_outs])), (a_raw, .inl (cy 0, n_raw, .inl g_raw)), (a_firstOut, .inl (cy 1, 301, .inl g_firstOut)), (a_outAt, .inl (cy 1, 333, .inl g_outAt))] t) A
def I_La_amountsAreSound_10 (p : Program) (l : Launch) (e : Env) (s : State) (m : MethodId) (args : Array Value) (below : List Frame) (meth : Method) (c : Code) (D : va_G) (cy : Nat → ClassId) (A : Nat → Prop) (ad : Nat → Nat) (o : Nat) (v_a_txAt : Value) (v_a_firstIn : Value) (v_a_inAt : Value) (v_a_inScript : Value) (v_a_inEnd : Value) (v_a_outScript : Value) (v_a_outEnd : Value) (a_raw : Nat) (a_firstOut : Nat) (a_outAt : Nat) (i_txs : Int32) (i_end : Int32) (i_at : Int32) (i_ins : Int32) (i_outs : Int32) (n_raw : Nat) (g_raw : Nat → Int32) (g_firstOut : Nat → Int32) (g_outAt : Nat → Int32) (k : Int32 → Int64 → Int32 → Option (Int32)) : Prop :=
  ∀ (x1 : Int32) (x2 : Int64) (x4 : Int32) (res : Int32), k x1 x2 x4 = some res → ∀ (H : Heap) (locs : List Loc) (ls : Array Slot), va_P D classes [(o, .inr (4, [.ref a_raw, .int i_txs, v_a_txAt, v_a_firstIn, .ref a_firstOut, v_a_inAt, v_a_inScript, v_a_inEnd, .ref a_outAt, v_a_outScript, v_a_outEnd, .int i_end, .int i_at, .int i_ins, .int i_outs])), (a_raw, .inl (cy 0, n_raw, .inl g_raw)), (a_firstOut, .inl (cy 1, 301, .inl g_firstOut)), (a_outAt, .inl (cy 1, 333, .inl g_outAt))] H → va_D A [(o, .inr (4, [.ref a_raw, .int i_txs, v_a_txAt, v_a_firstIn, .ref a_firstOut, v_a_inAt, v_a_inScript, v_a_inEnd, .ref a_outAt, v_a_outScript, v_a_outEnd, .int i_end, .int i_at, .int i_ins, .int i_outs])), (a_raw, .inl (cy 0, n_raw, .inl g_raw)), (a_firstOut, .inl (cy 1, 301, .inl g_firstOut)), (a_outAt, .inl (cy 1, 333, .inl g_outAt))] → va_S A s.heap H locs → lv_has ls 7 [(0, .ref o), (1, .int x1), (2, .long x2), (4, .int x4)] → W p l e rm_La_amountsAreSound s m args below meth c H locs 0 0 (MQ below (q_La_amountsAreSound D cy A o v_a_txAt v_a_firstIn v_a_inAt v_a_inScript v_a_inEnd v_a_outScript v_a_outEnd a_raw a_firstOut a_outAt i_txs i_end i_at i_ins i_outs n_raw g_raw g_firstOut g_outAt res) args s 0 0 A) (F0 m 10 ls [])
def I_La_amountsAreSound_e (p : Program) (l : Launch) (e : Env) (s : State) (m : MethodId) (args : Array Value) (below : List Frame) (meth : Method) (c : Code) (D : va_G) (cy : Nat → ClassId) (A : Nat → Prop) (ad : Nat → Nat) (o : Nat) (v_a_txAt : Value) (v_a_firstIn : Value) (v_a_inAt : Value) (v_a_inScript : Value) (v_a_inEnd : Value) (v_a_outScript : Value) (v_a_outEnd : Value) (a_raw : Nat) (a_firstOut : Nat) (a_outAt : Nat) (i_txs : Int32) (i_end : Int32) (i_at : Int32) (i_ins : Int32) (i_outs : Int32) (n_raw : Nat) (g_raw : Nat → Int32) (g_firstOut : Nat → Int32) (g_outAt : Nat → Int32) (k : Int32 → Option (Int32)) : Prop :=
  ∀ (a1 : Int32) (res : Int32), k a1 = some res → ∀ (H : Heap) (locs : List Loc) (ls : Array Slot), va_P D classes [(o, .inr (4, [.ref a_raw, .int i_txs, v_a_txAt, v_a_firstIn, .ref a_firstOut, v_a_inAt, v_a_inScript, v_a_inEnd, .ref a_outAt, v_a_outScript, v_a_outEnd, .int i_end, .int i_at, .int i_ins, .int i_outs])), (a_raw, .inl (cy 0, n_raw, .inl g_raw)), (a_firstOut, .inl (cy 1, 301, .inl g_firstOut)), (a_outAt, .inl (cy 1, 333, .inl g_outAt))] H → va_D A [(o, .inr (4, [.ref a_raw, .int i_txs, v_a_txAt, v_a_firstIn, .ref a_firstOut, v_a_inAt, v_a_inScript, v_a_inEnd, .ref a_outAt, v_a_outScript, v_a_outEnd, .int i_end, .int i_at, .int i_ins, .int i_outs])), (a_raw, .inl (cy 0, n_raw, .inl g_raw)), (a_firstOut, .inl (cy 1, 301, .inl g_firstOut)), (a_outAt, .inl (cy 1, 333, .inl g_outAt))] → va_S A s.heap H locs → lv_has ls 7 [(0, .ref o), (1, .int a1)] → W p l e rm_La_amountsAreSound s m args below meth c H locs 0 0 (MQ below (q_La_amountsAreSound D cy A o v_a_txAt v_a_firstIn v_a_inAt v_a_inScript v_a_inEnd v_a_outScript v_a_outEnd a_raw a_firstOut a_outAt i_txs i_end i_at i_ins i_outs n_raw g_raw g_firstOut g_outAt res) args s 0 0 A) (F0 m 0 ls [])
theorem hdc_30 : ({ cls := "CoinKeeper$Layout", name := "value", desc := "(I)J" } : Jvm.MethodName).cls ≠ "java/lang/invoke/MethodHandle" ∧ ({ cls := "CoinKeeper$Layout", name := "value", desc := "(I)J" } : Jvm.MethodName).cls ≠ "java/lang/invoke/VarHandle" ∧ (parseMethodDescriptor ({ cls := "CoinKeeper$Layout", name := "value", desc := "(I)J" } : Jvm.MethodName).desc).map (fun d => d.parameters.length) = some 1 := by decide +kernel
set_option maxHeartbeats 8000000 in
set_option maxRecDepth 100000 in
theorem wb_La_amountsAreSound_10 {p : Program} {l : Launch} {e : Env} {s : State} {m : MethodId} {args : Array Value} {below : List Frame} {meth : Method} {c : Code} {D : va_G} {cy : Nat → ClassId} {A : Nat → Prop} {ad : Nat → Nat} {o : Nat} {v_a_txAt : Value} {v_a_firstIn : Value} {v_a_inAt : Value} {v_a_inScript : Value} {v_a_inEnd : Value} {v_a_outScript : Value} {v_a_outEnd : Value} {a_raw : Nat} {a_firstOut : Nat} {a_outAt : Nat} {i_txs : Int32} {i_end : Int32} {i_at : Int32} {i_ins : Int32} {i_outs : Int32} {n_raw : Nat} {g_raw : Nat → Int32} {g_firstOut : Nat → Int32} {g_outAt : Nat → Int32} {fu : Nat} {k_10 : Int32 → Int64 → Int32 → Option (Int32)} (F : Fx p s m args meth c b_La_amountsAreSound 7 "CoinKeeper$Layout" "amountsAreSound" (some .boolean) D cy ad A) (hk_10 : I_La_amountsAreSound_10 p l e s m args below meth c D cy A ad o v_a_txAt v_a_firstIn v_a_inAt v_a_inScript v_a_inEnd v_a_outScript v_a_outEnd a_raw a_firstOut a_outAt i_txs i_end i_at i_ins i_outs n_raw g_raw g_firstOut g_outAt k_10) : I_La_amountsAreSound_10 p l e s m args below meth c D cy A ad o v_a_txAt v_a_firstIn v_a_inAt v_a_inScript v_a_inEnd v_a_outScript v_a_outEnd a_raw a_firstOut a_outAt i_txs i_end i_at i_ins i_outs n_raw g_raw g_firstOut g_outAt (xb_La_amountsAreSound_10 fu i_txs i_end i_at i_ins i_outs n_raw g_raw g_firstOut g_outAt k_10) := by
  obtain ⟨hx, hb, hr, hml, hown, hts, hlocks, hK, hA, hSt, hnm, hex⟩ := id F
  intro x1 x2 x4 res hf H locs ls hP hD hS hl
  unfold xb_La_amountsAreSound_10 at hf
  refine lv_iload hx hb d_La_amountsAreSound_10 (lv_at hl 3 rfl) ?_
  refine lv_aload_n hx hb d_La_amountsAreSound_12 rfl (lv_at hl 0 rfl) ?_
  refine va_get (D := D) (ci := 4) (v := .ref a_firstOut) (C := "CoinKeeper$Layout") (T := F_4) (N := 15) hx hb hts i_4 hown hK hP 0 rfl rfl 4 (by decide) (hts _ gw_279) (fun _ h9 => h9) rfl d_La_amountsAreSound_13 ?_
  refine lv_iload_n hx hb d_La_amountsAreSound_16 rfl (lv_at hl 1 rfl) ?_
  refine lv_iconst (v := 1) hx hb d_La_amountsAreSound_17 (by decide) ?_
  refine lv_iadd hx hb d_La_amountsAreSound_18 ?_
  refine lv_topi (fun v1 ev => ?_)
  have hf := bn ev hf
  clear ev
  obtain ⟨hg, hf⟩ := gdp hf
  refine va_iald hx hb hK hP 2 1 rfl rfl (inb_in hg) d_La_amountsAreSound_19 ?_
  refine lv_topi (fun v2 ev => ?_)
  have hf := bn ev hf
  clear ev
  refine lv_icmp_ge (tgt := 71) hx hb d_La_amountsAreSound_20 (by decide) (fun cx => ?_) (fun cx => ?_)
  · have hf := ifp cx hf
    refine lv_aload_n hx hb d_La_amountsAreSound_71 rfl (lv_at hl 0 rfl) ?_
    refine va_get (D := D) (ci := 4) (v := .ref a_firstOut) (C := "CoinKeeper$Layout") (T := F_4) (N := 15) hx hb hts i_4 hown hK hP 0 rfl rfl 4 (by decide) (hts _ gw_279) (fun _ h9 => h9) rfl d_La_amountsAreSound_72 ?_
    refine lv_iload_n hx hb d_La_amountsAreSound_75 rfl (lv_at hl 1 rfl) ?_
    obtain ⟨hg, hf⟩ := gdp hf
    refine va_iald hx hb hK hP 2 1 rfl rfl (inb_in hg) d_La_amountsAreSound_76 ?_
    refine lv_topi (fun v3 ev => ?_)
    have hf := bn ev hf
    clear ev
    refine lv_aload_n hx hb d_La_amountsAreSound_77 rfl (lv_at hl 0 rfl) ?_
    refine va_get (D := D) (ci := 4) (v := .ref a_firstOut) (C := "CoinKeeper$Layout") (T := F_4) (N := 15) hx hb hts i_4 hown hK hP 0 rfl rfl 4 (by decide) (hts _ gw_279) (fun _ h9 => h9) rfl d_La_amountsAreSound_78 ?_
    refine lv_iload_n hx hb d_La_amountsAreSound_81 rfl (lv_at hl 1 rfl) ?_
    refine lv_iconst (v := 1) hx hb d_La_amountsAreSound_82 (by decide) ?_
    refine lv_iadd hx hb d_La_amountsAreSound_83 ?_
    refine lv_topi (fun v4 ev => ?_)
    have hf := bn ev hf
    clear ev
    obtain ⟨hg, hf⟩ := gdp hf
    refine va_iald hx hb hK hP 2 1 rfl rfl (inb_in hg) d_La_amountsAreSound_84 ?_
    refine lv_topi (fun v5 ev => ?_)
    have hf := bn ev hf
    clear ev
    refine lv_icmp_ge (tgt := 92) hx hb d_La_amountsAreSound_85 (by decide) (fun cx => ?_) (fun cx => ?_)
    · have hf := ifp cx hf
      refine lv_iconst (v := 0) hx hb d_La_amountsAreSound_92 (by decide) ?_
      obtain rfl := Option.some.inj hf
      exact q_rz hx hb hr hlocks hK hP hD hS (isb_n (v := 0) (by decide)) d_La_amountsAreSound_93
    · have hf := ifn cx hf
      refine lv_iconst (v := 1) hx hb d_La_amountsAreSound_88 (by decide) ?_
      refine lv_goto (tgt := 93) hx hb d_La_amountsAreSound_89 (by decide) ?_
      obtain rfl := Option.some.inj hf
      exact q_rz hx hb hr hlocks hK hP hD hS (isb_n (v := 1) (by decide)) d_La_amountsAreSound_93
  · have hf := ifn cx hf
    refine lv_aload_n hx hb d_La_amountsAreSound_23 rfl (lv_at hl 0 rfl) ?_
    refine lv_iload hx hb d_La_amountsAreSound_24 (lv_at hl 3 rfl) ?_
    obtain ⟨v6, hc, hf⟩ := bdp1 hf
    refine q_al (wr := [(a_firstOut, .inl (cy 1, 301, .inl g_firstOut))]) (va_runV (C := "CoinKeeper$Layout") (As := [.int x4]) (rest := []) ⟨hx, hb, hml, hown, hts⟩ (c_La_value l D cy ad fu o v_a_txAt v_a_firstIn (.ref a_firstOut) v_a_inAt v_a_inScript v_a_inEnd v_a_outScript v_a_outEnd a_raw a_outAt i_txs i_end i_at i_ins i_outs n_raw g_raw g_outAt x4 _ hc H.size) ⟨q_cB hts gw_801 gw_8 gw_798 hdc_30 ⟨by decide, by decide⟩, hts _ gw_799, hts _ gw_800⟩ (q_preV (q_pre (hP.sub [0, 1, 3] rfl) (hD.sub [0, 1, 3] (by decide) rfl) hK hSt hS (va_free hD hS hA [0, 1, 3] rfl) _) (va_recv hK (hP.sub [0, 1, 3] rfl) (ci := 4) (q0 := 0) rfl rfl)) rfl rfl hl.1 rfl (lv_room (Nat.le_of_ble_eq_true rfl)) d_La_amountsAreSound_26 ⟨Nat.le_of_ble_eq_true rfl, Nat.le_of_ble_eq_true rfl⟩) hP hD hS hA [0, 1, 3] [2] rfl rfl (by decide) (by decide) (fun H locs hP hD hS => ?_)
    clear hc
    have hP : va_P D classes [(a_firstOut, .inl (cy 1, 301, .inl g_firstOut)), (o, .inr (4, [.ref a_raw, .int i_txs, v_a_txAt, v_a_firstIn, .ref a_firstOut, v_a_inAt, v_a_inScript, v_a_inEnd, .ref a_outAt, v_a_outScript, v_a_outEnd, .int i_end, .int i_at, .int i_ins, .int i_outs])), (a_raw, .inl (cy 0, n_raw, .inl g_raw)), (a_outAt, .inl (cy 1, 333, .inl g_outAt))] H := hP
    have hD : va_D A [(a_firstOut, .inl (cy 1, 301, .inl g_firstOut)), (o, .inr (4, [.ref a_raw, .int i_txs, v_a_txAt, v_a_firstIn, .ref a_firstOut, v_a_inAt, v_a_inScript, v_a_inEnd, .ref a_outAt, v_a_outScript, v_a_outEnd, .int i_end, .int i_at, .int i_ins, .int i_outs])), (a_raw, .inl (cy 0, n_raw, .inl g_raw)), (a_outAt, .inl (cy 1, 333, .inl g_outAt))] := hD
    refine lv_lstore (lv' := [(5, .long v6), (0, .ref o), (1, .int x1), (2, .long x2), (4, .int x4)]) hx hb d_La_amountsAreSound_29 hl (by decide) rfl (fun ls hl => ?_)
    refine lv_lload hx hb d_La_amountsAreSound_31 (lv_at hl 0 rfl) ?_
    refine lv_lconst (v := 0) hx hb d_La_amountsAreSound_33 (by decide) ?_
    refine W.lcmp hx hb d_La_amountsAreSound_34 ?_
    refine lv_if_lt (tgt := 58) hx hb d_La_amountsAreSound_35 (by decide) (fun cx => ?_) (fun cx => ?_)
    · have hf := ifp cx hf
      refine lv_iconst (v := 0) hx hb d_La_amountsAreSound_58 (by decide) ?_
      obtain rfl := Option.some.inj hf
      exact q_rz hx hb hr hlocks hK (hP.sub [1, 2, 0, 3] rfl) (hD.sub [1, 2, 0, 3] (by decide) rfl) hS (isb_n (v := 0) (by decide)) d_La_amountsAreSound_59
    · have hf := ifn cx hf
      refine lv_lload hx hb d_La_amountsAreSound_38 (lv_at hl 0 rfl) ?_
      refine lv_ldc2 (v := 2100000000000000) hx hb hown (hts _ gw_804) d_La_amountsAreSound_40 ?_
      refine W.lcmp hx hb d_La_amountsAreSound_43 ?_
      refine lv_if_gt (tgt := 58) hx hb d_La_amountsAreSound_44 (by decide) (fun cx => ?_) (fun cx => ?_)
      · have hf := ifp cx hf
        refine lv_iconst (v := 0) hx hb d_La_amountsAreSound_58 (by decide) ?_
        obtain rfl := Option.some.inj hf
        exact q_rz hx hb hr hlocks hK (hP.sub [1, 2, 0, 3] rfl) (hD.sub [1, 2, 0, 3] (by decide) rfl) hS (isb_n (v := 0) (by decide)) d_La_amountsAreSound_59
      · have hf := ifn cx hf
        refine lv_lload_n hx hb d_La_amountsAreSound_47 rfl (lv_at hl 3 rfl) ?_
        refine lv_lload hx hb d_La_amountsAreSound_48 (lv_at hl 0 rfl) ?_
        refine lv_ladd hx hb d_La_amountsAreSound_50 ?_
        refine lv_topl (fun v7 ev => ?_)
        have hf := bn ev hf
        clear ev
        refine lv_ldc2 (v := 2100000000000000) hx hb hown (hts _ gw_804) d_La_amountsAreSound_51 ?_
        refine W.lcmp hx hb d_La_amountsAreSound_54 ?_
        refine lv_if_le (tgt := 60) hx hb d_La_amountsAreSound_55 (by decide) (fun cx => ?_) (fun cx => ?_)
        · have hf := ifp cx hf
          refine lv_lload_n hx hb d_La_amountsAreSound_60 rfl (lv_at hl 3 rfl) ?_
          refine lv_lload hx hb d_La_amountsAreSound_61 (lv_at hl 0 rfl) ?_
          refine lv_ladd hx hb d_La_amountsAreSound_63 ?_
          refine lv_topl (fun v8 ev => ?_)
          have hf := bn ev hf
          clear ev
          refine lv_lstore_n (lv' := [(2, .long v8), (5, .long v6), (0, .ref o), (1, .int x1), (4, .int x4)]) hx hb d_La_amountsAreSound_64 rfl hl (by decide) rfl (fun ls hl => ?_)
          obtain ⟨v9, ev, hf⟩ := bne hf
          refine lv_iinc (v := v9) (lv' := [(4, .int v9), (2, .long v8), (5, .long v6), (0, .ref o), (1, .int x1)]) hx hb d_La_amountsAreSound_65 hl (k := 4) rfl (by rw [ev]; rfl) (by decide) rfl (fun ls hl => ?_)
          clear ev
          refine lv_goto (tgt := 10) hx hb d_La_amountsAreSound_68 (by decide) ?_
          exact hk_10 _ _ _ _ hf _ _ _ (hP.sub (ws' := [(o, .inr (4, [.ref a_raw, .int i_txs, v_a_txAt, v_a_firstIn, .ref a_firstOut, v_a_inAt, v_a_inScript, v_a_inEnd, .ref a_outAt, v_a_outScript, v_a_outEnd, .int i_end, .int i_at, .int i_ins, .int i_outs])), (a_raw, .inl (cy 0, n_raw, .inl g_raw)), (a_firstOut, .inl (cy 1, 301, .inl g_firstOut)), (a_outAt, .inl (cy 1, 333, .inl g_outAt))]) [1, 2, 0, 3] rfl) (hD.sub (ws' := [(o, .inr (4, [.ref a_raw, .int i_txs, v_a_txAt, v_a_firstIn, .ref a_firstOut, v_a_inAt, v_a_inScript, v_a_inEnd, .ref a_outAt, v_a_outScript, v_a_outEnd, .int i_end, .int i_at, .int i_ins, .int i_outs])), (a_raw, .inl (cy 0, n_raw, .inl g_raw)), (a_firstOut, .inl (cy 1, 301, .inl g_firstOut)), (a_outAt, .inl (cy 1, 333, .inl g_outAt))]) [1, 2, 0, 3] (by decide) rfl) hS (lv_sub hl [3, 4, 1, 0] rfl)
        · have hf := ifn cx hf
          refine lv_iconst (v := 0) hx hb d_La_amountsAreSound_58 (by decide) ?_
          obtain rfl := Option.some.inj hf
          exact q_rz hx hb hr hlocks hK (hP.sub [1, 2, 0, 3] rfl) (hD.sub [1, 2, 0, 3] (by decide) rfl) hS (isb_n (v := 0) (by decide)) d_La_amountsAreSound_59
theorem w_La_amountsAreSound_10 {p : Program} {l : Launch} {e : Env} {s : State} {m : MethodId} {args : Array Value} {below : List Frame} {meth : Method} {c : Code} {D : va_G} {cy : Nat → ClassId} {A : Nat → Prop} {ad : Nat → Nat} {o : Nat} {v_a_txAt : Value} {v_a_firstIn : Value} {v_a_inAt : Value} {v_a_inScript : Value} {v_a_inEnd : Value} {v_a_outScript : Value} {v_a_outEnd : Value} {a_raw : Nat} {a_firstOut : Nat} {a_outAt : Nat} {i_txs : Int32} {i_end : Int32} {i_at : Int32} {i_ins : Int32} {i_outs : Int32} {n_raw : Nat} {g_raw : Nat → Int32} {g_firstOut : Nat → Int32} {g_outAt : Nat → Int32} {fu : Nat} (F : Fx p s m args meth c b_La_amountsAreSound 7 "CoinKeeper$Layout" "amountsAreSound" (some .boolean) D cy ad A) : ∀ n : Nat, I_La_amountsAreSound_10 p l e s m args below meth c D cy A ad o v_a_txAt v_a_firstIn v_a_inAt v_a_inScript v_a_inEnd v_a_outScript v_a_outEnd a_raw a_firstOut a_outAt i_txs i_end i_at i_ins i_outs n_raw g_raw g_firstOut g_outAt (x_La_amountsAreSound_10 fu i_txs i_end i_at i_ins i_outs n_raw g_raw g_firstOut g_outAt n)
  | 0 => fun _ _ _ _ hf => nomatch (show (none : Option (Int32)) = some _ from hf)
  | n + 1 => wb_La_amountsAreSound_10 F (w_La_amountsAreSound_10 F n)
set_option maxHeartbeats 8000000 in
set_option maxRecDepth 100000 in
theorem we_La_amountsAreSound {p : Program} {l : Launch} {e : Env} {s : State} {m : MethodId} {args : Array Value} {below : List Frame} {meth : Method} {c : Code} {D : va_G} {cy : Nat → ClassId} {A : Nat → Prop} {ad : Nat → Nat} {o : Nat} {v_a_txAt : Value} {v_a_firstIn : Value} {v_a_inAt : Value} {v_a_inScript : Value} {v_a_inEnd : Value} {v_a_outScript : Value} {v_a_outEnd : Value} {a_raw : Nat} {a_firstOut : Nat} {a_outAt : Nat} {i_txs : Int32} {i_end : Int32} {i_at : Int32} {i_ins : Int32} {i_outs : Int32} {n_raw : Nat} {g_raw : Nat → Int32} {g_firstOut : Nat → Int32} {g_outAt : Nat → Int32} {fu : Nat} (F : Fx p s m args meth c b_La_amountsAreSound 7 "CoinKeeper$Layout" "amountsAreSound" (some .boolean) D cy ad A) : I_La_amountsAreSound_e p l e s m args below meth c D cy A ad o v_a_txAt v_a_firstIn v_a_inAt v_a_inScript v_a_inEnd v_a_outScript v_a_outEnd a_raw a_firstOut a_outAt i_txs i_end i_at i_ins i_outs n_raw g_raw g_firstOut g_outAt (x_La_amountsAreSound fu i_txs i_end i_at i_ins i_outs n_raw g_raw g_firstOut g_outAt) := by
  obtain ⟨hx, hb, hr, hml, hown, hts, hlocks, hK, hA, hSt, hnm, hex⟩ := id F
  intro a1 res hf H locs ls hP hD hS hl
  unfold x_La_amountsAreSound at hf
  refine lv_lconst (v := 0) hx hb d_La_amountsAreSound_0 (by decide) ?_
  refine lv_lstore_n (lv' := [(2, .long (0 : Int64)), (0, .ref o), (1, .int a1)]) hx hb d_La_amountsAreSound_1 rfl hl (by decide) rfl (fun ls hl => ?_)
  refine lv_aload_n hx hb d_La_amountsAreSound_2 rfl (lv_at hl 1 rfl) ?_
  refine va_get (D := D) (ci := 4) (v := .ref a_firstOut) (C := "CoinKeeper$Layout") (T := F_4) (N := 15) hx hb hts i_4 hown hK hP 0 rfl rfl 4 (by decide) (hts _ gw_279) (fun _ h9 => h9) rfl d_La_amountsAreSound_3 ?_
  refine lv_iload_n hx hb d_La_amountsAreSound_6 rfl (lv_at hl 2 rfl) ?_
  obtain ⟨hg, hf⟩ := gdp hf
  refine va_iald hx hb hK hP 2 1 rfl rfl (inb_in hg) d_La_amountsAreSound_7 ?_
  refine lv_topi (fun v1 ev => ?_)
  have hf := bn ev hf
  clear ev
  refine lv_istore (lv' := [(4, .int v1), (2, .long (0 : Int64)), (0, .ref o), (1, .int a1)]) hx hb d_La_amountsAreSound_8 hl (by decide) rfl (fun ls hl => ?_)
  exact w_La_amountsAreSound_10 F fu _ _ _ _ hf _ _ _ hP hD hS (lv_sub hl [2, 3, 1, 0] rfl)
theorem c_La_amountsAreSound (l : Launch) (D : va_G) (cy : Nat → ClassId) (ad : Nat → Nat) (fu : Nat) (o : Nat) (v_a_txAt : Value) (v_a_firstIn : Value) (v_a_inAt : Value) (v_a_inScript : Value) (v_a_inEnd : Value) (v_a_outScript : Value) (v_a_outEnd : Value) (a_raw : Nat) (a_firstOut : Nat) (a_outAt : Nat) (i_txs : Int32) (i_end : Int32) (i_at : Int32) (i_ins : Int32) (i_outs : Int32) (n_raw : Nat) (g_raw : Nat → Int32) (g_firstOut : Nat → Int32) (g_outAt : Nat → Int32) (a1 : Int32) (res : Int32) (hf : x_La_amountsAreSound fu i_txs i_end i_at i_ins i_outs n_raw g_raw g_firstOut g_outAt a1 = some res) (sz : Nat) : Met l ({ cls := "CoinKeeper$Layout", name := "amountsAreSound", desc := "(I)Z" } : Jvm.MethodName) (.code ({ cls := "CoinKeeper$Layout", name := "amountsAreSound", desc := "(I)Z" } : Jvm.MethodName) b_La_amountsAreSound 7 (some .boolean) :: gw) rm_La_amountsAreSound (va_Pc [.ref o, .int a1] (Pr D cy ad [(o, .inr (4, [.ref a_raw, .int i_txs, v_a_txAt, v_a_firstIn, .ref a_firstOut, v_a_inAt, v_a_inScript, v_a_inEnd, .ref a_outAt, v_a_outScript, v_a_outEnd, .int i_end, .int i_at, .int i_ins, .int i_outs])), (a_raw, .inl (cy 0, n_raw, .inl g_raw)), (a_firstOut, .inl (cy 1, 301, .inl g_firstOut)), (a_outAt, .inl (cy 1, 333, .inl g_outAt))] sz)) (q_La_amountsAreSound D cy (va_A [(o, .inr (4, [.ref a_raw, .int i_txs, v_a_txAt, v_a_firstIn, .ref a_firstOut, v_a_inAt, v_a_inScript, v_a_inEnd, .ref a_outAt, v_a_outScript, v_a_outEnd, .int i_end, .int i_at, .int i_ins, .int i_outs])), (a_raw, .inl (cy 0, n_raw, .inl g_raw)), (a_firstOut, .inl (cy 1, 301, .inl g_firstOut)), (a_outAt, .inl (cy 1, 333, .inl g_outAt))] sz) o v_a_txAt v_a_firstIn v_a_inAt v_a_inScript v_a_inEnd v_a_outScript v_a_outEnd a_raw a_firstOut a_outAt i_txs i_end i_at i_ins i_outs n_raw g_raw g_firstOut g_outAt res) 0 0 (va_A [(o, .inr (4, [.ref a_raw, .int i_txs, v_a_txAt, v_a_firstIn, .ref a_firstOut, v_a_inAt, v_a_inScript, v_a_inEnd, .ref a_outAt, v_a_outScript, v_a_outEnd, .int i_end, .int i_at, .int i_ins, .int i_outs])), (a_raw, .inl (cy 0, n_raw, .inl g_raw)), (a_firstOut, .inl (cy 1, 301, .inl g_firstOut)), (a_outAt, .inl (cy 1, 333, .inl g_outAt))] sz) :=
  q_met (Qc := fun A => q_La_amountsAreSound D cy A o v_a_txAt v_a_firstIn v_a_inAt v_a_inScript v_a_inEnd v_a_outScript v_a_outEnd a_raw a_firstOut a_outAt i_txs i_end i_at i_ins i_outs n_raw g_raw g_firstOut g_outAt res) (by decide) rfl rfl (Nat.le_of_ble_eq_true rfl) (fun p e s m below meth c ls F hP hD hS hl => we_La_amountsAreSound (fu := fu) F a1 res hf _ _ _ hP hD hS hl) sz
abbrev b_La_isOfCoinbase : ByteArray := prog_5_method_12_code
theorem d_La_isOfCoinbase_0 : decode b_La_isOfCoinbase 0 = .ok (.iconst 0, 1) := by decide +kernel
theorem d_La_isOfCoinbase_1 : decode b_La_isOfCoinbase 1 = .ok (.istore_n 2, 1) := by decide +kernel
theorem d_La_isOfCoinbase_2 : decode b_La_isOfCoinbase 2 = .ok (.iload_n 2, 1) := by decide +kernel
theorem d_La_isOfCoinbase_3 : decode b_La_isOfCoinbase 3 = .ok (.bipush 32, 2) := by decide +kernel
theorem d_La_isOfCoinbase_5 : decode b_La_isOfCoinbase 5 = .ok (.if_icmp .ge 27, 3) := by decide +kernel
theorem d_La_isOfCoinbase_8 : decode b_La_isOfCoinbase 8 = .ok (.aload_n 0, 1) := by decide +kernel
theorem d_La_isOfCoinbase_9 : decode b_La_isOfCoinbase 9 = .ok (.getfield 39, 3) := by decide +kernel
theorem d_La_isOfCoinbase_12 : decode b_La_isOfCoinbase 12 = .ok (.aload_n 0, 1) := by decide +kernel
theorem d_La_isOfCoinbase_13 : decode b_La_isOfCoinbase 13 = .ok (.getfield 21, 3) := by decide +kernel
theorem d_La_isOfCoinbase_16 : decode b_La_isOfCoinbase 16 = .ok (.iload_n 1, 1) := by decide +kernel
theorem d_La_isOfCoinbase_17 : decode b_La_isOfCoinbase 17 = .ok (.iaload, 1) := by decide +kernel
theorem d_La_isOfCoinbase_18 : decode b_La_isOfCoinbase 18 = .ok (.iload_n 2, 1) := by decide +kernel
theorem d_La_isOfCoinbase_19 : decode b_La_isOfCoinbase 19 = .ok (.iadd, 1) := by decide +kernel
theorem d_La_isOfCoinbase_20 : decode b_La_isOfCoinbase 20 = .ok (.baload, 1) := by decide +kernel
theorem d_La_isOfCoinbase_21 : decode b_La_isOfCoinbase 21 = .ok (.ifCond .eq 5, 3) := by decide +kernel
theorem d_La_isOfCoinbase_24 : decode b_La_isOfCoinbase 24 = .ok (.iconst 0, 1) := by decide +kernel
theorem d_La_isOfCoinbase_25 : decode b_La_isOfCoinbase 25 = .ok (.ireturn, 1) := by decide +kernel
theorem d_La_isOfCoinbase_26 : decode b_La_isOfCoinbase 26 = .ok (.iinc 2 1, 3) := by decide +kernel
theorem d_La_isOfCoinbase_29 : decode b_La_isOfCoinbase 29 = .ok (.goto (-27), 3) := by decide +kernel
theorem d_La_isOfCoinbase_32 : decode b_La_isOfCoinbase 32 = .ok (.aload_n 0, 1) := by decide +kernel
theorem d_La_isOfCoinbase_33 : decode b_La_isOfCoinbase 33 = .ok (.getfield 39, 3) := by decide +kernel
theorem d_La_isOfCoinbase_36 : decode b_La_isOfCoinbase 36 = .ok (.aload_n 0, 1) := by decide +kernel
theorem d_La_isOfCoinbase_37 : decode b_La_isOfCoinbase 37 = .ok (.getfield 21, 3) := by decide +kernel
theorem d_La_isOfCoinbase_40 : decode b_La_isOfCoinbase 40 = .ok (.iload_n 1, 1) := by decide +kernel
theorem d_La_isOfCoinbase_41 : decode b_La_isOfCoinbase 41 = .ok (.iaload, 1) := by decide +kernel
theorem d_La_isOfCoinbase_42 : decode b_La_isOfCoinbase 42 = .ok (.bipush 32, 2) := by decide +kernel
theorem d_La_isOfCoinbase_44 : decode b_La_isOfCoinbase 44 = .ok (.iadd, 1) := by decide +kernel
theorem d_La_isOfCoinbase_45 : decode b_La_isOfCoinbase 45 = .ok (.invokestatic 128, 3) := by decide +kernel
theorem d_La_isOfCoinbase_48 : decode b_La_isOfCoinbase 48 = .ok (.iconst (-1), 1) := by decide +kernel
theorem d_La_isOfCoinbase_49 : decode b_La_isOfCoinbase 49 = .ok (.if_icmp .ne 7, 3) := by decide +kernel
theorem d_La_isOfCoinbase_52 : decode b_La_isOfCoinbase 52 = .ok (.iconst 1, 1) := by decide +kernel
theorem d_La_isOfCoinbase_53 : decode b_La_isOfCoinbase 53 = .ok (.goto 4, 3) := by decide +kernel
theorem d_La_isOfCoinbase_56 : decode b_La_isOfCoinbase 56 = .ok (.iconst 0, 1) := by decide +kernel
theorem d_La_isOfCoinbase_57 : decode b_La_isOfCoinbase 57 = .ok (.ireturn, 1) := by decide +kernel
abbrev rm_La_isOfCoinbase : Room := { frames := 1, cells := 0, slots := 0, locals := 21 }
abbrev q_La_isOfCoinbase (D : va_G) (cy : Nat → ClassId) (A : Nat → Prop) (o : Nat) (v_a_txAt : Value) (v_a_firstIn : Value) (v_a_firstOut : Value) (v_a_inScript : Value) (v_a_inEnd : Value) (v_a_outAt : Value) (v_a_outScript : Value) (v_a_outEnd : Value) (a_raw : Nat) (a_inAt : Nat) (i_txs : Int32) (i_end : Int32) (i_at : Int32) (i_ins : Int32) (i_outs : Int32) (n_raw : Nat) (g_raw : Nat → Int32) (g_inAt : Nat → Int32) (res : Int32) : Array Value → State → Outcome → State → Prop := va_Qi (fun r' (_ : Unit) => r' = res) (fun _ t => Po D cy A [(o, .inr (4, [.ref a_raw, .int i_txs, v_a_txAt, v_a_firstIn, v_a_firstOut, .ref a_inAt, v_a_inScript, v_a_inEnd, v_a_outAt, v_a_outScript, v_a_outEnd, .int i_end, .int i_at, .int i_ins, .int i_outs])), (a_raw, .inl (cy 0, n_raw, .inl g_raw)), (a_inAt, .inl (cy 1, 73, .inl g_inAt))] t) A
def I_La_isOfCoinbase_2 (p : Program) (l : Launch) (e : Env) (s : State) (m : MethodId) (args : Array Value) (below : List Frame) (meth : Method) (c : Code) (D : va_G) (cy : Nat → ClassId) (A : Nat → Prop) (ad : Nat → Nat) (o : Nat) (v_a_txAt : Value) (v_a_firstIn : Value) (v_a_firstOut : Value) (v_a_inScript : Value) (v_a_inEnd : Value) (v_a_outAt : Value) (v_a_outScript : Value) (v_a_outEnd : Value) (a_raw : Nat) (a_inAt : Nat) (i_txs : Int32) (i_end : Int32) (i_at : Int32) (i_ins : Int32) (i_outs : Int32) (n_raw : Nat) (g_raw : Nat → Int32) (g_inAt : Nat → Int32) (k : Int32 → Int32 → Option (Int32)) : Prop :=
  ∀ (x1 : Int32) (x2 : Int32) (res : Int32), k x1 x2 = some res → ∀ (H : Heap) (locs : List Loc) (ls : Array Slot), va_P D classes [(o, .inr (4, [.ref a_raw, .int i_txs, v_a_txAt, v_a_firstIn, v_a_firstOut, .ref a_inAt, v_a_inScript, v_a_inEnd, v_a_outAt, v_a_outScript, v_a_outEnd, .int i_end, .int i_at, .int i_ins, .int i_outs])), (a_raw, .inl (cy 0, n_raw, .inl g_raw)), (a_inAt, .inl (cy 1, 73, .inl g_inAt))] H → va_D A [(o, .inr (4, [.ref a_raw, .int i_txs, v_a_txAt, v_a_firstIn, v_a_firstOut, .ref a_inAt, v_a_inScript, v_a_inEnd, v_a_outAt, v_a_outScript, v_a_outEnd, .int i_end, .int i_at, .int i_ins, .int i_outs])), (a_raw, .inl (cy 0, n_raw, .inl g_raw)), (a_inAt, .inl (cy 1, 73, .inl g_inAt))] → va_S A s.heap H locs → lv_has ls 3 [(0, .ref o), (1, .int x1), (2, .int x2)] → W p l e rm_La_isOfCoinbase s m args below meth c H locs 0 0 (MQ below (q_La_isOfCoinbase D cy A o v_a_txAt v_a_firstIn v_a_firstOut v_a_inScript v_a_inEnd v_a_outAt v_a_outScript v_a_outEnd a_raw a_inAt i_txs i_end i_at i_ins i_outs n_raw g_raw g_inAt res) args s 0 0 A) (F0 m 2 ls [])
def I_La_isOfCoinbase_e (p : Program) (l : Launch) (e : Env) (s : State) (m : MethodId) (args : Array Value) (below : List Frame) (meth : Method) (c : Code) (D : va_G) (cy : Nat → ClassId) (A : Nat → Prop) (ad : Nat → Nat) (o : Nat) (v_a_txAt : Value) (v_a_firstIn : Value) (v_a_firstOut : Value) (v_a_inScript : Value) (v_a_inEnd : Value) (v_a_outAt : Value) (v_a_outScript : Value) (v_a_outEnd : Value) (a_raw : Nat) (a_inAt : Nat) (i_txs : Int32) (i_end : Int32) (i_at : Int32) (i_ins : Int32) (i_outs : Int32) (n_raw : Nat) (g_raw : Nat → Int32) (g_inAt : Nat → Int32) (k : Int32 → Option (Int32)) : Prop :=
  ∀ (a1 : Int32) (res : Int32), k a1 = some res → ∀ (H : Heap) (locs : List Loc) (ls : Array Slot), va_P D classes [(o, .inr (4, [.ref a_raw, .int i_txs, v_a_txAt, v_a_firstIn, v_a_firstOut, .ref a_inAt, v_a_inScript, v_a_inEnd, v_a_outAt, v_a_outScript, v_a_outEnd, .int i_end, .int i_at, .int i_ins, .int i_outs])), (a_raw, .inl (cy 0, n_raw, .inl g_raw)), (a_inAt, .inl (cy 1, 73, .inl g_inAt))] H → va_D A [(o, .inr (4, [.ref a_raw, .int i_txs, v_a_txAt, v_a_firstIn, v_a_firstOut, .ref a_inAt, v_a_inScript, v_a_inEnd, v_a_outAt, v_a_outScript, v_a_outEnd, .int i_end, .int i_at, .int i_ins, .int i_outs])), (a_raw, .inl (cy 0, n_raw, .inl g_raw)), (a_inAt, .inl (cy 1, 73, .inl g_inAt))] → va_S A s.heap H locs → lv_has ls 3 [(0, .ref o), (1, .int a1)] → W p l e rm_La_isOfCoinbase s m args below meth c H locs 0 0 (MQ below (q_La_isOfCoinbase D cy A o v_a_txAt v_a_firstIn v_a_firstOut v_a_inScript v_a_inEnd v_a_outAt v_a_outScript v_a_outEnd a_raw a_inAt i_txs i_end i_at i_ins i_outs n_raw g_raw g_inAt res) args s 0 0 A) (F0 m 0 ls [])
set_option maxHeartbeats 8000000 in
set_option maxRecDepth 100000 in
theorem wb_La_isOfCoinbase_2 {p : Program} {l : Launch} {e : Env} {s : State} {m : MethodId} {args : Array Value} {below : List Frame} {meth : Method} {c : Code} {D : va_G} {cy : Nat → ClassId} {A : Nat → Prop} {ad : Nat → Nat} {o : Nat} {v_a_txAt : Value} {v_a_firstIn : Value} {v_a_firstOut : Value} {v_a_inScript : Value} {v_a_inEnd : Value} {v_a_outAt : Value} {v_a_outScript : Value} {v_a_outEnd : Value} {a_raw : Nat} {a_inAt : Nat} {i_txs : Int32} {i_end : Int32} {i_at : Int32} {i_ins : Int32} {i_outs : Int32} {n_raw : Nat} {g_raw : Nat → Int32} {g_inAt : Nat → Int32} {fu : Nat} {k_2 : Int32 → Int32 → Option (Int32)} (F : Fx p s m args meth c b_La_isOfCoinbase 3 "CoinKeeper$Layout" "isOfCoinbase" (some .boolean) D cy ad A) (hk_2 : I_La_isOfCoinbase_2 p l e s m args below meth c D cy A ad o v_a_txAt v_a_firstIn v_a_firstOut v_a_inScript v_a_inEnd v_a_outAt v_a_outScript v_a_outEnd a_raw a_inAt i_txs i_end i_at i_ins i_outs n_raw g_raw g_inAt k_2) : I_La_isOfCoinbase_2 p l e s m args below meth c D cy A ad o v_a_txAt v_a_firstIn v_a_firstOut v_a_inScript v_a_inEnd v_a_outAt v_a_outScript v_a_outEnd a_raw a_inAt i_txs i_end i_at i_ins i_outs n_raw g_raw g_inAt (xb_La_isOfCoinbase_2 fu i_txs i_end i_at i_ins i_outs n_raw g_raw g_inAt k_2) := by
  obtain ⟨hx, hb, hr, hml, hown, hts, hlocks, hK, hA, hSt, hnm, hex⟩ := id F
  intro x1 x2 res hf H locs ls hP hD hS hl
  unfold xb_La_isOfCoinbase_2 at hf
  refine lv_iload_n hx hb d_La_isOfCoinbase_2 rfl (lv_at hl 2 rfl) ?_
  refine lv_bipush (v := 32) hx hb d_La_isOfCoinbase_3 (by decide) ?_
  refine lv_icmp_ge (tgt := 32) hx hb d_La_isOfCoinbase_5 (by decide) (fun cx => ?_) (fun cx => ?_)
  · have hf := ifp cx hf
    refine lv_aload_n hx hb d_La_isOfCoinbase_32 rfl (lv_at hl 0 rfl) ?_
    refine va_get (D := D) (ci := 4) (v := .ref a_raw) (C := "CoinKeeper$Layout") (T := F_4) (N := 15) hx hb hts i_4 hown hK hP 0 rfl rfl 0 (by decide) (hts _ gw_269) (fun _ h9 => h9) rfl d_La_isOfCoinbase_33 ?_
    refine lv_aload_n hx hb d_La_isOfCoinbase_36 rfl (lv_at hl 0 rfl) ?_
    refine va_get (D := D) (ci := 4) (v := .ref a_inAt) (C := "CoinKeeper$Layout") (T := F_4) (N := 15) hx hb hts i_4 hown hK hP 0 rfl rfl 5 (by decide) (hts _ gw_282) (fun _ h9 => h9) rfl d_La_isOfCoinbase_37 ?_
    refine lv_iload_n hx hb d_La_isOfCoinbase_40 rfl (lv_at hl 1 rfl) ?_
    obtain ⟨hg, hf⟩ := gdp hf
    refine va_iald hx hb hK hP 2 1 rfl rfl (inb_in hg) d_La_isOfCoinbase_41 ?_
    refine lv_topi (fun v1 ev => ?_)
    have hf := bn ev hf
    clear ev
    refine lv_bipush (v := 32) hx hb d_La_isOfCoinbase_42 (by decide) ?_
    refine lv_iadd hx hb d_La_isOfCoinbase_44 ?_
    refine lv_topi (fun v2 ev => ?_)
    have hf := bn ev hf
    clear ev
    obtain ⟨v3, hc, hf⟩ := bdp1 hf
    refine q_ai (wr := [(o, .inr (4, [.ref a_raw, .int i_txs, v_a_txAt, v_a_firstIn, v_a_firstOut, .ref a_inAt, v_a_inScript, v_a_inEnd, v_a_outAt, v_a_outScript, v_a_outEnd, .int i_end, .int i_at, .int i_ins, .int i_outs])), (a_inAt, .inl (cy 1, 73, .inl g_inAt))]) (va_runSN (As := [.ref a_raw, .int v2]) (rest := []) ⟨hx, hb, hml, hown, hts⟩ (c_K_word l D cy ad fu a_raw n_raw g_raw v2 _ hc H.size) ⟨q_cN hts hSt.2.1 gw_383 gw_1 (List.mem_of_getElem? (i := 16) rfl) hdc_29 ⟨by decide, by decide⟩, hts _ gw_382, trivial⟩ (q_pre (hP.sub [1] rfl) (hD.sub [1] (by decide) rfl) hK hSt hS (va_free hD hS hA [1] rfl) _) rfl rfl hl.1 rfl (lv_room (Nat.le_of_ble_eq_true rfl)) d_La_isOfCoinbase_45 ⟨Nat.le_of_ble_eq_true rfl, Nat.le_of_ble_eq_true rfl⟩) hP hD hS hA [1] [0, 2] rfl rfl (by decide) (by decide) (fun H locs hP hD hS => ?_)
    clear hc
    have hP : va_P D classes [(o, .inr (4, [.ref a_raw, .int i_txs, v_a_txAt, v_a_firstIn, v_a_firstOut, .ref a_inAt, v_a_inScript, v_a_inEnd, v_a_outAt, v_a_outScript, v_a_outEnd, .int i_end, .int i_at, .int i_ins, .int i_outs])), (a_inAt, .inl (cy 1, 73, .inl g_inAt)), (a_raw, .inl (cy 0, n_raw, .inl g_raw))] H := hP
    have hD : va_D A [(o, .inr (4, [.ref a_raw, .int i_txs, v_a_txAt, v_a_firstIn, v_a_firstOut, .ref a_inAt, v_a_inScript, v_a_inEnd, v_a_outAt, v_a_outScript, v_a_outEnd, .int i_end, .int i_at, .int i_ins, .int i_outs])), (a_inAt, .inl (cy 1, 73, .inl g_inAt)), (a_raw, .inl (cy 0, n_raw, .inl g_raw))] := hD
    refine lv_iconst (v := (-1)) hx hb d_La_isOfCoinbase_48 (by decide) ?_
    refine lv_icmp_ne (tgt := 56) hx hb d_La_isOfCoinbase_49 (by decide) (fun cx => ?_) (fun cx => ?_)
    · have hf := ifn cx hf
      refine lv_iconst (v := 0) hx hb d_La_isOfCoinbase_56 (by decide) ?_
      obtain rfl := Option.some.inj hf
      exact q_rz hx hb hr hlocks hK (hP.sub [0, 2, 1] rfl) (hD.sub [0, 2, 1] (by decide) rfl) hS (isb_n (v := 0) (by decide)) d_La_isOfCoinbase_57
    · have hf := ifp cx hf
      refine lv_iconst (v := 1) hx hb d_La_isOfCoinbase_52 (by decide) ?_
      refine lv_goto (tgt := 57) hx hb d_La_isOfCoinbase_53 (by decide) ?_
      obtain rfl := Option.some.inj hf
      exact q_rz hx hb hr hlocks hK (hP.sub [0, 2, 1] rfl) (hD.sub [0, 2, 1] (by decide) rfl) hS (isb_n (v := 1) (by decide)) d_La_isOfCoinbase_57
  · have hf := ifn cx hf
    refine lv_aload_n hx hb d_La_isOfCoinbase_8 rfl (lv_at hl 0 rfl) ?_
    refine va_get (D := D) (ci := 4) (v := .ref a_raw) (C := "CoinKeeper$Layout") (T := F_4) (N := 15) hx hb hts i_4 hown hK hP 0 rfl rfl 0 (by decide) (hts _ gw_269) (fun _ h9 => h9) rfl d_La_isOfCoinbase_9 ?_
    refine lv_aload_n hx hb d_La_isOfCoinbase_12 rfl (lv_at hl 0 rfl) ?_
    refine va_get (D := D) (ci := 4) (v := .ref a_inAt) (C := "CoinKeeper$Layout") (T := F_4) (N := 15) hx hb hts i_4 hown hK hP 0 rfl rfl 5 (by decide) (hts _ gw_282) (fun _ h9 => h9) rfl d_La_isOfCoinbase_13 ?_
    refine lv_iload_n hx hb d_La_isOfCoinbase_16 rfl (lv_at hl 1 rfl) ?_
    obtain ⟨hg, hf⟩ := gdp hf
    refine va_iald hx hb hK hP 2 1 rfl rfl (inb_in hg) d_La_isOfCoinbase_17 ?_
    refine lv_topi (fun v4 ev => ?_)
    have hf := bn ev hf
    clear ev
    refine lv_iload_n hx hb d_La_isOfCoinbase_18 rfl (lv_at hl 2 rfl) ?_
    refine lv_iadd hx hb d_La_isOfCoinbase_19 ?_
    refine lv_topi (fun v5 ev => ?_)
    have hf := bn ev hf
    clear ev
    obtain ⟨hg, hf⟩ := gdp hf
    refine va_bald hx hb hK hP 1 0 rfl rfl (inb_in hg) d_La_isOfCoinbase_20 ?_
    refine lv_topi (fun v6 ev => ?_)
    have hf := bn ev hf
    clear ev
    refine lv_if_eq (tgt := 26) hx hb d_La_isOfCoinbase_21 (by decide) (fun cx => ?_) (fun cx => ?_)
    · have hf := ifp cx hf
      obtain ⟨v7, ev, hf⟩ := bne hf
      refine lv_iinc (v := v7) (lv' := [(2, .int v7), (0, .ref o), (1, .int x1)]) hx hb d_La_isOfCoinbase_26 hl (k := 2) rfl (by rw [ev]; rfl) (by decide) rfl (fun ls hl => ?_)
      clear ev
      refine lv_goto (tgt := 2) hx hb d_La_isOfCoinbase_29 (by decide) ?_
      exact hk_2 _ _ _ hf _ _ _ hP hD hS (lv_sub hl [1, 2, 0] rfl)
    · have hf := ifn cx hf
      refine lv_iconst (v := 0) hx hb d_La_isOfCoinbase_24 (by decide) ?_
      obtain rfl := Option.some.inj hf
      exact q_rz hx hb hr hlocks hK hP hD hS (isb_n (v := 0) (by decide)) d_La_isOfCoinbase_25
theorem w_La_isOfCoinbase_2 {p : Program} {l : Launch} {e : Env} {s : State} {m : MethodId} {args : Array Value} {below : List Frame} {meth : Method} {c : Code} {D : va_G} {cy : Nat → ClassId} {A : Nat → Prop} {ad : Nat → Nat} {o : Nat} {v_a_txAt : Value} {v_a_firstIn : Value} {v_a_firstOut : Value} {v_a_inScript : Value} {v_a_inEnd : Value} {v_a_outAt : Value} {v_a_outScript : Value} {v_a_outEnd : Value} {a_raw : Nat} {a_inAt : Nat} {i_txs : Int32} {i_end : Int32} {i_at : Int32} {i_ins : Int32} {i_outs : Int32} {n_raw : Nat} {g_raw : Nat → Int32} {g_inAt : Nat → Int32} {fu : Nat} (F : Fx p s m args meth c b_La_isOfCoinbase 3 "CoinKeeper$Layout" "isOfCoinbase" (some .boolean) D cy ad A) : ∀ n : Nat, I_La_isOfCoinbase_2 p l e s m args below meth c D cy A ad o v_a_txAt v_a_firstIn v_a_firstOut v_a_inScript v_a_inEnd v_a_outAt v_a_outScript v_a_outEnd a_raw a_inAt i_txs i_end i_at i_ins i_outs n_raw g_raw g_inAt (x_La_isOfCoinbase_2 fu i_txs i_end i_at i_ins i_outs n_raw g_raw g_inAt n)
  | 0 => fun _ _ _ hf => nomatch (show (none : Option (Int32)) = some _ from hf)
  | n + 1 => wb_La_isOfCoinbase_2 F (w_La_isOfCoinbase_2 F n)
set_option maxHeartbeats 8000000 in
set_option maxRecDepth 100000 in
theorem we_La_isOfCoinbase {p : Program} {l : Launch} {e : Env} {s : State} {m : MethodId} {args : Array Value} {below : List Frame} {meth : Method} {c : Code} {D : va_G} {cy : Nat → ClassId} {A : Nat → Prop} {ad : Nat → Nat} {o : Nat} {v_a_txAt : Value} {v_a_firstIn : Value} {v_a_firstOut : Value} {v_a_inScript : Value} {v_a_inEnd : Value} {v_a_outAt : Value} {v_a_outScript : Value} {v_a_outEnd : Value} {a_raw : Nat} {a_inAt : Nat} {i_txs : Int32} {i_end : Int32} {i_at : Int32} {i_ins : Int32} {i_outs : Int32} {n_raw : Nat} {g_raw : Nat → Int32} {g_inAt : Nat → Int32} {fu : Nat} (F : Fx p s m args meth c b_La_isOfCoinbase 3 "CoinKeeper$Layout" "isOfCoinbase" (some .boolean) D cy ad A) : I_La_isOfCoinbase_e p l e s m args below meth c D cy A ad o v_a_txAt v_a_firstIn v_a_firstOut v_a_inScript v_a_inEnd v_a_outAt v_a_outScript v_a_outEnd a_raw a_inAt i_txs i_end i_at i_ins i_outs n_raw g_raw g_inAt (x_La_isOfCoinbase fu i_txs i_end i_at i_ins i_outs n_raw g_raw g_inAt) := by
  obtain ⟨hx, hb, hr, hml, hown, hts, hlocks, hK, hA, hSt, hnm, hex⟩ := id F
  intro a1 res hf H locs ls hP hD hS hl
  unfold x_La_isOfCoinbase at hf
  refine lv_iconst (v := 0) hx hb d_La_isOfCoinbase_0 (by decide) ?_
  refine lv_istore_n (lv' := [(2, .int (0 : Int32)), (0, .ref o), (1, .int a1)]) hx hb d_La_isOfCoinbase_1 rfl hl (by decide) rfl (fun ls hl => ?_)
  exact w_La_isOfCoinbase_2 F fu _ _ _ hf _ _ _ hP hD hS (lv_sub hl [1, 2, 0] rfl)
theorem c_La_isOfCoinbase (l : Launch) (D : va_G) (cy : Nat → ClassId) (ad : Nat → Nat) (fu : Nat) (o : Nat) (v_a_txAt : Value) (v_a_firstIn : Value) (v_a_firstOut : Value) (v_a_inScript : Value) (v_a_inEnd : Value) (v_a_outAt : Value) (v_a_outScript : Value) (v_a_outEnd : Value) (a_raw : Nat) (a_inAt : Nat) (i_txs : Int32) (i_end : Int32) (i_at : Int32) (i_ins : Int32) (i_outs : Int32) (n_raw : Nat) (g_raw : Nat → Int32) (g_inAt : Nat → Int32) (a1 : Int32) (res : Int32) (hf : x_La_isOfCoinbase fu i_txs i_end i_at i_ins i_outs n_raw g_raw g_inAt a1 = some res) (sz : Nat) : Met l ({ cls := "CoinKeeper$Layout", name := "isOfCoinbase", desc := "(I)Z" } : Jvm.MethodName) (.code ({ cls := "CoinKeeper$Layout", name := "isOfCoinbase", desc := "(I)Z" } : Jvm.MethodName) b_La_isOfCoinbase 3 (some .boolean) :: gw) rm_La_isOfCoinbase (va_Pc [.ref o, .int a1] (Pr D cy ad [(o, .inr (4, [.ref a_raw, .int i_txs, v_a_txAt, v_a_firstIn, v_a_firstOut, .ref a_inAt, v_a_inScript, v_a_inEnd, v_a_outAt, v_a_outScript, v_a_outEnd, .int i_end, .int i_at, .int i_ins, .int i_outs])), (a_raw, .inl (cy 0, n_raw, .inl g_raw)), (a_inAt, .inl (cy 1, 73, .inl g_inAt))] sz)) (q_La_isOfCoinbase D cy (va_A [(o, .inr (4, [.ref a_raw, .int i_txs, v_a_txAt, v_a_firstIn, v_a_firstOut, .ref a_inAt, v_a_inScript, v_a_inEnd, v_a_outAt, v_a_outScript, v_a_outEnd, .int i_end, .int i_at, .int i_ins, .int i_outs])), (a_raw, .inl (cy 0, n_raw, .inl g_raw)), (a_inAt, .inl (cy 1, 73, .inl g_inAt))] sz) o v_a_txAt v_a_firstIn v_a_firstOut v_a_inScript v_a_inEnd v_a_outAt v_a_outScript v_a_outEnd a_raw a_inAt i_txs i_end i_at i_ins i_outs n_raw g_raw g_inAt res) 0 0 (va_A [(o, .inr (4, [.ref a_raw, .int i_txs, v_a_txAt, v_a_firstIn, v_a_firstOut, .ref a_inAt, v_a_inScript, v_a_inEnd, v_a_outAt, v_a_outScript, v_a_outEnd, .int i_end, .int i_at, .int i_ins, .int i_outs])), (a_raw, .inl (cy 0, n_raw, .inl g_raw)), (a_inAt, .inl (cy 1, 73, .inl g_inAt))] sz) :=
  q_met (Qc := fun A => q_La_isOfCoinbase D cy A o v_a_txAt v_a_firstIn v_a_firstOut v_a_inScript v_a_inEnd v_a_outAt v_a_outScript v_a_outEnd a_raw a_inAt i_txs i_end i_at i_ins i_outs n_raw g_raw g_inAt res) (by decide) rfl rfl (Nat.le_of_ble_eq_true rfl) (fun p e s m below meth c ls F hP hD hS hl => we_La_isOfCoinbase (fu := fu) F a1 res hf _ _ _ hP hD hS hl) sz
abbrev b_La_inputsAreSound : ByteArray := prog_5_method_11_code
theorem d_La_inputsAreSound_0 : decode b_La_inputsAreSound 0 = .ok (.aload_n 0, 1) := by decide +kernel
theorem d_La_inputsAreSound_1 : decode b_La_inputsAreSound 1 = .ok (.getfield 15, 3) := by decide +kernel
theorem d_La_inputsAreSound_4 : decode b_La_inputsAreSound 4 = .ok (.iload_n 1, 1) := by decide +kernel
theorem d_La_inputsAreSound_5 : decode b_La_inputsAreSound 5 = .ok (.iaload, 1) := by decide +kernel
theorem d_La_inputsAreSound_6 : decode b_La_inputsAreSound 6 = .ok (.istore_n 2, 1) := by decide +kernel
theorem d_La_inputsAreSound_7 : decode b_La_inputsAreSound 7 = .ok (.iload_n 2, 1) := by decide +kernel
theorem d_La_inputsAreSound_8 : decode b_La_inputsAreSound 8 = .ok (.aload_n 0, 1) := by decide +kernel
theorem d_La_inputsAreSound_9 : decode b_La_inputsAreSound 9 = .ok (.getfield 15, 3) := by decide +kernel
theorem d_La_inputsAreSound_12 : decode b_La_inputsAreSound 12 = .ok (.iload_n 1, 1) := by decide +kernel
theorem d_La_inputsAreSound_13 : decode b_La_inputsAreSound 13 = .ok (.iconst 1, 1) := by decide +kernel
theorem d_La_inputsAreSound_14 : decode b_La_inputsAreSound 14 = .ok (.iadd, 1) := by decide +kernel
theorem d_La_inputsAreSound_15 : decode b_La_inputsAreSound 15 = .ok (.iaload, 1) := by decide +kernel
theorem d_La_inputsAreSound_16 : decode b_La_inputsAreSound 16 = .ok (.if_icmp .ge 76, 3) := by decide +kernel
theorem d_La_inputsAreSound_19 : decode b_La_inputsAreSound 19 = .ok (.aload_n 0, 1) := by decide +kernel
theorem d_La_inputsAreSound_20 : decode b_La_inputsAreSound 20 = .ok (.iload_n 2, 1) := by decide +kernel
theorem d_La_inputsAreSound_21 : decode b_La_inputsAreSound 21 = .ok (.invokevirtual 125, 3) := by decide +kernel
theorem d_La_inputsAreSound_24 : decode b_La_inputsAreSound 24 = .ok (.iload_n 1, 1) := by decide +kernel
theorem d_La_inputsAreSound_25 : decode b_La_inputsAreSound 25 = .ok (.ifCond .ne 7, 3) := by decide +kernel
theorem d_La_inputsAreSound_28 : decode b_La_inputsAreSound 28 = .ok (.iconst 1, 1) := by decide +kernel
theorem d_La_inputsAreSound_29 : decode b_La_inputsAreSound 29 = .ok (.goto 4, 3) := by decide +kernel
theorem d_La_inputsAreSound_32 : decode b_La_inputsAreSound 32 = .ok (.iconst 0, 1) := by decide +kernel
theorem d_La_inputsAreSound_33 : decode b_La_inputsAreSound 33 = .ok (.if_icmp .eq 5, 3) := by decide +kernel
theorem d_La_inputsAreSound_36 : decode b_La_inputsAreSound 36 = .ok (.iconst 0, 1) := by decide +kernel
theorem d_La_inputsAreSound_37 : decode b_La_inputsAreSound 37 = .ok (.ireturn, 1) := by decide +kernel
theorem d_La_inputsAreSound_38 : decode b_La_inputsAreSound 38 = .ok (.aload_n 0, 1) := by decide +kernel
theorem d_La_inputsAreSound_39 : decode b_La_inputsAreSound 39 = .ok (.getfield 15, 3) := by decide +kernel
theorem d_La_inputsAreSound_42 : decode b_La_inputsAreSound 42 = .ok (.iload_n 1, 1) := by decide +kernel
theorem d_La_inputsAreSound_43 : decode b_La_inputsAreSound 43 = .ok (.iaload, 1) := by decide +kernel
theorem d_La_inputsAreSound_44 : decode b_La_inputsAreSound 44 = .ok (.istore_n 3, 1) := by decide +kernel
theorem d_La_inputsAreSound_45 : decode b_La_inputsAreSound 45 = .ok (.iload_n 3, 1) := by decide +kernel
theorem d_La_inputsAreSound_46 : decode b_La_inputsAreSound 46 = .ok (.iload_n 2, 1) := by decide +kernel
theorem d_La_inputsAreSound_47 : decode b_La_inputsAreSound 47 = .ok (.if_icmp .ge 39, 3) := by decide +kernel
theorem d_La_inputsAreSound_50 : decode b_La_inputsAreSound 50 = .ok (.aload_n 0, 1) := by decide +kernel
theorem d_La_inputsAreSound_51 : decode b_La_inputsAreSound 51 = .ok (.getfield 39, 3) := by decide +kernel
theorem d_La_inputsAreSound_54 : decode b_La_inputsAreSound 54 = .ok (.aload_n 0, 1) := by decide +kernel
theorem d_La_inputsAreSound_55 : decode b_La_inputsAreSound 55 = .ok (.getfield 21, 3) := by decide +kernel
theorem d_La_inputsAreSound_58 : decode b_La_inputsAreSound 58 = .ok (.iload_n 2, 1) := by decide +kernel
theorem d_La_inputsAreSound_59 : decode b_La_inputsAreSound 59 = .ok (.iaload, 1) := by decide +kernel
theorem d_La_inputsAreSound_60 : decode b_La_inputsAreSound 60 = .ok (.aload_n 0, 1) := by decide +kernel
theorem d_La_inputsAreSound_61 : decode b_La_inputsAreSound 61 = .ok (.getfield 39, 3) := by decide +kernel
theorem d_La_inputsAreSound_64 : decode b_La_inputsAreSound 64 = .ok (.aload_n 0, 1) := by decide +kernel
theorem d_La_inputsAreSound_65 : decode b_La_inputsAreSound 65 = .ok (.getfield 21, 3) := by decide +kernel
theorem d_La_inputsAreSound_68 : decode b_La_inputsAreSound 68 = .ok (.iload_n 3, 1) := by decide +kernel
theorem d_La_inputsAreSound_69 : decode b_La_inputsAreSound 69 = .ok (.iaload, 1) := by decide +kernel
theorem d_La_inputsAreSound_70 : decode b_La_inputsAreSound 70 = .ok (.bipush 36, 2) := by decide +kernel
theorem d_La_inputsAreSound_72 : decode b_La_inputsAreSound 72 = .ok (.invokestatic 99, 3) := by decide +kernel
theorem d_La_inputsAreSound_75 : decode b_La_inputsAreSound 75 = .ok (.ifCond .eq 5, 3) := by decide +kernel
theorem d_La_inputsAreSound_78 : decode b_La_inputsAreSound 78 = .ok (.iconst 0, 1) := by decide +kernel
theorem d_La_inputsAreSound_79 : decode b_La_inputsAreSound 79 = .ok (.ireturn, 1) := by decide +kernel
theorem d_La_inputsAreSound_80 : decode b_La_inputsAreSound 80 = .ok (.iinc 3 1, 3) := by decide +kernel
theorem d_La_inputsAreSound_83 : decode b_La_inputsAreSound 83 = .ok (.goto (-38), 3) := by decide +kernel
theorem d_La_inputsAreSound_86 : decode b_La_inputsAreSound 86 = .ok (.iinc 2 1, 3) := by decide +kernel
theorem d_La_inputsAreSound_89 : decode b_La_inputsAreSound 89 = .ok (.goto (-82), 3) := by decide +kernel
theorem d_La_inputsAreSound_92 : decode b_La_inputsAreSound 92 = .ok (.aload_n 0, 1) := by decide +kernel
theorem d_La_inputsAreSound_93 : decode b_La_inputsAreSound 93 = .ok (.getfield 15, 3) := by decide +kernel
theorem d_La_inputsAreSound_96 : decode b_La_inputsAreSound 96 = .ok (.iload_n 1, 1) := by decide +kernel
theorem d_La_inputsAreSound_97 : decode b_La_inputsAreSound 97 = .ok (.iaload, 1) := by decide +kernel
theorem d_La_inputsAreSound_98 : decode b_La_inputsAreSound 98 = .ok (.aload_n 0, 1) := by decide +kernel
theorem d_La_inputsAreSound_99 : decode b_La_inputsAreSound 99 = .ok (.getfield 15, 3) := by decide +kernel
theorem d_La_inputsAreSound_102 : decode b_La_inputsAreSound 102 = .ok (.iload_n 1, 1) := by decide +kernel
theorem d_La_inputsAreSound_103 : decode b_La_inputsAreSound 103 = .ok (.iconst 1, 1) := by decide +kernel
theorem d_La_inputsAreSound_104 : decode b_La_inputsAreSound 104 = .ok (.iadd, 1) := by decide +kernel
theorem d_La_inputsAreSound_105 : decode b_La_inputsAreSound 105 = .ok (.iaload, 1) := by decide +kernel
theorem d_La_inputsAreSound_106 : decode b_La_inputsAreSound 106 = .ok (.if_icmp .ge 7, 3) := by decide +kernel
theorem d_La_inputsAreSound_109 : decode b_La_inputsAreSound 109 = .ok (.iconst 1, 1) := by decide +kernel
theorem d_La_inputsAreSound_110 : decode b_La_inputsAreSound 110 = .ok (.goto 4, 3) := by decide +kernel
theorem d_La_inputsAreSound_113 : decode b_La_inputsAreSound 113 = .ok (.iconst 0, 1) := by decide +kernel
theorem d_La_inputsAreSound_114 : decode b_La_inputsAreSound 114 = .ok (.ireturn, 1) := by decide +kernel
abbrev rm_La_inputsAreSound : Room := { frames := 2, cells := 0, slots := 0, locals := 43 }
abbrev q_La_inputsAreSound (D : va_G) (cy : Nat → ClassId) (A : Nat → Prop) (o : Nat) (v_a_txAt : Value) (v_a_firstOut : Value) (v_a_inScript : Value) (v_a_inEnd : Value) (v_a_outAt : Value) (v_a_outScript : Value) (v_a_outEnd : Value) (a_raw : Nat) (a_firstIn : Nat) (a_inAt : Nat) (i_txs : Int32) (i_end : Int32) (i_at : Int32) (i_ins : Int32) (i_outs : Int32) (n_raw : Nat) (g_raw : Nat → Int32) (g_firstIn : Nat → Int32) (g_inAt : Nat → Int32) (res : Int32) : Array Value → State → Outcome → State → Prop := va_Qi (fun r' (_ : Unit) => r' = res) (fun _ t => Po D cy A [(o, .inr (4, [.ref a_raw, .int i_txs, v_a_txAt, .ref a_firstIn, v_a_firstOut, .ref a_inAt, v_a_inScript, v_a_inEnd, v_a_outAt, v_a_outScript, v_a_outEnd, .int i_end, .int i_at, .int i_ins, .int i_outs])), (a_raw, .inl (cy 0, n_raw, .inl g_raw)), (a_firstIn, .inl (cy 1, 301, .inl g_firstIn)), (a_inAt, .inl (cy 1, 73, .inl g_inAt))] t) A
def I_La_inputsAreSound_45 (p : Program) (l : Launch) (e : Env) (s : State) (m : MethodId) (args : Array Value) (below : List Frame) (meth : Method) (c : Code) (D : va_G) (cy : Nat → ClassId) (A : Nat → Prop) (ad : Nat → Nat) (o : Nat) (v_a_txAt : Value) (v_a_firstOut : Value) (v_a_inScript : Value) (v_a_inEnd : Value) (v_a_outAt : Value) (v_a_outScript : Value) (v_a_outEnd : Value) (a_raw : Nat) (a_firstIn : Nat) (a_inAt : Nat) (i_txs : Int32) (i_end : Int32) (i_at : Int32) (i_ins : Int32) (i_outs : Int32) (n_raw : Nat) (g_raw : Nat → Int32) (g_firstIn : Nat → Int32) (g_inAt : Nat → Int32) (k : Int32 → Int32 → Int32 → Option (Int32)) : Prop :=
  ∀ (x1 : Int32) (x2 : Int32) (x3 : Int32) (res : Int32), k x1 x2 x3 = some res → ∀ (H : Heap) (locs : List Loc) (ls : Array Slot), va_P D classes [(o, .inr (4, [.ref a_raw, .int i_txs, v_a_txAt, .ref a_firstIn, v_a_firstOut, .ref a_inAt, v_a_inScript, v_a_inEnd, v_a_outAt, v_a_outScript, v_a_outEnd, .int i_end, .int i_at, .int i_ins, .int i_outs])), (a_raw, .inl (cy 0, n_raw, .inl g_raw)), (a_firstIn, .inl (cy 1, 301, .inl g_firstIn)), (a_inAt, .inl (cy 1, 73, .inl g_inAt))] H → va_D A [(o, .inr (4, [.ref a_raw, .int i_txs, v_a_txAt, .ref a_firstIn, v_a_firstOut, .ref a_inAt, v_a_inScript, v_a_inEnd, v_a_outAt, v_a_outScript, v_a_outEnd, .int i_end, .int i_at, .int i_ins, .int i_outs])), (a_raw, .inl (cy 0, n_raw, .inl g_raw)), (a_firstIn, .inl (cy 1, 301, .inl g_firstIn)), (a_inAt, .inl (cy 1, 73, .inl g_inAt))] → va_S A s.heap H locs → lv_has ls 4 [(0, .ref o), (1, .int x1), (2, .int x2), (3, .int x3)] → W p l e rm_La_inputsAreSound s m args below meth c H locs 0 0 (MQ below (q_La_inputsAreSound D cy A o v_a_txAt v_a_firstOut v_a_inScript v_a_inEnd v_a_outAt v_a_outScript v_a_outEnd a_raw a_firstIn a_inAt i_txs i_end i_at i_ins i_outs n_raw g_raw g_firstIn g_inAt res) args s 0 0 A) (F0 m 45 ls [])
def I_La_inputsAreSound_33 (p : Program) (l : Launch) (e : Env) (s : State) (m : MethodId) (args : Array Value) (below : List Frame) (meth : Method) (c : Code) (D : va_G) (cy : Nat → ClassId) (A : Nat → Prop) (ad : Nat → Nat) (o : Nat) (v_a_txAt : Value) (v_a_firstOut : Value) (v_a_inScript : Value) (v_a_inEnd : Value) (v_a_outAt : Value) (v_a_outScript : Value) (v_a_outEnd : Value) (a_raw : Nat) (a_firstIn : Nat) (a_inAt : Nat) (i_txs : Int32) (i_end : Int32) (i_at : Int32) (i_ins : Int32) (i_outs : Int32) (n_raw : Nat) (g_raw : Nat → Int32) (g_firstIn : Nat → Int32) (g_inAt : Nat → Int32) (k : Int32 → Int32 → Int32 → Int32 → Option (Int32)) : Prop :=
  ∀ (x1 : Int32) (x2 : Int32) (y0 : Int32) (y1 : Int32) (res : Int32), k x1 x2 y0 y1 = some res → ∀ (H : Heap) (locs : List Loc) (ls : Array Slot), va_P D classes [(o, .inr (4, [.ref a_raw, .int i_txs, v_a_txAt, .ref a_firstIn, v_a_firstOut, .ref a_inAt, v_a_inScript, v_a_inEnd, v_a_outAt, v_a_outScript, v_a_outEnd, .int i_end, .int i_at, .int i_ins, .int i_outs])), (a_raw, .inl (cy 0, n_raw, .inl g_raw)), (a_firstIn, .inl (cy 1, 301, .inl g_firstIn)), (a_inAt, .inl (cy 1, 73, .inl g_inAt))] H → va_D A [(o, .inr (4, [.ref a_raw, .int i_txs, v_a_txAt, .ref a_firstIn, v_a_firstOut, .ref a_inAt, v_a_inScript, v_a_inEnd, v_a_outAt, v_a_outScript, v_a_outEnd, .int i_end, .int i_at, .int i_ins, .int i_outs])), (a_raw, .inl (cy 0, n_raw, .inl g_raw)), (a_firstIn, .inl (cy 1, 301, .inl g_firstIn)), (a_inAt, .inl (cy 1, 73, .inl g_inAt))] → va_S A s.heap H locs → lv_has ls 4 [(0, .ref o), (1, .int x1), (2, .int x2)] → W p l e rm_La_inputsAreSound s m args below meth c H locs 0 0 (MQ below (q_La_inputsAreSound D cy A o v_a_txAt v_a_firstOut v_a_inScript v_a_inEnd v_a_outAt v_a_outScript v_a_outEnd a_raw a_firstIn a_inAt i_txs i_end i_at i_ins i_outs n_raw g_raw g_firstIn g_inAt res) args s 0 0 A) (F0 m 33 ls [.int y0, .int y1])
def I_La_inputsAreSound_7 (p : Program) (l : Launch) (e : Env) (s : State) (m : MethodId) (args : Array Value) (below : List Frame) (meth : Method) (c : Code) (D : va_G) (cy : Nat → ClassId) (A : Nat → Prop) (ad : Nat → Nat) (o : Nat) (v_a_txAt : Value) (v_a_firstOut : Value) (v_a_inScript : Value) (v_a_inEnd : Value) (v_a_outAt : Value) (v_a_outScript : Value) (v_a_outEnd : Value) (a_raw : Nat) (a_firstIn : Nat) (a_inAt : Nat) (i_txs : Int32) (i_end : Int32) (i_at : Int32) (i_ins : Int32) (i_outs : Int32) (n_raw : Nat) (g_raw : Nat → Int32) (g_firstIn : Nat → Int32) (g_inAt : Nat → Int32) (k : Int32 → Int32 → Option (Int32)) : Prop :=
  ∀ (x1 : Int32) (x2 : Int32) (res : Int32), k x1 x2 = some res → ∀ (H : Heap) (locs : List Loc) (ls : Array Slot), va_P D classes [(o, .inr (4, [.ref a_raw, .int i_txs, v_a_txAt, .ref a_firstIn, v_a_firstOut, .ref a_inAt, v_a_inScript, v_a_inEnd, v_a_outAt, v_a_outScript, v_a_outEnd, .int i_end, .int i_at, .int i_ins, .int i_outs])), (a_raw, .inl (cy 0, n_raw, .inl g_raw)), (a_firstIn, .inl (cy 1, 301, .inl g_firstIn)), (a_inAt, .inl (cy 1, 73, .inl g_inAt))] H → va_D A [(o, .inr (4, [.ref a_raw, .int i_txs, v_a_txAt, .ref a_firstIn, v_a_firstOut, .ref a_inAt, v_a_inScript, v_a_inEnd, v_a_outAt, v_a_outScript, v_a_outEnd, .int i_end, .int i_at, .int i_ins, .int i_outs])), (a_raw, .inl (cy 0, n_raw, .inl g_raw)), (a_firstIn, .inl (cy 1, 301, .inl g_firstIn)), (a_inAt, .inl (cy 1, 73, .inl g_inAt))] → va_S A s.heap H locs → lv_has ls 4 [(0, .ref o), (1, .int x1), (2, .int x2)] → W p l e rm_La_inputsAreSound s m args below meth c H locs 0 0 (MQ below (q_La_inputsAreSound D cy A o v_a_txAt v_a_firstOut v_a_inScript v_a_inEnd v_a_outAt v_a_outScript v_a_outEnd a_raw a_firstIn a_inAt i_txs i_end i_at i_ins i_outs n_raw g_raw g_firstIn g_inAt res) args s 0 0 A) (F0 m 7 ls [])
def I_La_inputsAreSound_e (p : Program) (l : Launch) (e : Env) (s : State) (m : MethodId) (args : Array Value) (below : List Frame) (meth : Method) (c : Code) (D : va_G) (cy : Nat → ClassId) (A : Nat → Prop) (ad : Nat → Nat) (o : Nat) (v_a_txAt : Value) (v_a_firstOut : Value) (v_a_inScript : Value) (v_a_inEnd : Value) (v_a_outAt : Value) (v_a_outScript : Value) (v_a_outEnd : Value) (a_raw : Nat) (a_firstIn : Nat) (a_inAt : Nat) (i_txs : Int32) (i_end : Int32) (i_at : Int32) (i_ins : Int32) (i_outs : Int32) (n_raw : Nat) (g_raw : Nat → Int32) (g_firstIn : Nat → Int32) (g_inAt : Nat → Int32) (k : Int32 → Option (Int32)) : Prop :=
  ∀ (a1 : Int32) (res : Int32), k a1 = some res → ∀ (H : Heap) (locs : List Loc) (ls : Array Slot), va_P D classes [(o, .inr (4, [.ref a_raw, .int i_txs, v_a_txAt, .ref a_firstIn, v_a_firstOut, .ref a_inAt, v_a_inScript, v_a_inEnd, v_a_outAt, v_a_outScript, v_a_outEnd, .int i_end, .int i_at, .int i_ins, .int i_outs])), (a_raw, .inl (cy 0, n_raw, .inl g_raw)), (a_firstIn, .inl (cy 1, 301, .inl g_firstIn)), (a_inAt, .inl (cy 1, 73, .inl g_inAt))] H → va_D A [(o, .inr (4, [.ref a_raw, .int i_txs, v_a_txAt, .ref a_firstIn, v_a_firstOut, .ref a_inAt, v_a_inScript, v_a_inEnd, v_a_outAt, v_a_outScript, v_a_outEnd, .int i_end, .int i_at, .int i_ins, .int i_outs])), (a_raw, .inl (cy 0, n_raw, .inl g_raw)), (a_firstIn, .inl (cy 1, 301, .inl g_firstIn)), (a_inAt, .inl (cy 1, 73, .inl g_inAt))] → va_S A s.heap H locs → lv_has ls 4 [(0, .ref o), (1, .int a1)] → W p l e rm_La_inputsAreSound s m args below meth c H locs 0 0 (MQ below (q_La_inputsAreSound D cy A o v_a_txAt v_a_firstOut v_a_inScript v_a_inEnd v_a_outAt v_a_outScript v_a_outEnd a_raw a_firstIn a_inAt i_txs i_end i_at i_ins i_outs n_raw g_raw g_firstIn g_inAt res) args s 0 0 A) (F0 m 0 ls [])
theorem hdc_31 : ({ cls := "CoinKeeper", name := "same", desc := "([BI[BII)Z" } : Jvm.MethodName).cls ≠ "java/lang/invoke/MethodHandle" ∧ ({ cls := "CoinKeeper", name := "same", desc := "([BI[BII)Z" } : Jvm.MethodName).cls ≠ "java/lang/invoke/VarHandle" ∧ (parseMethodDescriptor ({ cls := "CoinKeeper", name := "same", desc := "([BI[BII)Z" } : Jvm.MethodName).desc).map (fun d => d.parameters.length) = some 5 := by decide +kernel
set_option maxHeartbeats 8000000 in
set_option maxRecDepth 100000 in
theorem wb_La_inputsAreSound_45 {p : Program} {l : Launch} {e : Env} {s : State} {m : MethodId} {args : Array Value} {below : List Frame} {meth : Method} {c : Code} {D : va_G} {cy : Nat → ClassId} {A : Nat → Prop} {ad : Nat → Nat} {o : Nat} {v_a_txAt : Value} {v_a_firstOut : Value} {v_a_inScript : Value} {v_a_inEnd : Value} {v_a_outAt : Value} {v_a_outScript : Value} {v_a_outEnd : Value} {a_raw : Nat} {a_firstIn : Nat} {a_inAt : Nat} {i_txs : Int32} {i_end : Int32} {i_at : Int32} {i_ins : Int32} {i_outs : Int32} {n_raw : Nat} {g_raw : Nat → Int32} {g_firstIn : Nat → Int32} {g_inAt : Nat → Int32} {fu : Nat} {k_7 : Int32 → Int32 → Option (Int32)} {k_45 : Int32 → Int32 → Int32 → Option (Int32)} (F : Fx p s m args meth c b_La_inputsAreSound 4 "CoinKeeper$Layout" "inputsAreSound" (some .boolean) D cy ad A) (hk_7 : I_La_inputsAreSound_7 p l e s m args below meth c D cy A ad o v_a_txAt v_a_firstOut v_a_inScript v_a_inEnd v_a_outAt v_a_outScript v_a_outEnd a_raw a_firstIn a_inAt i_txs i_end i_at i_ins i_outs n_raw g_raw g_firstIn g_inAt k_7) (hk_45 : I_La_inputsAreSound_45 p l e s m args below meth c D cy A ad o v_a_txAt v_a_firstOut v_a_inScript v_a_inEnd v_a_outAt v_a_outScript v_a_outEnd a_raw a_firstIn a_inAt i_txs i_end i_at i_ins i_outs n_raw g_raw g_firstIn g_inAt k_45) : I_La_inputsAreSound_45 p l e s m args below meth c D cy A ad o v_a_txAt v_a_firstOut v_a_inScript v_a_inEnd v_a_outAt v_a_outScript v_a_outEnd a_raw a_firstIn a_inAt i_txs i_end i_at i_ins i_outs n_raw g_raw g_firstIn g_inAt (xb_La_inputsAreSound_45 fu i_txs i_end i_at i_ins i_outs n_raw g_raw g_firstIn g_inAt k_7 k_45) := by
  obtain ⟨hx, hb, hr, hml, hown, hts, hlocks, hK, hA, hSt, hnm, hex⟩ := id F
  intro x1 x2 x3 res hf H locs ls hP hD hS hl
  unfold xb_La_inputsAreSound_45 at hf
  refine lv_iload_n hx hb d_La_inputsAreSound_45 rfl (lv_at hl 3 rfl) ?_
  refine lv_iload_n hx hb d_La_inputsAreSound_46 rfl (lv_at hl 2 rfl) ?_
  refine lv_icmp_ge (tgt := 86) hx hb d_La_inputsAreSound_47 (by decide) (fun cx => ?_) (fun cx => ?_)
  · have hf := ifp cx hf
    obtain ⟨v1, ev, hf⟩ := bne hf
    refine lv_iinc (v := v1) (lv' := [(2, .int v1), (0, .ref o), (1, .int x1), (3, .int x3)]) hx hb d_La_inputsAreSound_86 hl (k := 2) rfl (by rw [ev]; rfl) (by decide) rfl (fun ls hl => ?_)
    clear ev
    refine lv_goto (tgt := 7) hx hb d_La_inputsAreSound_89 (by decide) ?_
    exact hk_7 _ _ _ hf _ _ _ hP hD hS (lv_sub hl [1, 2, 0] rfl)
  · have hf := ifn cx hf
    refine lv_aload_n hx hb d_La_inputsAreSound_50 rfl (lv_at hl 0 rfl) ?_
    refine va_get (D := D) (ci := 4) (v := .ref a_raw) (C := "CoinKeeper$Layout") (T := F_4) (N := 15) hx hb hts i_4 hown hK hP 0 rfl rfl 0 (by decide) (hts _ gw_269) (fun _ h9 => h9) rfl d_La_inputsAreSound_51 ?_
    refine lv_aload_n hx hb d_La_inputsAreSound_54 rfl (lv_at hl 0 rfl) ?_
    refine va_get (D := D) (ci := 4) (v := .ref a_inAt) (C := "CoinKeeper$Layout") (T := F_4) (N := 15) hx hb hts i_4 hown hK hP 0 rfl rfl 5 (by decide) (hts _ gw_282) (fun _ h9 => h9) rfl d_La_inputsAreSound_55 ?_
    refine lv_iload_n hx hb d_La_inputsAreSound_58 rfl (lv_at hl 2 rfl) ?_
    obtain ⟨hg, hf⟩ := gdp hf
    refine va_iald hx hb hK hP 3 1 rfl rfl (inb_in hg) d_La_inputsAreSound_59 ?_
    refine lv_topi (fun v2 ev => ?_)
    have hf := bn ev hf
    clear ev
    refine lv_aload_n hx hb d_La_inputsAreSound_60 rfl (lv_at hl 0 rfl) ?_
    refine va_get (D := D) (ci := 4) (v := .ref a_raw) (C := "CoinKeeper$Layout") (T := F_4) (N := 15) hx hb hts i_4 hown hK hP 0 rfl rfl 0 (by decide) (hts _ gw_269) (fun _ h9 => h9) rfl d_La_inputsAreSound_61 ?_
    refine lv_aload_n hx hb d_La_inputsAreSound_64 rfl (lv_at hl 0 rfl) ?_
    refine va_get (D := D) (ci := 4) (v := .ref a_inAt) (C := "CoinKeeper$Layout") (T := F_4) (N := 15) hx hb hts i_4 hown hK hP 0 rfl rfl 5 (by decide) (hts _ gw_282) (fun _ h9 => h9) rfl d_La_inputsAreSound_65 ?_
    refine lv_iload_n hx hb d_La_inputsAreSound_68 rfl (lv_at hl 3 rfl) ?_
    obtain ⟨hg, hf⟩ := gdp hf
    refine va_iald hx hb hK hP 3 1 rfl rfl (inb_in hg) d_La_inputsAreSound_69 ?_
    refine lv_topi (fun v3 ev => ?_)
    have hf := bn ev hf
    clear ev
    refine lv_bipush (v := 36) hx hb d_La_inputsAreSound_70 (by decide) ?_
    obtain ⟨v4, hc, hf⟩ := bdp1 hf
    refine q_ai (wr := [(o, .inr (4, [.ref a_raw, .int i_txs, v_a_txAt, .ref a_firstIn, v_a_firstOut, .ref a_inAt, v_a_inScript, v_a_inEnd, v_a_outAt, v_a_outScript, v_a_outEnd, .int i_end, .int i_at, .int i_ins, .int i_outs])), (a_firstIn, .inl (cy 1, 301, .inl g_firstIn)), (a_inAt, .inl (cy 1, 73, .inl g_inAt))]) (va_runSN (As := [.ref a_raw, .int v2, .ref a_raw, .int v3, .int (36 : Int32)]) (rest := []) ⟨hx, hb, hml, hown, hts⟩ (c_K_same_e20 l D cy ad fu a_raw n_raw g_raw v2 v3 (36 : Int32) _ hc H.size) ⟨q_cN hts hSt.2.1 gw_746 gw_1 (List.mem_of_getElem? (i := 15) rfl) hdc_31 ⟨by decide, by decide⟩, hts _ gw_745, trivial⟩ (q_pre (hP.sub [1] rfl) (hD.sub [1] (by decide) rfl) hK hSt hS (va_free hD hS hA [1] rfl) _) rfl rfl hl.1 rfl (lv_room (Nat.le_of_ble_eq_true rfl)) d_La_inputsAreSound_72 ⟨Nat.le_of_ble_eq_true rfl, Nat.le_of_ble_eq_true rfl⟩) hP hD hS hA [1] [0, 2, 3] rfl rfl (by decide) (by decide) (fun H locs hP hD hS => ?_)
    clear hc
    have hP : va_P D classes [(o, .inr (4, [.ref a_raw, .int i_txs, v_a_txAt, .ref a_firstIn, v_a_firstOut, .ref a_inAt, v_a_inScript, v_a_inEnd, v_a_outAt, v_a_outScript, v_a_outEnd, .int i_end, .int i_at, .int i_ins, .int i_outs])), (a_firstIn, .inl (cy 1, 301, .inl g_firstIn)), (a_inAt, .inl (cy 1, 73, .inl g_inAt)), (a_raw, .inl (cy 0, n_raw, .inl g_raw))] H := hP
    have hD : va_D A [(o, .inr (4, [.ref a_raw, .int i_txs, v_a_txAt, .ref a_firstIn, v_a_firstOut, .ref a_inAt, v_a_inScript, v_a_inEnd, v_a_outAt, v_a_outScript, v_a_outEnd, .int i_end, .int i_at, .int i_ins, .int i_outs])), (a_firstIn, .inl (cy 1, 301, .inl g_firstIn)), (a_inAt, .inl (cy 1, 73, .inl g_inAt)), (a_raw, .inl (cy 0, n_raw, .inl g_raw))] := hD
    refine lv_if_eq (tgt := 80) hx hb d_La_inputsAreSound_75 (by decide) (fun cx => ?_) (fun cx => ?_)
    · have hf := ifp cx hf
      obtain ⟨v5, ev, hf⟩ := bne hf
      refine lv_iinc (v := v5) (lv' := [(3, .int v5), (0, .ref o), (1, .int x1), (2, .int x2)]) hx hb d_La_inputsAreSound_80 hl (k := 3) rfl (by rw [ev]; rfl) (by decide) rfl (fun ls hl => ?_)
      clear ev
      refine lv_goto (tgt := 45) hx hb d_La_inputsAreSound_83 (by decide) ?_
      exact hk_45 _ _ _ _ hf _ _ _ (hP.sub (ws' := [(o, .inr (4, [.ref a_raw, .int i_txs, v_a_txAt, .ref a_firstIn, v_a_firstOut, .ref a_inAt, v_a_inScript, v_a_inEnd, v_a_outAt, v_a_outScript, v_a_outEnd, .int i_end, .int i_at, .int i_ins, .int i_outs])), (a_raw, .inl (cy 0, n_raw, .inl g_raw)), (a_firstIn, .inl (cy 1, 301, .inl g_firstIn)), (a_inAt, .inl (cy 1, 73, .inl g_inAt))]) [0, 3, 1, 2] rfl) (hD.sub (ws' := [(o, .inr (4, [.ref a_raw, .int i_txs, v_a_txAt, .ref a_firstIn, v_a_firstOut, .ref a_inAt, v_a_inScript, v_a_inEnd, v_a_outAt, v_a_outScript, v_a_outEnd, .int i_end, .int i_at, .int i_ins, .int i_outs])), (a_raw, .inl (cy 0, n_raw, .inl g_raw)), (a_firstIn, .inl (cy 1, 301, .inl g_firstIn)), (a_inAt, .inl (cy 1, 73, .inl g_inAt))]) [0, 3, 1, 2] (by decide) rfl) hS (lv_sub hl [1, 2, 3, 0] rfl)
    · have hf := ifn cx hf
      refine lv_iconst (v := 0) hx hb d_La_inputsAreSound_78 (by decide) ?_
      obtain rfl := Option.some.inj hf
      exact q_rz hx hb hr hlocks hK (hP.sub [0, 3, 1, 2] rfl) (hD.sub [0, 3, 1, 2] (by decide) rfl) hS (isb_n (v := 0) (by decide)) d_La_inputsAreSound_79
theorem w_La_inputsAreSound_45 {p : Program} {l : Launch} {e : Env} {s : State} {m : MethodId} {args : Array Value} {below : List Frame} {meth : Method} {c : Code} {D : va_G} {cy : Nat → ClassId} {A : Nat → Prop} {ad : Nat → Nat} {o : Nat} {v_a_txAt : Value} {v_a_firstOut : Value} {v_a_inScript : Value} {v_a_inEnd : Value} {v_a_outAt : Value} {v_a_outScript : Value} {v_a_outEnd : Value} {a_raw : Nat} {a_firstIn : Nat} {a_inAt : Nat} {i_txs : Int32} {i_end : Int32} {i_at : Int32} {i_ins : Int32} {i_outs : Int32} {n_raw : Nat} {g_raw : Nat → Int32} {g_firstIn : Nat → Int32} {g_inAt : Nat → Int32} {fu : Nat} {k_7 : Int32 → Int32 → Option (Int32)} (F : Fx p s m args meth c b_La_inputsAreSound 4 "CoinKeeper$Layout" "inputsAreSound" (some .boolean) D cy ad A) (hk_7 : I_La_inputsAreSound_7 p l e s m args below meth c D cy A ad o v_a_txAt v_a_firstOut v_a_inScript v_a_inEnd v_a_outAt v_a_outScript v_a_outEnd a_raw a_firstIn a_inAt i_txs i_end i_at i_ins i_outs n_raw g_raw g_firstIn g_inAt k_7) : ∀ n : Nat, I_La_inputsAreSound_45 p l e s m args below meth c D cy A ad o v_a_txAt v_a_firstOut v_a_inScript v_a_inEnd v_a_outAt v_a_outScript v_a_outEnd a_raw a_firstIn a_inAt i_txs i_end i_at i_ins i_outs n_raw g_raw g_firstIn g_inAt (x_La_inputsAreSound_45 fu i_txs i_end i_at i_ins i_outs n_raw g_raw g_firstIn g_inAt k_7 n)
  | 0 => fun _ _ _ _ hf => nomatch (show (none : Option (Int32)) = some _ from hf)
  | n + 1 => wb_La_inputsAreSound_45 F hk_7 (w_La_inputsAreSound_45 F hk_7 n)
set_option maxHeartbeats 8000000 in
set_option maxRecDepth 100000 in
theorem wb_La_inputsAreSound_33 {p : Program} {l : Launch} {e : Env} {s : State} {m : MethodId} {args : Array Value} {below : List Frame} {meth : Method} {c : Code} {D : va_G} {cy : Nat → ClassId} {A : Nat → Prop} {ad : Nat → Nat} {o : Nat} {v_a_txAt : Value} {v_a_firstOut : Value} {v_a_inScript : Value} {v_a_inEnd : Value} {v_a_outAt : Value} {v_a_outScript : Value} {v_a_outEnd : Value} {a_raw : Nat} {a_firstIn : Nat} {a_inAt : Nat} {i_txs : Int32} {i_end : Int32} {i_at : Int32} {i_ins : Int32} {i_outs : Int32} {n_raw : Nat} {g_raw : Nat → Int32} {g_firstIn : Nat → Int32} {g_inAt : Nat → Int32} {fu : Nat} {k_7 : Int32 → Int32 → Option (Int32)} (F : Fx p s m args meth c b_La_inputsAreSound 4 "CoinKeeper$Layout" "inputsAreSound" (some .boolean) D cy ad A) (hk_7 : I_La_inputsAreSound_7 p l e s m args below meth c D cy A ad o v_a_txAt v_a_firstOut v_a_inScript v_a_inEnd v_a_outAt v_a_outScript v_a_outEnd a_raw a_firstIn a_inAt i_txs i_end i_at i_ins i_outs n_raw g_raw g_firstIn g_inAt k_7) : I_La_inputsAreSound_33 p l e s m args below meth c D cy A ad o v_a_txAt v_a_firstOut v_a_inScript v_a_inEnd v_a_outAt v_a_outScript v_a_outEnd a_raw a_firstIn a_inAt i_txs i_end i_at i_ins i_outs n_raw g_raw g_firstIn g_inAt (xb_La_inputsAreSound_33 fu i_txs i_end i_at i_ins i_outs n_raw g_raw g_firstIn g_inAt k_7) := by
  obtain ⟨hx, hb, hr, hml, hown, hts, hlocks, hK, hA, hSt, hnm, hex⟩ := id F
  intro x1 x2 y0 y1 res hf H locs ls hP hD hS hl
  unfold xb_La_inputsAreSound_33 at hf
  refine lv_icmp_eq (tgt := 38) hx hb d_La_inputsAreSound_33 (by decide) (fun cx => ?_) (fun cx => ?_)
  · have hf := ifp cx hf
    refine lv_aload_n hx hb d_La_inputsAreSound_38 rfl (lv_at hl 0 rfl) ?_
    refine va_get (D := D) (ci := 4) (v := .ref a_firstIn) (C := "CoinKeeper$Layout") (T := F_4) (N := 15) hx hb hts i_4 hown hK hP 0 rfl rfl 3 (by decide) (hts _ gw_276) (fun _ h9 => h9) rfl d_La_inputsAreSound_39 ?_
    refine lv_iload_n hx hb d_La_inputsAreSound_42 rfl (lv_at hl 1 rfl) ?_
    obtain ⟨hg, hf⟩ := gdp hf
    refine va_iald hx hb hK hP 2 1 rfl rfl (inb_in hg) d_La_inputsAreSound_43 ?_
    refine lv_topi (fun v1 ev => ?_)
    have hf := bn ev hf
    clear ev
    refine lv_istore_n (lv' := [(3, .int v1), (0, .ref o), (1, .int x1), (2, .int x2)]) hx hb d_La_inputsAreSound_44 rfl hl (by decide) rfl (fun ls hl => ?_)
    exact w_La_inputsAreSound_45 F hk_7 fu _ _ _ _ hf _ _ _ hP hD hS (lv_sub hl [1, 2, 3, 0] rfl)
  · have hf := ifn cx hf
    refine lv_iconst (v := 0) hx hb d_La_inputsAreSound_36 (by decide) ?_
    obtain rfl := Option.some.inj hf
    exact q_rz hx hb hr hlocks hK hP hD hS (isb_n (v := 0) (by decide)) d_La_inputsAreSound_37
theorem hdc_32 : ({ cls := "CoinKeeper$Layout", name := "isOfCoinbase", desc := "(I)Z" } : Jvm.MethodName).cls ≠ "java/lang/invoke/MethodHandle" ∧ ({ cls := "CoinKeeper$Layout", name := "isOfCoinbase", desc := "(I)Z" } : Jvm.MethodName).cls ≠ "java/lang/invoke/VarHandle" ∧ (parseMethodDescriptor ({ cls := "CoinKeeper$Layout", name := "isOfCoinbase", desc := "(I)Z" } : Jvm.MethodName).desc).map (fun d => d.parameters.length) = some 1 := by decide +kernel
set_option maxHeartbeats 8000000 in
set_option maxRecDepth 100000 in
theorem wb_La_inputsAreSound_7 {p : Program} {l : Launch} {e : Env} {s : State} {m : MethodId} {args : Array Value} {below : List Frame} {meth : Method} {c : Code} {D : va_G} {cy : Nat → ClassId} {A : Nat → Prop} {ad : Nat → Nat} {o : Nat} {v_a_txAt : Value} {v_a_firstOut : Value} {v_a_inScript : Value} {v_a_inEnd : Value} {v_a_outAt : Value} {v_a_outScript : Value} {v_a_outEnd : Value} {a_raw : Nat} {a_firstIn : Nat} {a_inAt : Nat} {i_txs : Int32} {i_end : Int32} {i_at : Int32} {i_ins : Int32} {i_outs : Int32} {n_raw : Nat} {g_raw : Nat → Int32} {g_firstIn : Nat → Int32} {g_inAt : Nat → Int32} {fu : Nat} {k_7 : Int32 → Int32 → Option (Int32)} (F : Fx p s m args meth c b_La_inputsAreSound 4 "CoinKeeper$Layout" "inputsAreSound" (some .boolean) D cy ad A) (hk_7 : I_La_inputsAreSound_7 p l e s m args below meth c D cy A ad o v_a_txAt v_a_firstOut v_a_inScript v_a_inEnd v_a_outAt v_a_outScript v_a_outEnd a_raw a_firstIn a_inAt i_txs i_end i_at i_ins i_outs n_raw g_raw g_firstIn g_inAt k_7) : I_La_inputsAreSound_7 p l e s m args below meth c D cy A ad o v_a_txAt v_a_firstOut v_a_inScript v_a_inEnd v_a_outAt v_a_outScript v_a_outEnd a_raw a_firstIn a_inAt i_txs i_end i_at i_ins i_outs n_raw g_raw g_firstIn g_inAt (xb_La_inputsAreSound_7 fu i_txs i_end i_at i_ins i_outs n_raw g_raw g_firstIn g_inAt k_7) := by
  obtain ⟨hx, hb, hr, hml, hown, hts, hlocks, hK, hA, hSt, hnm, hex⟩ := id F
  intro x1 x2 res hf H locs ls hP hD hS hl
  unfold xb_La_inputsAreSound_7 at hf
  refine lv_iload_n hx hb d_La_inputsAreSound_7 rfl (lv_at hl 2 rfl) ?_
  refine lv_aload_n hx hb d_La_inputsAreSound_8 rfl (lv_at hl 0 rfl) ?_
  refine va_get (D := D) (ci := 4) (v := .ref a_firstIn) (C := "CoinKeeper$Layout") (T := F_4) (N := 15) hx hb hts i_4 hown hK hP 0 rfl rfl 3 (by decide) (hts _ gw_276) (fun _ h9 => h9) rfl d_La_inputsAreSound_9 ?_
  refine lv_iload_n hx hb d_La_inputsAreSound_12 rfl (lv_at hl 1 rfl) ?_
  refine lv_iconst (v := 1) hx hb d_La_inputsAreSound_13 (by decide) ?_
  refine lv_iadd hx hb d_La_inputsAreSound_14 ?_
  refine lv_topi (fun v1 ev => ?_)
  have hf := bn ev hf
  clear ev
  obtain ⟨hg, hf⟩ := gdp hf
  refine va_iald hx hb hK hP 2 1 rfl rfl (inb_in hg) d_La_inputsAreSound_15 ?_
  refine lv_topi (fun v2 ev => ?_)
  have hf := bn ev hf
  clear ev
  refine lv_icmp_ge (tgt := 92) hx hb d_La_inputsAreSound_16 (by decide) (fun cx => ?_) (fun cx => ?_)
  · have hf := ifp cx hf
    refine lv_aload_n hx hb d_La_inputsAreSound_92 rfl (lv_at hl 0 rfl) ?_
    refine va_get (D := D) (ci := 4) (v := .ref a_firstIn) (C := "CoinKeeper$Layout") (T := F_4) (N := 15) hx hb hts i_4 hown hK hP 0 rfl rfl 3 (by decide) (hts _ gw_276) (fun _ h9 => h9) rfl d_La_inputsAreSound_93 ?_
    refine lv_iload_n hx hb d_La_inputsAreSound_96 rfl (lv_at hl 1 rfl) ?_
    obtain ⟨hg, hf⟩ := gdp hf
    refine va_iald hx hb hK hP 2 1 rfl rfl (inb_in hg) d_La_inputsAreSound_97 ?_
    refine lv_topi (fun v3 ev => ?_)
    have hf := bn ev hf
    clear ev
    refine lv_aload_n hx hb d_La_inputsAreSound_98 rfl (lv_at hl 0 rfl) ?_
    refine va_get (D := D) (ci := 4) (v := .ref a_firstIn) (C := "CoinKeeper$Layout") (T := F_4) (N := 15) hx hb hts i_4 hown hK hP 0 rfl rfl 3 (by decide) (hts _ gw_276) (fun _ h9 => h9) rfl d_La_inputsAreSound_99 ?_
    refine lv_iload_n hx hb d_La_inputsAreSound_102 rfl (lv_at hl 1 rfl) ?_
    refine lv_iconst (v := 1) hx hb d_La_inputsAreSound_103 (by decide) ?_
    refine lv_iadd hx hb d_La_inputsAreSound_104 ?_
    refine lv_topi (fun v4 ev => ?_)
    have hf := bn ev hf
    clear ev
    obtain ⟨hg, hf⟩ := gdp hf
    refine va_iald hx hb hK hP 2 1 rfl rfl (inb_in hg) d_La_inputsAreSound_105 ?_
    refine lv_topi (fun v5 ev => ?_)
    have hf := bn ev hf
    clear ev
    refine lv_icmp_ge (tgt := 113) hx hb d_La_inputsAreSound_106 (by decide) (fun cx => ?_) (fun cx => ?_)
    · have hf := ifp cx hf
      refine lv_iconst (v := 0) hx hb d_La_inputsAreSound_113 (by decide) ?_
      obtain rfl := Option.some.inj hf
      exact q_rz hx hb hr hlocks hK hP hD hS (isb_n (v := 0) (by decide)) d_La_inputsAreSound_114
    · have hf := ifn cx hf
      refine lv_iconst (v := 1) hx hb d_La_inputsAreSound_109 (by decide) ?_
      refine lv_goto (tgt := 114) hx hb d_La_inputsAreSound_110 (by decide) ?_
      obtain rfl := Option.some.inj hf
      exact q_rz hx hb hr hlocks hK hP hD hS (isb_n (v := 1) (by decide)) d_La_inputsAreSound_114
  · have hf := ifn cx hf
    refine lv_aload_n hx hb d_La_inputsAreSound_19 rfl (lv_at hl 0 rfl) ?_
    refine lv_iload_n hx hb d_La_inputsAreSound_20 rfl (lv_at hl 2 rfl) ?_
    obtain ⟨v6, hc, hf⟩ := bdp1 hf
    refine q_ai (wr := [(a_firstIn, .inl (cy 1, 301, .inl g_firstIn))]) (va_runV (C := "CoinKeeper$Layout") (As := [.int x2]) (rest := []) ⟨hx, hb, hml, hown, hts⟩ (c_La_isOfCoinbase l D cy ad fu o v_a_txAt (.ref a_firstIn) v_a_firstOut v_a_inScript v_a_inEnd v_a_outAt v_a_outScript v_a_outEnd a_raw a_inAt i_txs i_end i_at i_ins i_outs n_raw g_raw g_inAt x2 _ hc H.size) ⟨q_cB hts gw_812 gw_8 gw_809 hdc_32 ⟨by decide, by decide⟩, hts _ gw_811, hts _ gs_15⟩ (q_preV (q_pre (hP.sub [0, 1, 3] rfl) (hD.sub [0, 1, 3] (by decide) rfl) hK hSt hS (va_free hD hS hA [0, 1, 3] rfl) _) (va_recv hK (hP.sub [0, 1, 3] rfl) (ci := 4) (q0 := 0) rfl rfl)) rfl rfl hl.1 rfl (lv_room (Nat.le_of_ble_eq_true rfl)) d_La_inputsAreSound_21 ⟨Nat.le_of_ble_eq_true rfl, Nat.le_of_ble_eq_true rfl⟩) hP hD hS hA [0, 1, 3] [2] rfl rfl (by decide) (by decide) (fun H locs hP hD hS => ?_)
    clear hc
    have hP : va_P D classes [(a_firstIn, .inl (cy 1, 301, .inl g_firstIn)), (o, .inr (4, [.ref a_raw, .int i_txs, v_a_txAt, .ref a_firstIn, v_a_firstOut, .ref a_inAt, v_a_inScript, v_a_inEnd, v_a_outAt, v_a_outScript, v_a_outEnd, .int i_end, .int i_at, .int i_ins, .int i_outs])), (a_raw, .inl (cy 0, n_raw, .inl g_raw)), (a_inAt, .inl (cy 1, 73, .inl g_inAt))] H := hP
    have hD : va_D A [(a_firstIn, .inl (cy 1, 301, .inl g_firstIn)), (o, .inr (4, [.ref a_raw, .int i_txs, v_a_txAt, .ref a_firstIn, v_a_firstOut, .ref a_inAt, v_a_inScript, v_a_inEnd, v_a_outAt, v_a_outScript, v_a_outEnd, .int i_end, .int i_at, .int i_ins, .int i_outs])), (a_raw, .inl (cy 0, n_raw, .inl g_raw)), (a_inAt, .inl (cy 1, 73, .inl g_inAt))] := hD
    refine lv_iload_n hx hb d_La_inputsAreSound_24 rfl (lv_at hl 1 rfl) ?_
    refine lv_if_ne (tgt := 32) hx hb d_La_inputsAreSound_25 (by decide) (fun cx => ?_) (fun cx => ?_)
    · have hf := ifn cx hf
      refine lv_iconst (v := 0) hx hb d_La_inputsAreSound_32 (by decide) ?_
      exact wb_La_inputsAreSound_33 (fu := fu) F hk_7 _ _ _ _ _ hf _ _ _ (hP.sub (ws' := [(o, .inr (4, [.ref a_raw, .int i_txs, v_a_txAt, .ref a_firstIn, v_a_firstOut, .ref a_inAt, v_a_inScript, v_a_inEnd, v_a_outAt, v_a_outScript, v_a_outEnd, .int i_end, .int i_at, .int i_ins, .int i_outs])), (a_raw, .inl (cy 0, n_raw, .inl g_raw)), (a_firstIn, .inl (cy 1, 301, .inl g_firstIn)), (a_inAt, .inl (cy 1, 73, .inl g_inAt))]) [1, 2, 0, 3] rfl) (hD.sub (ws' := [(o, .inr (4, [.ref a_raw, .int i_txs, v_a_txAt, .ref a_firstIn, v_a_firstOut, .ref a_inAt, v_a_inScript, v_a_inEnd, v_a_outAt, v_a_outScript, v_a_outEnd, .int i_end, .int i_at, .int i_ins, .int i_outs])), (a_raw, .inl (cy 0, n_raw, .inl g_raw)), (a_firstIn, .inl (cy 1, 301, .inl g_firstIn)), (a_inAt, .inl (cy 1, 73, .inl g_inAt))]) [1, 2, 0, 3] (by decide) rfl) hS (lv_sub hl [0, 1, 2] rfl)
    · have hf := ifp cx hf
      refine lv_iconst (v := 1) hx hb d_La_inputsAreSound_28 (by decide) ?_
      refine lv_goto (tgt := 33) hx hb d_La_inputsAreSound_29 (by decide) ?_
      exact wb_La_inputsAreSound_33 (fu := fu) F hk_7 _ _ _ _ _ hf _ _ _ (hP.sub (ws' := [(o, .inr (4, [.ref a_raw, .int i_txs, v_a_txAt, .ref a_firstIn, v_a_firstOut, .ref a_inAt, v_a_inScript, v_a_inEnd, v_a_outAt, v_a_outScript, v_a_outEnd, .int i_end, .int i_at, .int i_ins, .int i_outs])), (a_raw, .inl (cy 0, n_raw, .inl g_raw)), (a_firstIn, .inl (cy 1, 301, .inl g_firstIn)), (a_inAt, .inl (cy 1, 73, .inl g_inAt))]) [1, 2, 0, 3] rfl) (hD.sub (ws' := [(o, .inr (4, [.ref a_raw, .int i_txs, v_a_txAt, .ref a_firstIn, v_a_firstOut, .ref a_inAt, v_a_inScript, v_a_inEnd, v_a_outAt, v_a_outScript, v_a_outEnd, .int i_end, .int i_at, .int i_ins, .int i_outs])), (a_raw, .inl (cy 0, n_raw, .inl g_raw)), (a_firstIn, .inl (cy 1, 301, .inl g_firstIn)), (a_inAt, .inl (cy 1, 73, .inl g_inAt))]) [1, 2, 0, 3] (by decide) rfl) hS (lv_sub hl [0, 1, 2] rfl)
theorem w_La_inputsAreSound_7 {p : Program} {l : Launch} {e : Env} {s : State} {m : MethodId} {args : Array Value} {below : List Frame} {meth : Method} {c : Code} {D : va_G} {cy : Nat → ClassId} {A : Nat → Prop} {ad : Nat → Nat} {o : Nat} {v_a_txAt : Value} {v_a_firstOut : Value} {v_a_inScript : Value} {v_a_inEnd : Value} {v_a_outAt : Value} {v_a_outScript : Value} {v_a_outEnd : Value} {a_raw : Nat} {a_firstIn : Nat} {a_inAt : Nat} {i_txs : Int32} {i_end : Int32} {i_at : Int32} {i_ins : Int32} {i_outs : Int32} {n_raw : Nat} {g_raw : Nat → Int32} {g_firstIn : Nat → Int32} {g_inAt : Nat → Int32} {fu : Nat} (F : Fx p s m args meth c b_La_inputsAreSound 4 "CoinKeeper$Layout" "inputsAreSound" (some .boolean) D cy ad A) : ∀ n : Nat, I_La_inputsAreSound_7 p l e s m args below meth c D cy A ad o v_a_txAt v_a_firstOut v_a_inScript v_a_inEnd v_a_outAt v_a_outScript v_a_outEnd a_raw a_firstIn a_inAt i_txs i_end i_at i_ins i_outs n_raw g_raw g_firstIn g_inAt (x_La_inputsAreSound_7 fu i_txs i_end i_at i_ins i_outs n_raw g_raw g_firstIn g_inAt n)
  | 0 => fun _ _ _ hf => nomatch (show (none : Option (Int32)) = some _ from hf)
  | n + 1 => wb_La_inputsAreSound_7 F (w_La_inputsAreSound_7 F n)
set_option maxHeartbeats 8000000 in
set_option maxRecDepth 100000 in
theorem we_La_inputsAreSound {p : Program} {l : Launch} {e : Env} {s : State} {m : MethodId} {args : Array Value} {below : List Frame} {meth : Method} {c : Code} {D : va_G} {cy : Nat → ClassId} {A : Nat → Prop} {ad : Nat → Nat} {o : Nat} {v_a_txAt : Value} {v_a_firstOut : Value} {v_a_inScript : Value} {v_a_inEnd : Value} {v_a_outAt : Value} {v_a_outScript : Value} {v_a_outEnd : Value} {a_raw : Nat} {a_firstIn : Nat} {a_inAt : Nat} {i_txs : Int32} {i_end : Int32} {i_at : Int32} {i_ins : Int32} {i_outs : Int32} {n_raw : Nat} {g_raw : Nat → Int32} {g_firstIn : Nat → Int32} {g_inAt : Nat → Int32} {fu : Nat} (F : Fx p s m args meth c b_La_inputsAreSound 4 "CoinKeeper$Layout" "inputsAreSound" (some .boolean) D cy ad A) : I_La_inputsAreSound_e p l e s m args below meth c D cy A ad o v_a_txAt v_a_firstOut v_a_inScript v_a_inEnd v_a_outAt v_a_outScript v_a_outEnd a_raw a_firstIn a_inAt i_txs i_end i_at i_ins i_outs n_raw g_raw g_firstIn g_inAt (x_La_inputsAreSound fu i_txs i_end i_at i_ins i_outs n_raw g_raw g_firstIn g_inAt) := by
  obtain ⟨hx, hb, hr, hml, hown, hts, hlocks, hK, hA, hSt, hnm, hex⟩ := id F
  intro a1 res hf H locs ls hP hD hS hl
  unfold x_La_inputsAreSound at hf
  refine lv_aload_n hx hb d_La_inputsAreSound_0 rfl (lv_at hl 0 rfl) ?_
  refine va_get (D := D) (ci := 4) (v := .ref a_firstIn) (C := "CoinKeeper$Layout") (T := F_4) (N := 15) hx hb hts i_4 hown hK hP 0 rfl rfl 3 (by decide) (hts _ gw_276) (fun _ h9 => h9) rfl d_La_inputsAreSound_1 ?_
  refine lv_iload_n hx hb d_La_inputsAreSound_4 rfl (lv_at hl 1 rfl) ?_
  obtain ⟨hg, hf⟩ := gdp hf
  refine va_iald hx hb hK hP 2 1 rfl rfl (inb_in hg) d_La_inputsAreSound_5 ?_
  refine lv_topi (fun v1 ev => ?_)
  have hf := bn ev hf
  clear ev
  refine lv_istore_n (lv' := [(2, .int v1), (0, .ref o), (1, .int a1)]) hx hb d_La_inputsAreSound_6 rfl hl (by decide) rfl (fun ls hl => ?_)
  exact w_La_inputsAreSound_7 F fu _ _ _ hf _ _ _ hP hD hS (lv_sub hl [1, 2, 0] rfl)
theorem c_La_inputsAreSound (l : Launch) (D : va_G) (cy : Nat → ClassId) (ad : Nat → Nat) (fu : Nat) (o : Nat) (v_a_txAt : Value) (v_a_firstOut : Value) (v_a_inScript : Value) (v_a_inEnd : Value) (v_a_outAt : Value) (v_a_outScript : Value) (v_a_outEnd : Value) (a_raw : Nat) (a_firstIn : Nat) (a_inAt : Nat) (i_txs : Int32) (i_end : Int32) (i_at : Int32) (i_ins : Int32) (i_outs : Int32) (n_raw : Nat) (g_raw : Nat → Int32) (g_firstIn : Nat → Int32) (g_inAt : Nat → Int32) (a1 : Int32) (res : Int32) (hf : x_La_inputsAreSound fu i_txs i_end i_at i_ins i_outs n_raw g_raw g_firstIn g_inAt a1 = some res) (sz : Nat) : Met l ({ cls := "CoinKeeper$Layout", name := "inputsAreSound", desc := "(I)Z" } : Jvm.MethodName) (.code ({ cls := "CoinKeeper$Layout", name := "inputsAreSound", desc := "(I)Z" } : Jvm.MethodName) b_La_inputsAreSound 4 (some .boolean) :: gw) rm_La_inputsAreSound (va_Pc [.ref o, .int a1] (Pr D cy ad [(o, .inr (4, [.ref a_raw, .int i_txs, v_a_txAt, .ref a_firstIn, v_a_firstOut, .ref a_inAt, v_a_inScript, v_a_inEnd, v_a_outAt, v_a_outScript, v_a_outEnd, .int i_end, .int i_at, .int i_ins, .int i_outs])), (a_raw, .inl (cy 0, n_raw, .inl g_raw)), (a_firstIn, .inl (cy 1, 301, .inl g_firstIn)), (a_inAt, .inl (cy 1, 73, .inl g_inAt))] sz)) (q_La_inputsAreSound D cy (va_A [(o, .inr (4, [.ref a_raw, .int i_txs, v_a_txAt, .ref a_firstIn, v_a_firstOut, .ref a_inAt, v_a_inScript, v_a_inEnd, v_a_outAt, v_a_outScript, v_a_outEnd, .int i_end, .int i_at, .int i_ins, .int i_outs])), (a_raw, .inl (cy 0, n_raw, .inl g_raw)), (a_firstIn, .inl (cy 1, 301, .inl g_firstIn)), (a_inAt, .inl (cy 1, 73, .inl g_inAt))] sz) o v_a_txAt v_a_firstOut v_a_inScript v_a_inEnd v_a_outAt v_a_outScript v_a_outEnd a_raw a_firstIn a_inAt i_txs i_end i_at i_ins i_outs n_raw g_raw g_firstIn g_inAt res) 0 0 (va_A [(o, .inr (4, [.ref a_raw, .int i_txs, v_a_txAt, .ref a_firstIn, v_a_firstOut, .ref a_inAt, v_a_inScript, v_a_inEnd, v_a_outAt, v_a_outScript, v_a_outEnd, .int i_end, .int i_at, .int i_ins, .int i_outs])), (a_raw, .inl (cy 0, n_raw, .inl g_raw)), (a_firstIn, .inl (cy 1, 301, .inl g_firstIn)), (a_inAt, .inl (cy 1, 73, .inl g_inAt))] sz) :=
  q_met (Qc := fun A => q_La_inputsAreSound D cy A o v_a_txAt v_a_firstOut v_a_inScript v_a_inEnd v_a_outAt v_a_outScript v_a_outEnd a_raw a_firstIn a_inAt i_txs i_end i_at i_ins i_outs n_raw g_raw g_firstIn g_inAt res) (by decide) rfl rfl (Nat.le_of_ble_eq_true rfl) (fun p e s m below meth c ls F hP hD hS hl => we_La_inputsAreSound (fu := fu) F a1 res hf _ _ _ hP hD hS hl) sz
abbrev b_La_isFinal : ByteArray := prog_5_method_14_code
theorem d_La_isFinal_0 : decode b_La_isFinal 0 = .ok (.aload_n 0, 1) := by decide +kernel
theorem d_La_isFinal_1 : decode b_La_isFinal 1 = .ok (.getfield 39, 3) := by decide +kernel
theorem d_La_isFinal_4 : decode b_La_isFinal 4 = .ok (.aload_n 0, 1) := by decide +kernel
theorem d_La_isFinal_5 : decode b_La_isFinal 5 = .ok (.getfield 11, 3) := by decide +kernel
theorem d_La_isFinal_8 : decode b_La_isFinal 8 = .ok (.iload_n 1, 1) := by decide +kernel
theorem d_La_isFinal_9 : decode b_La_isFinal 9 = .ok (.iconst 1, 1) := by decide +kernel
theorem d_La_isFinal_10 : decode b_La_isFinal 10 = .ok (.iadd, 1) := by decide +kernel
theorem d_La_isFinal_11 : decode b_La_isFinal 11 = .ok (.iaload, 1) := by decide +kernel
theorem d_La_isFinal_12 : decode b_La_isFinal 12 = .ok (.iconst 4, 1) := by decide +kernel
theorem d_La_isFinal_13 : decode b_La_isFinal 13 = .ok (.isub, 1) := by decide +kernel
theorem d_La_isFinal_14 : decode b_La_isFinal 14 = .ok (.invokestatic 128, 3) := by decide +kernel
theorem d_La_isFinal_17 : decode b_La_isFinal 17 = .ok (.i2l, 1) := by decide +kernel
theorem d_La_isFinal_18 : decode b_La_isFinal 18 = .ok (.ldc2_w 132, 3) := by decide +kernel
theorem d_La_isFinal_21 : decode b_La_isFinal 21 = .ok (.land, 1) := by decide +kernel
theorem d_La_isFinal_22 : decode b_La_isFinal 22 = .ok (.lstore 5, 2) := by decide +kernel
theorem d_La_isFinal_24 : decode b_La_isFinal 24 = .ok (.lload 5, 2) := by decide +kernel
theorem d_La_isFinal_26 : decode b_La_isFinal 26 = .ok (.lconst 0, 1) := by decide +kernel
theorem d_La_isFinal_27 : decode b_La_isFinal 27 = .ok (.lcmp, 1) := by decide +kernel
theorem d_La_isFinal_28 : decode b_La_isFinal 28 = .ok (.ifCond .eq 27, 3) := by decide +kernel
theorem d_La_isFinal_31 : decode b_La_isFinal 31 = .ok (.lload 5, 2) := by decide +kernel
theorem d_La_isFinal_33 : decode b_La_isFinal 33 = .ok (.iload_n 2, 1) := by decide +kernel
theorem d_La_isFinal_34 : decode b_La_isFinal 34 = .ok (.i2l, 1) := by decide +kernel
theorem d_La_isFinal_35 : decode b_La_isFinal 35 = .ok (.lcmp, 1) := by decide +kernel
theorem d_La_isFinal_36 : decode b_La_isFinal 36 = .ok (.ifCond .lt 19, 3) := by decide +kernel
theorem d_La_isFinal_39 : decode b_La_isFinal 39 = .ok (.lload 5, 2) := by decide +kernel
theorem d_La_isFinal_41 : decode b_La_isFinal 41 = .ok (.ldc2_w 134, 3) := by decide +kernel
theorem d_La_isFinal_44 : decode b_La_isFinal 44 = .ok (.lcmp, 1) := by decide +kernel
theorem d_La_isFinal_45 : decode b_La_isFinal 45 = .ok (.ifCond .lt 12, 3) := by decide +kernel
theorem d_La_isFinal_48 : decode b_La_isFinal 48 = .ok (.lload 5, 2) := by decide +kernel
theorem d_La_isFinal_50 : decode b_La_isFinal 50 = .ok (.lload_n 3, 1) := by decide +kernel
theorem d_La_isFinal_51 : decode b_La_isFinal 51 = .ok (.lcmp, 1) := by decide +kernel
theorem d_La_isFinal_52 : decode b_La_isFinal 52 = .ok (.ifCond .ge 5, 3) := by decide +kernel
theorem d_La_isFinal_55 : decode b_La_isFinal 55 = .ok (.iconst 1, 1) := by decide +kernel
theorem d_La_isFinal_56 : decode b_La_isFinal 56 = .ok (.ireturn, 1) := by decide +kernel
theorem d_La_isFinal_57 : decode b_La_isFinal 57 = .ok (.aload_n 0, 1) := by decide +kernel
theorem d_La_isFinal_58 : decode b_La_isFinal 58 = .ok (.getfield 15, 3) := by decide +kernel
theorem d_La_isFinal_61 : decode b_La_isFinal 61 = .ok (.iload_n 1, 1) := by decide +kernel
theorem d_La_isFinal_62 : decode b_La_isFinal 62 = .ok (.iaload, 1) := by decide +kernel
theorem d_La_isFinal_63 : decode b_La_isFinal 63 = .ok (.istore 7, 2) := by decide +kernel
theorem d_La_isFinal_65 : decode b_La_isFinal 65 = .ok (.iload 7, 2) := by decide +kernel
theorem d_La_isFinal_67 : decode b_La_isFinal 67 = .ok (.aload_n 0, 1) := by decide +kernel
theorem d_La_isFinal_68 : decode b_La_isFinal 68 = .ok (.getfield 15, 3) := by decide +kernel
theorem d_La_isFinal_71 : decode b_La_isFinal 71 = .ok (.iload_n 1, 1) := by decide +kernel
theorem d_La_isFinal_72 : decode b_La_isFinal 72 = .ok (.iconst 1, 1) := by decide +kernel
theorem d_La_isFinal_73 : decode b_La_isFinal 73 = .ok (.iadd, 1) := by decide +kernel
theorem d_La_isFinal_74 : decode b_La_isFinal 74 = .ok (.iaload, 1) := by decide +kernel
theorem d_La_isFinal_75 : decode b_La_isFinal 75 = .ok (.if_icmp .ge 29, 3) := by decide +kernel
theorem d_La_isFinal_78 : decode b_La_isFinal 78 = .ok (.aload_n 0, 1) := by decide +kernel
theorem d_La_isFinal_79 : decode b_La_isFinal 79 = .ok (.getfield 39, 3) := by decide +kernel
theorem d_La_isFinal_82 : decode b_La_isFinal 82 = .ok (.aload_n 0, 1) := by decide +kernel
theorem d_La_isFinal_83 : decode b_La_isFinal 83 = .ok (.getfield 27, 3) := by decide +kernel
theorem d_La_isFinal_86 : decode b_La_isFinal 86 = .ok (.iload 7, 2) := by decide +kernel
theorem d_La_isFinal_88 : decode b_La_isFinal 88 = .ok (.iaload, 1) := by decide +kernel
theorem d_La_isFinal_89 : decode b_La_isFinal 89 = .ok (.invokestatic 128, 3) := by decide +kernel
theorem d_La_isFinal_92 : decode b_La_isFinal 92 = .ok (.iconst (-1), 1) := by decide +kernel
theorem d_La_isFinal_93 : decode b_La_isFinal 93 = .ok (.if_icmp .eq 5, 3) := by decide +kernel
theorem d_La_isFinal_96 : decode b_La_isFinal 96 = .ok (.iconst 0, 1) := by decide +kernel
theorem d_La_isFinal_97 : decode b_La_isFinal 97 = .ok (.ireturn, 1) := by decide +kernel
theorem d_La_isFinal_98 : decode b_La_isFinal 98 = .ok (.iinc 7 1, 3) := by decide +kernel
theorem d_La_isFinal_101 : decode b_La_isFinal 101 = .ok (.goto (-36), 3) := by decide +kernel
theorem d_La_isFinal_104 : decode b_La_isFinal 104 = .ok (.iconst 1, 1) := by decide +kernel
theorem d_La_isFinal_105 : decode b_La_isFinal 105 = .ok (.ireturn, 1) := by decide +kernel
abbrev rm_La_isFinal : Room := { frames := 1, cells := 0, slots := 0, locals := 21 }
abbrev q_La_isFinal (D : va_G) (cy : Nat → ClassId) (A : Nat → Prop) (o : Nat) (v_a_firstOut : Value) (v_a_inAt : Value) (v_a_inScript : Value) (v_a_outAt : Value) (v_a_outScript : Value) (v_a_outEnd : Value) (a_raw : Nat) (a_txAt : Nat) (a_firstIn : Nat) (a_inEnd : Nat) (i_txs : Int32) (i_end : Int32) (i_at : Int32) (i_ins : Int32) (i_outs : Int32) (n_raw : Nat) (g_raw : Nat → Int32) (g_txAt : Nat → Int32) (g_firstIn : Nat → Int32) (g_inEnd : Nat → Int32) (res : Int32) : Array Value → State → Outcome → State → Prop := va_Qi (fun r' (_ : Unit) => r' = res) (fun _ t => Po D cy A [(o, .inr (4, [.ref a_raw, .int i_txs, .ref a_txAt, .ref a_firstIn, v_a_firstOut, v_a_inAt, v_a_inScript, .ref a_inEnd, v_a_outAt, v_a_outScript, v_a_outEnd, .int i_end, .int i_at, .int i_ins, .int i_outs])), (a_raw, .inl (cy 0, n_raw, .inl g_raw)), (a_txAt, .inl (cy 1, 301, .inl g_txAt)), (a_firstIn, .inl (cy 1, 301, .inl g_firstIn)), (a_inEnd, .inl (cy 1, 73, .inl g_inEnd))] t) A
def I_La_isFinal_65 (p : Program) (l : Launch) (e : Env) (s : State) (m : MethodId) (args : Array Value) (below : List Frame) (meth : Method) (c : Code) (D : va_G) (cy : Nat → ClassId) (A : Nat → Prop) (ad : Nat → Nat) (o : Nat) (v_a_firstOut : Value) (v_a_inAt : Value) (v_a_inScript : Value) (v_a_outAt : Value) (v_a_outScript : Value) (v_a_outEnd : Value) (a_raw : Nat) (a_txAt : Nat) (a_firstIn : Nat) (a_inEnd : Nat) (i_txs : Int32) (i_end : Int32) (i_at : Int32) (i_ins : Int32) (i_outs : Int32) (n_raw : Nat) (g_raw : Nat → Int32) (g_txAt : Nat → Int32) (g_firstIn : Nat → Int32) (g_inEnd : Nat → Int32) (k : Int32 → Int32 → Option (Int32)) : Prop :=
  ∀ (x1 : Int32) (x7 : Int32) (res : Int32), k x1 x7 = some res → ∀ (H : Heap) (locs : List Loc) (ls : Array Slot), va_P D classes [(o, .inr (4, [.ref a_raw, .int i_txs, .ref a_txAt, .ref a_firstIn, v_a_firstOut, v_a_inAt, v_a_inScript, .ref a_inEnd, v_a_outAt, v_a_outScript, v_a_outEnd, .int i_end, .int i_at, .int i_ins, .int i_outs])), (a_raw, .inl (cy 0, n_raw, .inl g_raw)), (a_txAt, .inl (cy 1, 301, .inl g_txAt)), (a_firstIn, .inl (cy 1, 301, .inl g_firstIn)), (a_inEnd, .inl (cy 1, 73, .inl g_inEnd))] H → va_D A [(o, .inr (4, [.ref a_raw, .int i_txs, .ref a_txAt, .ref a_firstIn, v_a_firstOut, v_a_inAt, v_a_inScript, .ref a_inEnd, v_a_outAt, v_a_outScript, v_a_outEnd, .int i_end, .int i_at, .int i_ins, .int i_outs])), (a_raw, .inl (cy 0, n_raw, .inl g_raw)), (a_txAt, .inl (cy 1, 301, .inl g_txAt)), (a_firstIn, .inl (cy 1, 301, .inl g_firstIn)), (a_inEnd, .inl (cy 1, 73, .inl g_inEnd))] → va_S A s.heap H locs → lv_has ls 8 [(0, .ref o), (1, .int x1), (7, .int x7)] → W p l e rm_La_isFinal s m args below meth c H locs 0 0 (MQ below (q_La_isFinal D cy A o v_a_firstOut v_a_inAt v_a_inScript v_a_outAt v_a_outScript v_a_outEnd a_raw a_txAt a_firstIn a_inEnd i_txs i_end i_at i_ins i_outs n_raw g_raw g_txAt g_firstIn g_inEnd res) args s 0 0 A) (F0 m 65 ls [])
def I_La_isFinal_57 (p : Program) (l : Launch) (e : Env) (s : State) (m : MethodId) (args : Array Value) (below : List Frame) (meth : Method) (c : Code) (D : va_G) (cy : Nat → ClassId) (A : Nat → Prop) (ad : Nat → Nat) (o : Nat) (v_a_firstOut : Value) (v_a_inAt : Value) (v_a_inScript : Value) (v_a_outAt : Value) (v_a_outScript : Value) (v_a_outEnd : Value) (a_raw : Nat) (a_txAt : Nat) (a_firstIn : Nat) (a_inEnd : Nat) (i_txs : Int32) (i_end : Int32) (i_at : Int32) (i_ins : Int32) (i_outs : Int32) (n_raw : Nat) (g_raw : Nat → Int32) (g_txAt : Nat → Int32) (g_firstIn : Nat → Int32) (g_inEnd : Nat → Int32) (k : Int32 → Option (Int32)) : Prop :=
  ∀ (x1 : Int32) (res : Int32), k x1 = some res → ∀ (H : Heap) (locs : List Loc) (ls : Array Slot), va_P D classes [(o, .inr (4, [.ref a_raw, .int i_txs, .ref a_txAt, .ref a_firstIn, v_a_firstOut, v_a_inAt, v_a_inScript, .ref a_inEnd, v_a_outAt, v_a_outScript, v_a_outEnd, .int i_end, .int i_at, .int i_ins, .int i_outs])), (a_raw, .inl (cy 0, n_raw, .inl g_raw)), (a_txAt, .inl (cy 1, 301, .inl g_txAt)), (a_firstIn, .inl (cy 1, 301, .inl g_firstIn)), (a_inEnd, .inl (cy 1, 73, .inl g_inEnd))] H → va_D A [(o, .inr (4, [.ref a_raw, .int i_txs, .ref a_txAt, .ref a_firstIn, v_a_firstOut, v_a_inAt, v_a_inScript, .ref a_inEnd, v_a_outAt, v_a_outScript, v_a_outEnd, .int i_end, .int i_at, .int i_ins, .int i_outs])), (a_raw, .inl (cy 0, n_raw, .inl g_raw)), (a_txAt, .inl (cy 1, 301, .inl g_txAt)), (a_firstIn, .inl (cy 1, 301, .inl g_firstIn)), (a_inEnd, .inl (cy 1, 73, .inl g_inEnd))] → va_S A s.heap H locs → lv_has ls 8 [(0, .ref o), (1, .int x1)] → W p l e rm_La_isFinal s m args below meth c H locs 0 0 (MQ below (q_La_isFinal D cy A o v_a_firstOut v_a_inAt v_a_inScript v_a_outAt v_a_outScript v_a_outEnd a_raw a_txAt a_firstIn a_inEnd i_txs i_end i_at i_ins i_outs n_raw g_raw g_txAt g_firstIn g_inEnd res) args s 0 0 A) (F0 m 57 ls [])
def I_La_isFinal_e (p : Program) (l : Launch) (e : Env) (s : State) (m : MethodId) (args : Array Value) (below : List Frame) (meth : Method) (c : Code) (D : va_G) (cy : Nat → ClassId) (A : Nat → Prop) (ad : Nat → Nat) (o : Nat) (v_a_firstOut : Value) (v_a_inAt : Value) (v_a_inScript : Value) (v_a_outAt : Value) (v_a_outScript : Value) (v_a_outEnd : Value) (a_raw : Nat) (a_txAt : Nat) (a_firstIn : Nat) (a_inEnd : Nat) (i_txs : Int32) (i_end : Int32) (i_at : Int32) (i_ins : Int32) (i_outs : Int32) (n_raw : Nat) (g_raw : Nat → Int32) (g_txAt : Nat → Int32) (g_firstIn : Nat → Int32) (g_inEnd : Nat → Int32) (k : Int32 → Int32 → Int64 → Option (Int32)) : Prop :=
  ∀ (a1 : Int32) (a2 : Int32) (a3 : Int64) (res : Int32), k a1 a2 a3 = some res → ∀ (H : Heap) (locs : List Loc) (ls : Array Slot), va_P D classes [(o, .inr (4, [.ref a_raw, .int i_txs, .ref a_txAt, .ref a_firstIn, v_a_firstOut, v_a_inAt, v_a_inScript, .ref a_inEnd, v_a_outAt, v_a_outScript, v_a_outEnd, .int i_end, .int i_at, .int i_ins, .int i_outs])), (a_raw, .inl (cy 0, n_raw, .inl g_raw)), (a_txAt, .inl (cy 1, 301, .inl g_txAt)), (a_firstIn, .inl (cy 1, 301, .inl g_firstIn)), (a_inEnd, .inl (cy 1, 73, .inl g_inEnd))] H → va_D A [(o, .inr (4, [.ref a_raw, .int i_txs, .ref a_txAt, .ref a_firstIn, v_a_firstOut, v_a_inAt, v_a_inScript, .ref a_inEnd, v_a_outAt, v_a_outScript, v_a_outEnd, .int i_end, .int i_at, .int i_ins, .int i_outs])), (a_raw, .inl (cy 0, n_raw, .inl g_raw)), (a_txAt, .inl (cy 1, 301, .inl g_txAt)), (a_firstIn, .inl (cy 1, 301, .inl g_firstIn)), (a_inEnd, .inl (cy 1, 73, .inl g_inEnd))] → va_S A s.heap H locs → lv_has ls 8 [(0, .ref o), (1, .int a1), (2, .int a2), (3, .long a3)] → W p l e rm_La_isFinal s m args below meth c H locs 0 0 (MQ below (q_La_isFinal D cy A o v_a_firstOut v_a_inAt v_a_inScript v_a_outAt v_a_outScript v_a_outEnd a_raw a_txAt a_firstIn a_inEnd i_txs i_end i_at i_ins i_outs n_raw g_raw g_txAt g_firstIn g_inEnd res) args s 0 0 A) (F0 m 0 ls [])
set_option maxHeartbeats 8000000 in
set_option maxRecDepth 100000 in
theorem wb_La_isFinal_65 {p : Program} {l : Launch} {e : Env} {s : State} {m : MethodId} {args : Array Value} {below : List Frame} {meth : Method} {c : Code} {D : va_G} {cy : Nat → ClassId} {A : Nat → Prop} {ad : Nat → Nat} {o : Nat} {v_a_firstOut : Value} {v_a_inAt : Value} {v_a_inScript : Value} {v_a_outAt : Value} {v_a_outScript : Value} {v_a_outEnd : Value} {a_raw : Nat} {a_txAt : Nat} {a_firstIn : Nat} {a_inEnd : Nat} {i_txs : Int32} {i_end : Int32} {i_at : Int32} {i_ins : Int32} {i_outs : Int32} {n_raw : Nat} {g_raw : Nat → Int32} {g_txAt : Nat → Int32} {g_firstIn : Nat → Int32} {g_inEnd : Nat → Int32} {fu : Nat} {k_65 : Int32 → Int32 → Option (Int32)} (F : Fx p s m args meth c b_La_isFinal 8 "CoinKeeper$Layout" "isFinal" (some .boolean) D cy ad A) (hk_65 : I_La_isFinal_65 p l e s m args below meth c D cy A ad o v_a_firstOut v_a_inAt v_a_inScript v_a_outAt v_a_outScript v_a_outEnd a_raw a_txAt a_firstIn a_inEnd i_txs i_end i_at i_ins i_outs n_raw g_raw g_txAt g_firstIn g_inEnd k_65) : I_La_isFinal_65 p l e s m args below meth c D cy A ad o v_a_firstOut v_a_inAt v_a_inScript v_a_outAt v_a_outScript v_a_outEnd a_raw a_txAt a_firstIn a_inEnd i_txs i_end i_at i_ins i_outs n_raw g_raw g_txAt g_firstIn g_inEnd (xb_La_isFinal_65 fu i_txs i_end i_at i_ins i_outs n_raw g_raw g_txAt g_firstIn g_inEnd k_65) := by
  obtain ⟨hx, hb, hr, hml, hown, hts, hlocks, hK, hA, hSt, hnm, hex⟩ := id F
  intro x1 x7 res hf H locs ls hP hD hS hl
  unfold xb_La_isFinal_65 at hf
  refine lv_iload hx hb d_La_isFinal_65 (lv_at hl 2 rfl) ?_
  refine lv_aload_n hx hb d_La_isFinal_67 rfl (lv_at hl 0 rfl) ?_
  refine va_get (D := D) (ci := 4) (v := .ref a_firstIn) (C := "CoinKeeper$Layout") (T := F_4) (N := 15) hx hb hts i_4 hown hK hP 0 rfl rfl 3 (by decide) (hts _ gw_276) (fun _ h9 => h9) rfl d_La_isFinal_68 ?_
  refine lv_iload_n hx hb d_La_isFinal_71 rfl (lv_at hl 1 rfl) ?_
  refine lv_iconst (v := 1) hx hb d_La_isFinal_72 (by decide) ?_
  refine lv_iadd hx hb d_La_isFinal_73 ?_
  refine lv_topi (fun v1 ev => ?_)
  have hf := bn ev hf
  clear ev
  obtain ⟨hg, hf⟩ := gdp hf
  refine va_iald hx hb hK hP 3 1 rfl rfl (inb_in hg) d_La_isFinal_74 ?_
  refine lv_topi (fun v2 ev => ?_)
  have hf := bn ev hf
  clear ev
  refine lv_icmp_ge (tgt := 104) hx hb d_La_isFinal_75 (by decide) (fun cx => ?_) (fun cx => ?_)
  · have hf := ifp cx hf
    refine lv_iconst (v := 1) hx hb d_La_isFinal_104 (by decide) ?_
    obtain rfl := Option.some.inj hf
    exact q_rz hx hb hr hlocks hK hP hD hS (isb_n (v := 1) (by decide)) d_La_isFinal_105
  · have hf := ifn cx hf
    refine lv_aload_n hx hb d_La_isFinal_78 rfl (lv_at hl 0 rfl) ?_
    refine va_get (D := D) (ci := 4) (v := .ref a_raw) (C := "CoinKeeper$Layout") (T := F_4) (N := 15) hx hb hts i_4 hown hK hP 0 rfl rfl 0 (by decide) (hts _ gw_269) (fun _ h9 => h9) rfl d_La_isFinal_79 ?_
    refine lv_aload_n hx hb d_La_isFinal_82 rfl (lv_at hl 0 rfl) ?_
    refine va_get (D := D) (ci := 4) (v := .ref a_inEnd) (C := "CoinKeeper$Layout") (T := F_4) (N := 15) hx hb hts i_4 hown hK hP 0 rfl rfl 7 (by decide) (hts _ gw_287) (fun _ h9 => h9) rfl d_La_isFinal_83 ?_
    refine lv_iload hx hb d_La_isFinal_86 (lv_at hl 2 rfl) ?_
    obtain ⟨hg, hf⟩ := gdp hf
    refine va_iald hx hb hK hP 4 1 rfl rfl (inb_in hg) d_La_isFinal_88 ?_
    refine lv_topi (fun v3 ev => ?_)
    have hf := bn ev hf
    clear ev
    obtain ⟨v4, hc, hf⟩ := bdp1 hf
    refine q_ai (wr := [(o, .inr (4, [.ref a_raw, .int i_txs, .ref a_txAt, .ref a_firstIn, v_a_firstOut, v_a_inAt, v_a_inScript, .ref a_inEnd, v_a_outAt, v_a_outScript, v_a_outEnd, .int i_end, .int i_at, .int i_ins, .int i_outs])), (a_txAt, .inl (cy 1, 301, .inl g_txAt)), (a_firstIn, .inl (cy 1, 301, .inl g_firstIn)), (a_inEnd, .inl (cy 1, 73, .inl g_inEnd))]) (va_runSN (As := [.ref a_raw, .int v3]) (rest := []) ⟨hx, hb, hml, hown, hts⟩ (c_K_word l D cy ad fu a_raw n_raw g_raw v3 _ hc H.size) ⟨q_cN hts hSt.2.1 gw_383 gw_1 (List.mem_of_getElem? (i := 16) rfl) hdc_29 ⟨by decide, by decide⟩, hts _ gw_382, trivial⟩ (q_pre (hP.sub [1] rfl) (hD.sub [1] (by decide) rfl) hK hSt hS (va_free hD hS hA [1] rfl) _) rfl rfl hl.1 rfl (lv_room (Nat.le_of_ble_eq_true rfl)) d_La_isFinal_89 ⟨Nat.le_of_ble_eq_true rfl, Nat.le_of_ble_eq_true rfl⟩) hP hD hS hA [1] [0, 2, 3, 4] rfl rfl (by decide) (by decide) (fun H locs hP hD hS => ?_)
    clear hc
    have hP : va_P D classes [(o, .inr (4, [.ref a_raw, .int i_txs, .ref a_txAt, .ref a_firstIn, v_a_firstOut, v_a_inAt, v_a_inScript, .ref a_inEnd, v_a_outAt, v_a_outScript, v_a_outEnd, .int i_end, .int i_at, .int i_ins, .int i_outs])), (a_txAt, .inl (cy 1, 301, .inl g_txAt)), (a_firstIn, .inl (cy 1, 301, .inl g_firstIn)), (a_inEnd, .inl (cy 1, 73, .inl g_inEnd)), (a_raw, .inl (cy 0, n_raw, .inl g_raw))] H := hP
    have hD : va_D A [(o, .inr (4, [.ref a_raw, .int i_txs, .ref a_txAt, .ref a_firstIn, v_a_firstOut, v_a_inAt, v_a_inScript, .ref a_inEnd, v_a_outAt, v_a_outScript, v_a_outEnd, .int i_end, .int i_at, .int i_ins, .int i_outs])), (a_txAt, .inl (cy 1, 301, .inl g_txAt)), (a_firstIn, .inl (cy 1, 301, .inl g_firstIn)), (a_inEnd, .inl (cy 1, 73, .inl g_inEnd)), (a_raw, .inl (cy 0, n_raw, .inl g_raw))] := hD
    refine lv_iconst (v := (-1)) hx hb d_La_isFinal_92 (by decide) ?_
    refine lv_icmp_eq (tgt := 98) hx hb d_La_isFinal_93 (by decide) (fun cx => ?_) (fun cx => ?_)
    · have hf := ifp cx hf
      obtain ⟨v5, ev, hf⟩ := bne hf
      refine lv_iinc (v := v5) (lv' := [(7, .int v5), (0, .ref o), (1, .int x1)]) hx hb d_La_isFinal_98 hl (k := 2) rfl (by rw [ev]; rfl) (by decide) rfl (fun ls hl => ?_)
      clear ev
      refine lv_goto (tgt := 65) hx hb d_La_isFinal_101 (by decide) ?_
      exact hk_65 _ _ _ hf _ _ _ (hP.sub (ws' := [(o, .inr (4, [.ref a_raw, .int i_txs, .ref a_txAt, .ref a_firstIn, v_a_firstOut, v_a_inAt, v_a_inScript, .ref a_inEnd, v_a_outAt, v_a_outScript, v_a_outEnd, .int i_end, .int i_at, .int i_ins, .int i_outs])), (a_raw, .inl (cy 0, n_raw, .inl g_raw)), (a_txAt, .inl (cy 1, 301, .inl g_txAt)), (a_firstIn, .inl (cy 1, 301, .inl g_firstIn)), (a_inEnd, .inl (cy 1, 73, .inl g_inEnd))]) [0, 4, 1, 2, 3] rfl) (hD.sub (ws' := [(o, .inr (4, [.ref a_raw, .int i_txs, .ref a_txAt, .ref a_firstIn, v_a_firstOut, v_a_inAt, v_a_inScript, .ref a_inEnd, v_a_outAt, v_a_outScript, v_a_outEnd, .int i_end, .int i_at, .int i_ins, .int i_outs])), (a_raw, .inl (cy 0, n_raw, .inl g_raw)), (a_txAt, .inl (cy 1, 301, .inl g_txAt)), (a_firstIn, .inl (cy 1, 301, .inl g_firstIn)), (a_inEnd, .inl (cy 1, 73, .inl g_inEnd))]) [0, 4, 1, 2, 3] (by decide) rfl) hS (lv_sub hl [1, 2, 0] rfl)
    · have hf := ifn cx hf
      refine lv_iconst (v := 0) hx hb d_La_isFinal_96 (by decide) ?_
      obtain rfl := Option.some.inj hf
      exact q_rz hx hb hr hlocks hK (hP.sub [0, 4, 1, 2, 3] rfl) (hD.sub [0, 4, 1, 2, 3] (by decide) rfl) hS (isb_n (v := 0) (by decide)) d_La_isFinal_97
theorem w_La_isFinal_65 {p : Program} {l : Launch} {e : Env} {s : State} {m : MethodId} {args : Array Value} {below : List Frame} {meth : Method} {c : Code} {D : va_G} {cy : Nat → ClassId} {A : Nat → Prop} {ad : Nat → Nat} {o : Nat} {v_a_firstOut : Value} {v_a_inAt : Value} {v_a_inScript : Value} {v_a_outAt : Value} {v_a_outScript : Value} {v_a_outEnd : Value} {a_raw : Nat} {a_txAt : Nat} {a_firstIn : Nat} {a_inEnd : Nat} {i_txs : Int32} {i_end : Int32} {i_at : Int32} {i_ins : Int32} {i_outs : Int32} {n_raw : Nat} {g_raw : Nat → Int32} {g_txAt : Nat → Int32} {g_firstIn : Nat → Int32} {g_inEnd : Nat → Int32} {fu : Nat} (F : Fx p s m args meth c b_La_isFinal 8 "CoinKeeper$Layout" "isFinal" (some .boolean) D cy ad A) : ∀ n : Nat, I_La_isFinal_65 p l e s m args below meth c D cy A ad o v_a_firstOut v_a_inAt v_a_inScript v_a_outAt v_a_outScript v_a_outEnd a_raw a_txAt a_firstIn a_inEnd i_txs i_end i_at i_ins i_outs n_raw g_raw g_txAt g_firstIn g_inEnd (x_La_isFinal_65 fu i_txs i_end i_at i_ins i_outs n_raw g_raw g_txAt g_firstIn g_inEnd n)
  | 0 => fun _ _ _ hf => nomatch (show (none : Option (Int32)) = some _ from hf)
  | n + 1 => wb_La_isFinal_65 F (w_La_isFinal_65 F n)
set_option maxHeartbeats 8000000 in
set_option maxRecDepth 100000 in
theorem wb_La_isFinal_57 {p : Program} {l : Launch} {e : Env} {s : State} {m : MethodId} {args : Array Value} {below : List Frame} {meth : Method} {c : Code} {D : va_G} {cy : Nat → ClassId} {A : Nat → Prop} {ad : Nat → Nat} {o : Nat} {v_a_firstOut : Value} {v_a_inAt : Value} {v_a_inScript : Value} {v_a_outAt : Value} {v_a_outScript : Value} {v_a_outEnd : Value} {a_raw : Nat} {a_txAt : Nat} {a_firstIn : Nat} {a_inEnd : Nat} {i_txs : Int32} {i_end : Int32} {i_at : Int32} {i_ins : Int32} {i_outs : Int32} {n_raw : Nat} {g_raw : Nat → Int32} {g_txAt : Nat → Int32} {g_firstIn : Nat → Int32} {g_inEnd : Nat → Int32} {fu : Nat} (F : Fx p s m args meth c b_La_isFinal 8 "CoinKeeper$Layout" "isFinal" (some .boolean) D cy ad A) : I_La_isFinal_57 p l e s m args below meth c D cy A ad o v_a_firstOut v_a_inAt v_a_inScript v_a_outAt v_a_outScript v_a_outEnd a_raw a_txAt a_firstIn a_inEnd i_txs i_end i_at i_ins i_outs n_raw g_raw g_txAt g_firstIn g_inEnd (xb_La_isFinal_57 fu i_txs i_end i_at i_ins i_outs n_raw g_raw g_txAt g_firstIn g_inEnd) := by
  obtain ⟨hx, hb, hr, hml, hown, hts, hlocks, hK, hA, hSt, hnm, hex⟩ := id F
  intro x1 res hf H locs ls hP hD hS hl
  unfold xb_La_isFinal_57 at hf
  refine lv_aload_n hx hb d_La_isFinal_57 rfl (lv_at hl 0 rfl) ?_
  refine va_get (D := D) (ci := 4) (v := .ref a_firstIn) (C := "CoinKeeper$Layout") (T := F_4) (N := 15) hx hb hts i_4 hown hK hP 0 rfl rfl 3 (by decide) (hts _ gw_276) (fun _ h9 => h9) rfl d_La_isFinal_58 ?_
  refine lv_iload_n hx hb d_La_isFinal_61 rfl (lv_at hl 1 rfl) ?_
  obtain ⟨hg, hf⟩ := gdp hf
  refine va_iald hx hb hK hP 3 1 rfl rfl (inb_in hg) d_La_isFinal_62 ?_
  refine lv_topi (fun v1 ev => ?_)
  have hf := bn ev hf
  clear ev
  refine lv_istore (lv' := [(7, .int v1), (0, .ref o), (1, .int x1)]) hx hb d_La_isFinal_63 hl (by decide) rfl (fun ls hl => ?_)
  exact w_La_isFinal_65 F fu _ _ _ hf _ _ _ hP hD hS (lv_sub hl [1, 2, 0] rfl)
set_option maxHeartbeats 8000000 in
set_option maxRecDepth 100000 in
theorem we_La_isFinal {p : Program} {l : Launch} {e : Env} {s : State} {m : MethodId} {args : Array Value} {below : List Frame} {meth : Method} {c : Code} {D : va_G} {cy : Nat → ClassId} {A : Nat → Prop} {ad : Nat → Nat} {o : Nat} {v_a_firstOut : Value} {v_a_inAt : Value} {v_a_inScript : Value} {v_a_outAt : Value} {v_a_outScript : Value} {v_a_outEnd : Value} {a_raw : Nat} {a_txAt : Nat} {a_firstIn : Nat} {a_inEnd : Nat} {i_txs : Int32} {i_end : Int32} {i_at : Int32} {i_ins : Int32} {i_outs : Int32} {n_raw : Nat} {g_raw : Nat → Int32} {g_txAt : Nat → Int32} {g_firstIn : Nat → Int32} {g_inEnd : Nat → Int32} {fu : Nat} (F : Fx p s m args meth c b_La_isFinal 8 "CoinKeeper$Layout" "isFinal" (some .boolean) D cy ad A) : I_La_isFinal_e p l e s m args below meth c D cy A ad o v_a_firstOut v_a_inAt v_a_inScript v_a_outAt v_a_outScript v_a_outEnd a_raw a_txAt a_firstIn a_inEnd i_txs i_end i_at i_ins i_outs n_raw g_raw g_txAt g_firstIn g_inEnd (x_La_isFinal fu i_txs i_end i_at i_ins i_outs n_raw g_raw g_txAt g_firstIn g_inEnd) := by
  obtain ⟨hx, hb, hr, hml, hown, hts, hlocks, hK, hA, hSt, hnm, hex⟩ := id F
  intro a1 a2 a3 res hf H locs ls hP hD hS hl
  unfold x_La_isFinal at hf
  refine lv_aload_n hx hb d_La_isFinal_0 rfl (lv_at hl 0 rfl) ?_
  refine va_get (D := D) (ci := 4) (v := .ref a_raw) (C := "CoinKeeper$Layout") (T := F_4) (N := 15) hx hb hts i_4 hown hK hP 0 rfl rfl 0 (by decide) (hts _ gw_269) (fun _ h9 => h9) rfl d_La_isFinal_1 ?_
  refine lv_aload_n hx hb d_La_isFinal_4 rfl (lv_at hl 0 rfl) ?_
  refine va_get (D := D) (ci := 4) (v := .ref a_txAt) (C := "CoinKeeper$Layout") (T := F_4) (N := 15) hx hb hts i_4 hown hK hP 0 rfl rfl 2 (by decide) (hts _ gw_274) (fun _ h9 => h9) rfl d_La_isFinal_5 ?_
  refine lv_iload_n hx hb d_La_isFinal_8 rfl (lv_at hl 1 rfl) ?_
  refine lv_iconst (v := 1) hx hb d_La_isFinal_9 (by decide) ?_
  refine lv_iadd hx hb d_La_isFinal_10 ?_
  refine lv_topi (fun v1 ev => ?_)
  have hf := bn ev hf
  clear ev
  obtain ⟨hg, hf⟩ := gdp hf
  refine va_iald hx hb hK hP 2 1 rfl rfl (inb_in hg) d_La_isFinal_11 ?_
  refine lv_topi (fun v2 ev => ?_)
  have hf := bn ev hf
  clear ev
  refine lv_iconst (v := 4) hx hb d_La_isFinal_12 (by decide) ?_
  refine lv_isub hx hb d_La_isFinal_13 ?_
  refine lv_topi (fun v3 ev => ?_)
  have hf := bn ev hf
  clear ev
  obtain ⟨v4, hc, hf⟩ := bdp1 hf
  refine q_ai (wr := [(o, .inr (4, [.ref a_raw, .int i_txs, .ref a_txAt, .ref a_firstIn, v_a_firstOut, v_a_inAt, v_a_inScript, .ref a_inEnd, v_a_outAt, v_a_outScript, v_a_outEnd, .int i_end, .int i_at, .int i_ins, .int i_outs])), (a_txAt, .inl (cy 1, 301, .inl g_txAt)), (a_firstIn, .inl (cy 1, 301, .inl g_firstIn)), (a_inEnd, .inl (cy 1, 73, .inl g_inEnd))]) (va_runSN (As := [.ref a_raw, .int v3]) (rest := []) ⟨hx, hb, hml, hown, hts⟩ (c_K_word l D cy ad fu a_raw n_raw g_raw v3 _ hc H.size) ⟨q_cN hts hSt.2.1 gw_383 gw_1 (List.mem_of_getElem? (i := 16) rfl) hdc_29 ⟨by decide, by decide⟩, hts _ gw_382, trivial⟩ (q_pre (hP.sub [1] rfl) (hD.sub [1] (by decide) rfl) hK hSt hS (va_free hD hS hA [1] rfl) _) rfl rfl hl.1 rfl (lv_room (Nat.le_of_ble_eq_true rfl)) d_La_isFinal_14 ⟨Nat.le_of_ble_eq_true rfl, Nat.le_of_ble_eq_true rfl⟩) hP hD hS hA [1] [0, 2, 3, 4] rfl rfl (by decide) (by decide) (fun H locs hP hD hS => ?_)
  clear hc
  have hP : va_P D classes [(o, .inr (4, [.ref a_raw, .int i_txs, .ref a_txAt, .ref a_firstIn, v_a_firstOut, v_a_inAt, v_a_inScript, .ref a_inEnd, v_a_outAt, v_a_outScript, v_a_outEnd, .int i_end, .int i_at, .int i_ins, .int i_outs])), (a_txAt, .inl (cy 1, 301, .inl g_txAt)), (a_firstIn, .inl (cy 1, 301, .inl g_firstIn)), (a_inEnd, .inl (cy 1, 73, .inl g_inEnd)), (a_raw, .inl (cy 0, n_raw, .inl g_raw))] H := hP
  have hD : va_D A [(o, .inr (4, [.ref a_raw, .int i_txs, .ref a_txAt, .ref a_firstIn, v_a_firstOut, v_a_inAt, v_a_inScript, .ref a_inEnd, v_a_outAt, v_a_outScript, v_a_outEnd, .int i_end, .int i_at, .int i_ins, .int i_outs])), (a_txAt, .inl (cy 1, 301, .inl g_txAt)), (a_firstIn, .inl (cy 1, 301, .inl g_firstIn)), (a_inEnd, .inl (cy 1, 73, .inl g_inEnd)), (a_raw, .inl (cy 0, n_raw, .inl g_raw))] := hD
  refine lv_i2l hx hb d_La_isFinal_17 rfl ?_
  refine lv_topl (fun v5 ev => ?_)
  have hf := bn ev hf
  clear ev
  refine lv_ldc2 (v := 4294967295) hx hb hown (hts _ gw_803) d_La_isFinal_18 ?_
  refine lv_land hx hb d_La_isFinal_21 ?_
  refine lv_topl (fun v6 ev => ?_)
  have hf := bn ev hf
  clear ev
  refine lv_lstore (lv' := [(5, .long v6), (0, .ref o), (1, .int a1), (2, .int a2), (3, .long a3)]) hx hb d_La_isFinal_22 hl (by decide) rfl (fun ls hl => ?_)
  refine lv_lload hx hb d_La_isFinal_24 (lv_at hl 0 rfl) ?_
  refine lv_lconst (v := 0) hx hb d_La_isFinal_26 (by decide) ?_
  refine W.lcmp hx hb d_La_isFinal_27 ?_
  refine lv_if_eq (tgt := 55) hx hb d_La_isFinal_28 (by decide) (fun cx => ?_) (fun cx => ?_)
  · have hf := ifp cx hf
    refine lv_iconst (v := 1) hx hb d_La_isFinal_55 (by decide) ?_
    obtain rfl := Option.some.inj hf
    exact q_rz hx hb hr hlocks hK (hP.sub [0, 4, 1, 2, 3] rfl) (hD.sub [0, 4, 1, 2, 3] (by decide) rfl) hS (isb_n (v := 1) (by decide)) d_La_isFinal_56
  · have hf := ifn cx hf
    refine lv_lload hx hb d_La_isFinal_31 (lv_at hl 0 rfl) ?_
    refine lv_iload_n hx hb d_La_isFinal_33 rfl (lv_at hl 3 rfl) ?_
    refine lv_i2l hx hb d_La_isFinal_34 rfl ?_
    refine W.lcmp hx hb d_La_isFinal_35 ?_
    refine lv_if_lt (tgt := 55) hx hb d_La_isFinal_36 (by decide) (fun cx => ?_) (fun cx => ?_)
    · have hf := ifp cx hf
      refine lv_iconst (v := 1) hx hb d_La_isFinal_55 (by decide) ?_
      obtain rfl := Option.some.inj hf
      exact q_rz hx hb hr hlocks hK (hP.sub [0, 4, 1, 2, 3] rfl) (hD.sub [0, 4, 1, 2, 3] (by decide) rfl) hS (isb_n (v := 1) (by decide)) d_La_isFinal_56
    · have hf := ifn cx hf
      refine lv_lload hx hb d_La_isFinal_39 (lv_at hl 0 rfl) ?_
      refine lv_ldc2 (v := 500000000) hx hb hown (hts _ gw_817) d_La_isFinal_41 ?_
      refine W.lcmp hx hb d_La_isFinal_44 ?_
      refine lv_if_lt (tgt := 57) hx hb d_La_isFinal_45 (by decide) (fun cx => ?_) (fun cx => ?_)
      · have hf := ifp cx hf
        exact wb_La_isFinal_57 (fu := fu) F _ _ hf _ _ _ (hP.sub (ws' := [(o, .inr (4, [.ref a_raw, .int i_txs, .ref a_txAt, .ref a_firstIn, v_a_firstOut, v_a_inAt, v_a_inScript, .ref a_inEnd, v_a_outAt, v_a_outScript, v_a_outEnd, .int i_end, .int i_at, .int i_ins, .int i_outs])), (a_raw, .inl (cy 0, n_raw, .inl g_raw)), (a_txAt, .inl (cy 1, 301, .inl g_txAt)), (a_firstIn, .inl (cy 1, 301, .inl g_firstIn)), (a_inEnd, .inl (cy 1, 73, .inl g_inEnd))]) [0, 4, 1, 2, 3] rfl) (hD.sub (ws' := [(o, .inr (4, [.ref a_raw, .int i_txs, .ref a_txAt, .ref a_firstIn, v_a_firstOut, v_a_inAt, v_a_inScript, .ref a_inEnd, v_a_outAt, v_a_outScript, v_a_outEnd, .int i_end, .int i_at, .int i_ins, .int i_outs])), (a_raw, .inl (cy 0, n_raw, .inl g_raw)), (a_txAt, .inl (cy 1, 301, .inl g_txAt)), (a_firstIn, .inl (cy 1, 301, .inl g_firstIn)), (a_inEnd, .inl (cy 1, 73, .inl g_inEnd))]) [0, 4, 1, 2, 3] (by decide) rfl) hS (lv_sub hl [1, 2] rfl)
      · have hf := ifn cx hf
        refine lv_lload hx hb d_La_isFinal_48 (lv_at hl 0 rfl) ?_
        refine lv_lload_n hx hb d_La_isFinal_50 rfl (lv_at hl 4 rfl) ?_
        refine W.lcmp hx hb d_La_isFinal_51 ?_
        refine lv_if_ge (tgt := 57) hx hb d_La_isFinal_52 (by decide) (fun cx => ?_) (fun cx => ?_)
        · have hf := ifp cx hf
          exact wb_La_isFinal_57 (fu := fu) F _ _ hf _ _ _ (hP.sub (ws' := [(o, .inr (4, [.ref a_raw, .int i_txs, .ref a_txAt, .ref a_firstIn, v_a_firstOut, v_a_inAt, v_a_inScript, .ref a_inEnd, v_a_outAt, v_a_outScript, v_a_outEnd, .int i_end, .int i_at, .int i_ins, .int i_outs])), (a_raw, .inl (cy 0, n_raw, .inl g_raw)), (a_txAt, .inl (cy 1, 301, .inl g_txAt)), (a_firstIn, .inl (cy 1, 301, .inl g_firstIn)), (a_inEnd, .inl (cy 1, 73, .inl g_inEnd))]) [0, 4, 1, 2, 3] rfl) (hD.sub (ws' := [(o, .inr (4, [.ref a_raw, .int i_txs, .ref a_txAt, .ref a_firstIn, v_a_firstOut, v_a_inAt, v_a_inScript, .ref a_inEnd, v_a_outAt, v_a_outScript, v_a_outEnd, .int i_end, .int i_at, .int i_ins, .int i_outs])), (a_raw, .inl (cy 0, n_raw, .inl g_raw)), (a_txAt, .inl (cy 1, 301, .inl g_txAt)), (a_firstIn, .inl (cy 1, 301, .inl g_firstIn)), (a_inEnd, .inl (cy 1, 73, .inl g_inEnd))]) [0, 4, 1, 2, 3] (by decide) rfl) hS (lv_sub hl [1, 2] rfl)
        · have hf := ifn cx hf
          refine lv_iconst (v := 1) hx hb d_La_isFinal_55 (by decide) ?_
          obtain rfl := Option.some.inj hf
          exact q_rz hx hb hr hlocks hK (hP.sub [0, 4, 1, 2, 3] rfl) (hD.sub [0, 4, 1, 2, 3] (by decide) rfl) hS (isb_n (v := 1) (by decide)) d_La_isFinal_56
theorem c_La_isFinal (l : Launch) (D : va_G) (cy : Nat → ClassId) (ad : Nat → Nat) (fu : Nat) (o : Nat) (v_a_firstOut : Value) (v_a_inAt : Value) (v_a_inScript : Value) (v_a_outAt : Value) (v_a_outScript : Value) (v_a_outEnd : Value) (a_raw : Nat) (a_txAt : Nat) (a_firstIn : Nat) (a_inEnd : Nat) (i_txs : Int32) (i_end : Int32) (i_at : Int32) (i_ins : Int32) (i_outs : Int32) (n_raw : Nat) (g_raw : Nat → Int32) (g_txAt : Nat → Int32) (g_firstIn : Nat → Int32) (g_inEnd : Nat → Int32) (a1 : Int32) (a2 : Int32) (a3 : Int64) (res : Int32) (hf : x_La_isFinal fu i_txs i_end i_at i_ins i_outs n_raw g_raw g_txAt g_firstIn g_inEnd a1 a2 a3 = some res) (sz : Nat) : Met l ({ cls := "CoinKeeper$Layout", name := "isFinal", desc := "(IIJ)Z" } : Jvm.MethodName) (.code ({ cls := "CoinKeeper$Layout", name := "isFinal", desc := "(IIJ)Z" } : Jvm.MethodName) b_La_isFinal 8 (some .boolean) :: gw) rm_La_isFinal (va_Pc [.ref o, .int a1, .int a2, .long a3] (Pr D cy ad [(o, .inr (4, [.ref a_raw, .int i_txs, .ref a_txAt, .ref a_firstIn, v_a_firstOut, v_a_inAt, v_a_inScript, .ref a_inEnd, v_a_outAt, v_a_outScript, v_a_outEnd, .int i_end, .int i_at, .int i_ins, .int i_outs])), (a_raw, .inl (cy 0, n_raw, .inl g_raw)), (a_txAt, .inl (cy 1, 301, .inl g_txAt)), (a_firstIn, .inl (cy 1, 301, .inl g_firstIn)), (a_inEnd, .inl (cy 1, 73, .inl g_inEnd))] sz)) (q_La_isFinal D cy (va_A [(o, .inr (4, [.ref a_raw, .int i_txs, .ref a_txAt, .ref a_firstIn, v_a_firstOut, v_a_inAt, v_a_inScript, .ref a_inEnd, v_a_outAt, v_a_outScript, v_a_outEnd, .int i_end, .int i_at, .int i_ins, .int i_outs])), (a_raw, .inl (cy 0, n_raw, .inl g_raw)), (a_txAt, .inl (cy 1, 301, .inl g_txAt)), (a_firstIn, .inl (cy 1, 301, .inl g_firstIn)), (a_inEnd, .inl (cy 1, 73, .inl g_inEnd))] sz) o v_a_firstOut v_a_inAt v_a_inScript v_a_outAt v_a_outScript v_a_outEnd a_raw a_txAt a_firstIn a_inEnd i_txs i_end i_at i_ins i_outs n_raw g_raw g_txAt g_firstIn g_inEnd res) 0 0 (va_A [(o, .inr (4, [.ref a_raw, .int i_txs, .ref a_txAt, .ref a_firstIn, v_a_firstOut, v_a_inAt, v_a_inScript, .ref a_inEnd, v_a_outAt, v_a_outScript, v_a_outEnd, .int i_end, .int i_at, .int i_ins, .int i_outs])), (a_raw, .inl (cy 0, n_raw, .inl g_raw)), (a_txAt, .inl (cy 1, 301, .inl g_txAt)), (a_firstIn, .inl (cy 1, 301, .inl g_firstIn)), (a_inEnd, .inl (cy 1, 73, .inl g_inEnd))] sz) :=
  q_met (Qc := fun A => q_La_isFinal D cy A o v_a_firstOut v_a_inAt v_a_inScript v_a_outAt v_a_outScript v_a_outEnd a_raw a_txAt a_firstIn a_inEnd i_txs i_end i_at i_ins i_outs n_raw g_raw g_txAt g_firstIn g_inEnd res) (by decide) rfl rfl (Nat.le_of_ble_eq_true rfl) (fun p e s m below meth c ls F hP hD hS hl => we_La_isFinal (fu := fu) F a1 a2 a3 res hf _ _ _ hP hD hS hl) sz
abbrev b_La_isSound : ByteArray := prog_5_method_9_code
theorem d_La_isSound_0 : decode b_La_isSound 0 = .ok (.iconst 0, 1) := by decide +kernel
theorem d_La_isSound_1 : decode b_La_isSound 1 = .ok (.istore 4, 2) := by decide +kernel
theorem d_La_isSound_3 : decode b_La_isSound 3 = .ok (.iload 4, 2) := by decide +kernel
theorem d_La_isSound_5 : decode b_La_isSound 5 = .ok (.aload_n 0, 1) := by decide +kernel
theorem d_La_isSound_6 : decode b_La_isSound 6 = .ok (.getfield 50, 3) := by decide +kernel
theorem d_La_isSound_9 : decode b_La_isSound 9 = .ok (.if_icmp .ge 40, 3) := by decide +kernel
theorem d_La_isSound_12 : decode b_La_isSound 12 = .ok (.aload_n 0, 1) := by decide +kernel
theorem d_La_isSound_13 : decode b_La_isSound 13 = .ok (.iload 4, 2) := by decide +kernel
theorem d_La_isSound_15 : decode b_La_isSound 15 = .ok (.invokevirtual 103, 3) := by decide +kernel
theorem d_La_isSound_18 : decode b_La_isSound 18 = .ok (.ifCond .eq 23, 3) := by decide +kernel
theorem d_La_isSound_21 : decode b_La_isSound 21 = .ok (.aload_n 0, 1) := by decide +kernel
theorem d_La_isSound_22 : decode b_La_isSound 22 = .ok (.iload 4, 2) := by decide +kernel
theorem d_La_isSound_24 : decode b_La_isSound 24 = .ok (.invokevirtual 106, 3) := by decide +kernel
theorem d_La_isSound_27 : decode b_La_isSound 27 = .ok (.ifCond .eq 14, 3) := by decide +kernel
theorem d_La_isSound_30 : decode b_La_isSound 30 = .ok (.aload_n 0, 1) := by decide +kernel
theorem d_La_isSound_31 : decode b_La_isSound 31 = .ok (.iload 4, 2) := by decide +kernel
theorem d_La_isSound_33 : decode b_La_isSound 33 = .ok (.iload_n 1, 1) := by decide +kernel
theorem d_La_isSound_34 : decode b_La_isSound 34 = .ok (.lload_n 2, 1) := by decide +kernel
theorem d_La_isSound_35 : decode b_La_isSound 35 = .ok (.invokevirtual 109, 3) := by decide +kernel
theorem d_La_isSound_38 : decode b_La_isSound 38 = .ok (.ifCond .ne 5, 3) := by decide +kernel
theorem d_La_isSound_41 : decode b_La_isSound 41 = .ok (.iconst 0, 1) := by decide +kernel
theorem d_La_isSound_42 : decode b_La_isSound 42 = .ok (.ireturn, 1) := by decide +kernel
theorem d_La_isSound_43 : decode b_La_isSound 43 = .ok (.iinc 4 1, 3) := by decide +kernel
theorem d_La_isSound_46 : decode b_La_isSound 46 = .ok (.goto (-43), 3) := by decide +kernel
theorem d_La_isSound_49 : decode b_La_isSound 49 = .ok (.aload_n 0, 1) := by decide +kernel
theorem d_La_isSound_50 : decode b_La_isSound 50 = .ok (.getfield 50, 3) := by decide +kernel
theorem d_La_isSound_53 : decode b_La_isSound 53 = .ok (.ifCond .le 22, 3) := by decide +kernel
theorem d_La_isSound_56 : decode b_La_isSound 56 = .ok (.aload_n 0, 1) := by decide +kernel
theorem d_La_isSound_57 : decode b_La_isSound 57 = .ok (.iload_n 1, 1) := by decide +kernel
theorem d_La_isSound_58 : decode b_La_isSound 58 = .ok (.invokevirtual 113, 3) := by decide +kernel
theorem d_La_isSound_61 : decode b_La_isSound 61 = .ok (.ifCond .eq 14, 3) := by decide +kernel
theorem d_La_isSound_64 : decode b_La_isSound 64 = .ok (.aload_n 0, 1) := by decide +kernel
theorem d_La_isSound_65 : decode b_La_isSound 65 = .ok (.invokevirtual 116, 3) := by decide +kernel
theorem d_La_isSound_68 : decode b_La_isSound 68 = .ok (.ifCond .eq 7, 3) := by decide +kernel
theorem d_La_isSound_71 : decode b_La_isSound 71 = .ok (.iconst 1, 1) := by decide +kernel
theorem d_La_isSound_72 : decode b_La_isSound 72 = .ok (.goto 4, 3) := by decide +kernel
theorem d_La_isSound_75 : decode b_La_isSound 75 = .ok (.iconst 0, 1) := by decide +kernel
theorem d_La_isSound_76 : decode b_La_isSound 76 = .ok (.ireturn, 1) := by decide +kernel
abbrev rm_La_isSound : Room := { frames := 3, cells := 0, slots := 0, locals := 68 }
abbrev q_La_isSound (D : va_G) (cy : Nat → ClassId) (A : Nat → Prop) (o : Nat) (a_raw : Nat) (a_txAt : Nat) (a_firstIn : Nat) (a_firstOut : Nat) (a_inAt : Nat) (a_inScript : Nat) (a_inEnd : Nat) (a_outAt : Nat) (a_outScript : Nat) (a_outEnd : Nat) (i_txs : Int32) (i_end : Int32) (i_at : Int32) (i_ins : Int32) (i_outs : Int32) (n_raw : Nat) (g_raw : Nat → Int32) (g_txAt : Nat → Int32) (g_firstIn : Nat → Int32) (g_firstOut : Nat → Int32) (g_inAt : Nat → Int32) (g_inScript : Nat → Int32) (g_inEnd : Nat → Int32) (g_outAt : Nat → Int32) (g_outScript : Nat → Int32) (g_outEnd : Nat → Int32) (res : Int32) : Array Value → State → Outcome → State → Prop := va_Qi (fun r' (_ : Unit) => r' = res) (fun _ t => Po D cy A [(o, .inr (4, [.ref a_raw, .int i_txs, .ref a_txAt, .ref a_firstIn, .ref a_firstOut, .ref a_inAt, .ref a_inScript, .ref a_inEnd, .ref a_outAt, .ref a_outScript, .ref a_outEnd, .int i_end, .int i_at, .int i_ins, .int i_outs])), (a_raw, .inl (cy 0, n_raw, .inl g_raw)), (a_txAt, .inl (cy 1, 301, .inl g_txAt)), (a_firstIn, .inl (cy 1, 301, .inl g_firstIn)), (a_firstOut, .inl (cy 1, 301, .inl g_firstOut)), (a_inAt, .inl (cy 1, 73, .inl g_inAt)), (a_inScript, .inl (cy 1, 73, .inl g_inScript)), (a_inEnd, .inl (cy 1, 73, .inl g_inEnd)), (a_outAt, .inl (cy 1, 333, .inl g_outAt)), (a_outScript, .inl (cy 1, 333, .inl g_outScript)), (a_outEnd, .inl (cy 1, 333, .inl g_outEnd))] t) A
def I_La_isSound_3 (p : Program) (l : Launch) (e : Env) (s : State) (m : MethodId) (args : Array Value) (below : List Frame) (meth : Method) (c : Code) (D : va_G) (cy : Nat → ClassId) (A : Nat → Prop) (ad : Nat → Nat) (o : Nat) (a_raw : Nat) (a_txAt : Nat) (a_firstIn : Nat) (a_firstOut : Nat) (a_inAt : Nat) (a_inScript : Nat) (a_inEnd : Nat) (a_outAt : Nat) (a_outScript : Nat) (a_outEnd : Nat) (i_txs : Int32) (i_end : Int32) (i_at : Int32) (i_ins : Int32) (i_outs : Int32) (n_raw : Nat) (g_raw : Nat → Int32) (g_txAt : Nat → Int32) (g_firstIn : Nat → Int32) (g_firstOut : Nat → Int32) (g_inAt : Nat → Int32) (g_inScript : Nat → Int32) (g_inEnd : Nat → Int32) (g_outAt : Nat → Int32) (g_outScript : Nat → Int32) (g_outEnd : Nat → Int32) (k : Int32 → Int64 → Int32 → Option (Int32)) : Prop :=
  ∀ (x1 : Int32) (x2 : Int64) (x4 : Int32) (res : Int32), k x1 x2 x4 = some res → ∀ (H : Heap) (locs : List Loc) (ls : Array Slot), va_P D classes [(o, .inr (4, [.ref a_raw, .int i_txs, .ref a_txAt, .ref a_firstIn, .ref a_firstOut, .ref a_inAt, .ref a_inScript, .ref a_inEnd, .ref a_outAt, .ref a_outScript, .ref a_outEnd, .int i_end, .int i_at, .int i_ins, .int i_outs])), (a_raw, .inl (cy 0, n_raw, .inl g_raw)), (a_txAt, .inl (cy 1, 301, .inl g_txAt)), (a_firstIn, .inl (cy 1, 301, .inl g_firstIn)), (a_firstOut, .inl (cy 1, 301, .inl g_firstOut)), (a_inAt, .inl (cy 1, 73, .inl g_inAt)), (a_inScript, .inl (cy 1, 73, .inl g_inScript)), (a_inEnd, .inl (cy 1, 73, .inl g_inEnd)), (a_outAt, .inl (cy 1, 333, .inl g_outAt)), (a_outScript, .inl (cy 1, 333, .inl g_outScript)), (a_outEnd, .inl (cy 1, 333, .inl g_outEnd))] H → va_D A [(o, .inr (4, [.ref a_raw, .int i_txs, .ref a_txAt, .ref a_firstIn, .ref a_firstOut, .ref a_inAt, .ref a_inScript, .ref a_inEnd, .ref a_outAt, .ref a_outScript, .ref a_outEnd, .int i_end, .int i_at, .int i_ins, .int i_outs])), (a_raw, .inl (cy 0, n_raw, .inl g_raw)), (a_txAt, .inl (cy 1, 301, .inl g_txAt)), (a_firstIn, .inl (cy 1, 301, .inl g_firstIn)), (a_firstOut, .inl (cy 1, 301, .inl g_firstOut)), (a_inAt, .inl (cy 1, 73, .inl g_inAt)), (a_inScript, .inl (cy 1, 73, .inl g_inScript)), (a_inEnd, .inl (cy 1, 73, .inl g_inEnd)), (a_outAt, .inl (cy 1, 333, .inl g_outAt)), (a_outScript, .inl (cy 1, 333, .inl g_outScript)), (a_outEnd, .inl (cy 1, 333, .inl g_outEnd))] → va_S A s.heap H locs → lv_has ls 5 [(0, .ref o), (1, .int x1), (2, .long x2), (4, .int x4)] → W p l e rm_La_isSound s m args below meth c H locs 0 0 (MQ below (q_La_isSound D cy A o a_raw a_txAt a_firstIn a_firstOut a_inAt a_inScript a_inEnd a_outAt a_outScript a_outEnd i_txs i_end i_at i_ins i_outs n_raw g_raw g_txAt g_firstIn g_firstOut g_inAt g_inScript g_inEnd g_outAt g_outScript g_outEnd res) args s 0 0 A) (F0 m 3 ls [])
def I_La_isSound_e (p : Program) (l : Launch) (e : Env) (s : State) (m : MethodId) (args : Array Value) (below : List Frame) (meth : Method) (c : Code) (D : va_G) (cy : Nat → ClassId) (A : Nat → Prop) (ad : Nat → Nat) (o : Nat) (a_raw : Nat) (a_txAt : Nat) (a_firstIn : Nat) (a_firstOut : Nat) (a_inAt : Nat) (a_inScript : Nat) (a_inEnd : Nat) (a_outAt : Nat) (a_outScript : Nat) (a_outEnd : Nat) (i_txs : Int32) (i_end : Int32) (i_at : Int32) (i_ins : Int32) (i_outs : Int32) (n_raw : Nat) (g_raw : Nat → Int32) (g_txAt : Nat → Int32) (g_firstIn : Nat → Int32) (g_firstOut : Nat → Int32) (g_inAt : Nat → Int32) (g_inScript : Nat → Int32) (g_inEnd : Nat → Int32) (g_outAt : Nat → Int32) (g_outScript : Nat → Int32) (g_outEnd : Nat → Int32) (k : Int32 → Int64 → Option (Int32)) : Prop :=
  ∀ (a1 : Int32) (a2 : Int64) (res : Int32), k a1 a2 = some res → ∀ (H : Heap) (locs : List Loc) (ls : Array Slot), va_P D classes [(o, .inr (4, [.ref a_raw, .int i_txs, .ref a_txAt, .ref a_firstIn, .ref a_firstOut, .ref a_inAt, .ref a_inScript, .ref a_inEnd, .ref a_outAt, .ref a_outScript, .ref a_outEnd, .int i_end, .int i_at, .int i_ins, .int i_outs])), (a_raw, .inl (cy 0, n_raw, .inl g_raw)), (a_txAt, .inl (cy 1, 301, .inl g_txAt)), (a_firstIn, .inl (cy 1, 301, .inl g_firstIn)), (a_firstOut, .inl (cy 1, 301, .inl g_firstOut)), (a_inAt, .inl (cy 1, 73, .inl g_inAt)), (a_inScript, .inl (cy 1, 73, .inl g_inScript)), (a_inEnd, .inl (cy 1, 73, .inl g_inEnd)), (a_outAt, .inl (cy 1, 333, .inl g_outAt)), (a_outScript, .inl (cy 1, 333, .inl g_outScript)), (a_outEnd, .inl (cy 1, 333, .inl g_outEnd))] H → va_D A [(o, .inr (4, [.ref a_raw, .int i_txs, .ref a_txAt, .ref a_firstIn, .ref a_firstOut, .ref a_inAt, .ref a_inScript, .ref a_inEnd, .ref a_outAt, .ref a_outScript, .ref a_outEnd, .int i_end, .int i_at, .int i_ins, .int i_outs])), (a_raw, .inl (cy 0, n_raw, .inl g_raw)), (a_txAt, .inl (cy 1, 301, .inl g_txAt)), (a_firstIn, .inl (cy 1, 301, .inl g_firstIn)), (a_firstOut, .inl (cy 1, 301, .inl g_firstOut)), (a_inAt, .inl (cy 1, 73, .inl g_inAt)), (a_inScript, .inl (cy 1, 73, .inl g_inScript)), (a_inEnd, .inl (cy 1, 73, .inl g_inEnd)), (a_outAt, .inl (cy 1, 333, .inl g_outAt)), (a_outScript, .inl (cy 1, 333, .inl g_outScript)), (a_outEnd, .inl (cy 1, 333, .inl g_outEnd))] → va_S A s.heap H locs → lv_has ls 5 [(0, .ref o), (1, .int a1), (2, .long a2)] → W p l e rm_La_isSound s m args below meth c H locs 0 0 (MQ below (q_La_isSound D cy A o a_raw a_txAt a_firstIn a_firstOut a_inAt a_inScript a_inEnd a_outAt a_outScript a_outEnd i_txs i_end i_at i_ins i_outs n_raw g_raw g_txAt g_firstIn g_firstOut g_inAt g_inScript g_inEnd g_outAt g_outScript g_outEnd res) args s 0 0 A) (F0 m 0 ls [])
theorem hdc_33 : ({ cls := "CoinKeeper$Layout", name := "beginsWith", desc := "(I)Z" } : Jvm.MethodName).cls ≠ "java/lang/invoke/MethodHandle" ∧ ({ cls := "CoinKeeper$Layout", name := "beginsWith", desc := "(I)Z" } : Jvm.MethodName).cls ≠ "java/lang/invoke/VarHandle" ∧ (parseMethodDescriptor ({ cls := "CoinKeeper$Layout", name := "beginsWith", desc := "(I)Z" } : Jvm.MethodName).desc).map (fun d => d.parameters.length) = some 1 := by decide +kernel
theorem hdc_34 : ({ cls := "CoinKeeper$Layout", name := "scriptsAreSound", desc := "()Z" } : Jvm.MethodName).cls ≠ "java/lang/invoke/MethodHandle" ∧ ({ cls := "CoinKeeper$Layout", name := "scriptsAreSound", desc := "()Z" } : Jvm.MethodName).cls ≠ "java/lang/invoke/VarHandle" ∧ (parseMethodDescriptor ({ cls := "CoinKeeper$Layout", name := "scriptsAreSound", desc := "()Z" } : Jvm.MethodName).desc).map (fun d => d.parameters.length) = some 0 := by decide +kernel
theorem hdc_35 : ({ cls := "CoinKeeper$Layout", name := "amountsAreSound", desc := "(I)Z" } : Jvm.MethodName).cls ≠ "java/lang/invoke/MethodHandle" ∧ ({ cls := "CoinKeeper$Layout", name := "amountsAreSound", desc := "(I)Z" } : Jvm.MethodName).cls ≠ "java/lang/invoke/VarHandle" ∧ (parseMethodDescriptor ({ cls := "CoinKeeper$Layout", name := "amountsAreSound", desc := "(I)Z" } : Jvm.MethodName).desc).map (fun d => d.parameters.length) = some 1 := by decide +kernel
theorem hdc_36 : ({ cls := "CoinKeeper$Layout", name := "inputsAreSound", desc := "(I)Z" } : Jvm.MethodName).cls ≠ "java/lang/invoke/MethodHandle" ∧ ({ cls := "CoinKeeper$Layout", name := "inputsAreSound", desc := "(I)Z" } : Jvm.MethodName).cls ≠ "java/lang/invoke/VarHandle" ∧ (parseMethodDescriptor ({ cls := "CoinKeeper$Layout", name := "inputsAreSound", desc := "(I)Z" } : Jvm.MethodName).desc).map (fun d => d.parameters.length) = some 1 := by decide +kernel
theorem hdc_37 : ({ cls := "CoinKeeper$Layout", name := "isFinal", desc := "(IIJ)Z" } : Jvm.MethodName).cls ≠ "java/lang/invoke/MethodHandle" ∧ ({ cls := "CoinKeeper$Layout", name := "isFinal", desc := "(IIJ)Z" } : Jvm.MethodName).cls ≠ "java/lang/invoke/VarHandle" ∧ (parseMethodDescriptor ({ cls := "CoinKeeper$Layout", name := "isFinal", desc := "(IIJ)Z" } : Jvm.MethodName).desc).map (fun d => d.parameters.length) = some 3 := by decide +kernel
set_option maxHeartbeats 8000000 in
set_option maxRecDepth 100000 in
theorem wb_La_isSound_3 {p : Program} {l : Launch} {e : Env} {s : State} {m : MethodId} {args : Array Value} {below : List Frame} {meth : Method} {c : Code} {D : va_G} {cy : Nat → ClassId} {A : Nat → Prop} {ad : Nat → Nat} {o : Nat} {a_raw : Nat} {a_txAt : Nat} {a_firstIn : Nat} {a_firstOut : Nat} {a_inAt : Nat} {a_inScript : Nat} {a_inEnd : Nat} {a_outAt : Nat} {a_outScript : Nat} {a_outEnd : Nat} {i_txs : Int32} {i_end : Int32} {i_at : Int32} {i_ins : Int32} {i_outs : Int32} {n_raw : Nat} {g_raw : Nat → Int32} {g_txAt : Nat → Int32} {g_firstIn : Nat → Int32} {g_firstOut : Nat → Int32} {g_inAt : Nat → Int32} {g_inScript : Nat → Int32} {g_inEnd : Nat → Int32} {g_outAt : Nat → Int32} {g_outScript : Nat → Int32} {g_outEnd : Nat → Int32} {fu : Nat} {k_3 : Int32 → Int64 → Int32 → Option (Int32)} (F : Fx p s m args meth c b_La_isSound 5 "CoinKeeper$Layout" "isSound" (some .boolean) D cy ad A) (hk_3 : I_La_isSound_3 p l e s m args below meth c D cy A ad o a_raw a_txAt a_firstIn a_firstOut a_inAt a_inScript a_inEnd a_outAt a_outScript a_outEnd i_txs i_end i_at i_ins i_outs n_raw g_raw g_txAt g_firstIn g_firstOut g_inAt g_inScript g_inEnd g_outAt g_outScript g_outEnd k_3) : I_La_isSound_3 p l e s m args below meth c D cy A ad o a_raw a_txAt a_firstIn a_firstOut a_inAt a_inScript a_inEnd a_outAt a_outScript a_outEnd i_txs i_end i_at i_ins i_outs n_raw g_raw g_txAt g_firstIn g_firstOut g_inAt g_inScript g_inEnd g_outAt g_outScript g_outEnd (xb_La_isSound_3 fu i_txs i_end i_at i_ins i_outs n_raw g_raw g_txAt g_firstIn g_firstOut g_inAt g_inScript g_inEnd g_outAt g_outScript g_outEnd k_3) := by
  obtain ⟨hx, hb, hr, hml, hown, hts, hlocks, hK, hA, hSt, hnm, hex⟩ := id F
  intro x1 x2 x4 res hf H locs ls hP hD hS hl
  unfold xb_La_isSound_3 at hf
  refine lv_iload hx hb d_La_isSound_3 (lv_at hl 3 rfl) ?_
  refine lv_aload_n hx hb d_La_isSound_5 rfl (lv_at hl 0 rfl) ?_
  refine va_get (D := D) (ci := 4) (v := .int i_txs) (C := "CoinKeeper$Layout") (T := F_4) (N := 15) hx hb hts i_4 hown hK hP 0 rfl rfl 1 (by decide) (hts _ gw_272) (fun _ h9 => h9) rfl d_La_isSound_6 ?_
  refine lv_icmp_ge (tgt := 49) hx hb d_La_isSound_9 (by decide) (fun cx => ?_) (fun cx => ?_)
  · have hf := ifp cx hf
    refine lv_aload_n hx hb d_La_isSound_49 rfl (lv_at hl 0 rfl) ?_
    refine va_get (D := D) (ci := 4) (v := .int i_txs) (C := "CoinKeeper$Layout") (T := F_4) (N := 15) hx hb hts i_4 hown hK hP 0 rfl rfl 1 (by decide) (hts _ gw_272) (fun _ h9 => h9) rfl d_La_isSound_50 ?_
    refine lv_if_le (tgt := 75) hx hb d_La_isSound_53 (by decide) (fun cx => ?_) (fun cx => ?_)
    · have hf := ifp cx hf
      refine lv_iconst (v := 0) hx hb d_La_isSound_75 (by decide) ?_
      obtain rfl := Option.some.inj hf
      exact q_rz hx hb hr hlocks hK hP hD hS (isb_n (v := 0) (by decide)) d_La_isSound_76
    · have hf := ifn cx hf
      refine lv_aload_n hx hb d_La_isSound_56 rfl (lv_at hl 0 rfl) ?_
      refine lv_iload_n hx hb d_La_isSound_57 rfl (lv_at hl 1 rfl) ?_
      obtain ⟨v1, hc, hf⟩ := bdp1 hf
      refine q_ai (wr := [(a_txAt, .inl (cy 1, 301, .inl g_txAt)), (a_firstIn, .inl (cy 1, 301, .inl g_firstIn)), (a_firstOut, .inl (cy 1, 301, .inl g_firstOut)), (a_inAt, .inl (cy 1, 73, .inl g_inAt)), (a_outAt, .inl (cy 1, 333, .inl g_outAt)), (a_outScript, .inl (cy 1, 333, .inl g_outScript)), (a_outEnd, .inl (cy 1, 333, .inl g_outEnd))]) (va_runV (C := "CoinKeeper$Layout") (As := [.int x1]) (rest := []) ⟨hx, hb, hml, hown, hts⟩ (c_La_beginsWith l D cy ad fu o (.ref a_txAt) (.ref a_firstIn) (.ref a_firstOut) (.ref a_inAt) (.ref a_outAt) (.ref a_outScript) (.ref a_outEnd) a_raw a_inScript a_inEnd i_txs i_end i_at i_ins i_outs n_raw g_raw g_inScript g_inEnd x1 _ hc H.size) ⟨q_cB hts gw_821 gw_8 gw_818 hdc_33 ⟨by decide, by decide⟩, hts _ gw_820, hts _ gs_17⟩ (q_preV (q_pre (hP.sub [0, 1, 6, 7] rfl) (hD.sub [0, 1, 6, 7] (by decide) rfl) hK hSt hS (va_free hD hS hA [0, 1, 6, 7] rfl) _) (va_recv hK (hP.sub [0, 1, 6, 7] rfl) (ci := 4) (q0 := 0) rfl rfl)) rfl rfl hl.1 rfl (lv_room (Nat.le_of_ble_eq_true rfl)) d_La_isSound_58 ⟨Nat.le_of_ble_eq_true rfl, Nat.le_of_ble_eq_true rfl⟩) hP hD hS hA [0, 1, 6, 7] [2, 3, 4, 5, 8, 9, 10] rfl rfl (by decide) (by decide) (fun H locs hP hD hS => ?_)
      clear hc
      have hP : va_P D classes [(a_txAt, .inl (cy 1, 301, .inl g_txAt)), (a_firstIn, .inl (cy 1, 301, .inl g_firstIn)), (a_firstOut, .inl (cy 1, 301, .inl g_firstOut)), (a_inAt, .inl (cy 1, 73, .inl g_inAt)), (a_outAt, .inl (cy 1, 333, .inl g_outAt)), (a_outScript, .inl (cy 1, 333, .inl g_outScript)), (a_outEnd, .inl (cy 1, 333, .inl g_outEnd)), (o, .inr (4, [.ref a_raw, .int i_txs, .ref a_txAt, .ref a_firstIn, .ref a_firstOut, .ref a_inAt, .ref a_inScript, .ref a_inEnd, .ref a_outAt, .ref a_outScript, .ref a_outEnd, .int i_end, .int i_at, .int i_ins, .int i_outs])), (a_raw, .inl (cy 0, n_raw, .inl g_raw)), (a_inScript, .inl (cy 1, 73, .inl g_inScript)), (a_inEnd, .inl (cy 1, 73, .inl g_inEnd))] H := hP
      have hD : va_D A [(a_txAt, .inl (cy 1, 301, .inl g_txAt)), (a_firstIn, .inl (cy 1, 301, .inl g_firstIn)), (a_firstOut, .inl (cy 1, 301, .inl g_firstOut)), (a_inAt, .inl (cy 1, 73, .inl g_inAt)), (a_outAt, .inl (cy 1, 333, .inl g_outAt)), (a_outScript, .inl (cy 1, 333, .inl g_outScript)), (a_outEnd, .inl (cy 1, 333, .inl g_outEnd)), (o, .inr (4, [.ref a_raw, .int i_txs, .ref a_txAt, .ref a_firstIn, .ref a_firstOut, .ref a_inAt, .ref a_inScript, .ref a_inEnd, .ref a_outAt, .ref a_outScript, .ref a_outEnd, .int i_end, .int i_at, .int i_ins, .int i_outs])), (a_raw, .inl (cy 0, n_raw, .inl g_raw)), (a_inScript, .inl (cy 1, 73, .inl g_inScript)), (a_inEnd, .inl (cy 1, 73, .inl g_inEnd))] := hD
      refine lv_if_eq (tgt := 75) hx hb d_La_isSound_61 (by decide) (fun cx => ?_) (fun cx => ?_)
      · have hf := ifp cx hf
        refine lv_iconst (v := 0) hx hb d_La_isSound_75 (by decide) ?_
        obtain rfl := Option.some.inj hf
        exact q_rz hx hb hr hlocks hK (hP.sub [7, 8, 0, 1, 2, 3, 9, 10, 4, 5, 6] rfl) (hD.sub [7, 8, 0, 1, 2, 3, 9, 10, 4, 5, 6] (by decide) rfl) hS (isb_n (v := 0) (by decide)) d_La_isSound_76
      · have hf := ifn cx hf
        refine lv_aload_n hx hb d_La_isSound_64 rfl (lv_at hl 0 rfl) ?_
        obtain ⟨v2, hc, hf⟩ := bdp1 hf
        refine q_ai (wr := [(a_txAt, .inl (cy 1, 301, .inl g_txAt)), (a_firstIn, .inl (cy 1, 301, .inl g_firstIn)), (a_firstOut, .inl (cy 1, 301, .inl g_firstOut)), (a_inAt, .inl (cy 1, 73, .inl g_inAt)), (a_outAt, .inl (cy 1, 333, .inl g_outAt))]) (va_runV (C := "CoinKeeper$Layout") (As := []) (rest := []) ⟨hx, hb, hml, hown, hts⟩ (c_La_scriptsAreSound l D cy ad fu o (.ref a_txAt) (.ref a_firstIn) (.ref a_firstOut) (.ref a_inAt) (.ref a_outAt) a_raw a_inScript a_inEnd a_outScript a_outEnd i_txs i_end i_at i_ins i_outs n_raw g_raw g_inScript g_inEnd g_outScript g_outEnd _ hc H.size) ⟨q_cB hts gw_825 gw_8 gw_822 hdc_34 ⟨by decide, by decide⟩, hts _ gw_824, hts _ gs_18⟩ (q_preV (q_pre (hP.sub [7, 8, 9, 10, 5, 6] rfl) (hD.sub [7, 8, 9, 10, 5, 6] (by decide) rfl) hK hSt hS (va_free hD hS hA [7, 8, 9, 10, 5, 6] rfl) _) (va_recv hK (hP.sub [7, 8, 9, 10, 5, 6] rfl) (ci := 4) (q0 := 0) rfl rfl)) rfl rfl hl.1 rfl (lv_room (Nat.le_of_ble_eq_true rfl)) d_La_isSound_65 ⟨Nat.le_of_ble_eq_true rfl, Nat.le_of_ble_eq_true rfl⟩) hP hD hS hA [7, 8, 9, 10, 5, 6] [0, 1, 2, 3, 4] rfl rfl (by decide) (by decide) (fun H locs hP hD hS => ?_)
        clear hc
        have hP : va_P D classes [(a_txAt, .inl (cy 1, 301, .inl g_txAt)), (a_firstIn, .inl (cy 1, 301, .inl g_firstIn)), (a_firstOut, .inl (cy 1, 301, .inl g_firstOut)), (a_inAt, .inl (cy 1, 73, .inl g_inAt)), (a_outAt, .inl (cy 1, 333, .inl g_outAt)), (o, .inr (4, [.ref a_raw, .int i_txs, .ref a_txAt, .ref a_firstIn, .ref a_firstOut, .ref a_inAt, .ref a_inScript, .ref a_inEnd, .ref a_outAt, .ref a_outScript, .ref a_outEnd, .int i_end, .int i_at, .int i_ins, .int i_outs])), (a_raw, .inl (cy 0, n_raw, .inl g_raw)), (a_inScript, .inl (cy 1, 73, .inl g_inScript)), (a_inEnd, .inl (cy 1, 73, .inl g_inEnd)), (a_outScript, .inl (cy 1, 333, .inl g_outScript)), (a_outEnd, .inl (cy 1, 333, .inl g_outEnd))] H := hP
        have hD : va_D A [(a_txAt, .inl (cy 1, 301, .inl g_txAt)), (a_firstIn, .inl (cy 1, 301, .inl g_firstIn)), (a_firstOut, .inl (cy 1, 301, .inl g_firstOut)), (a_inAt, .inl (cy 1, 73, .inl g_inAt)), (a_outAt, .inl (cy 1, 333, .inl g_outAt)), (o, .inr (4, [.ref a_raw, .int i_txs, .ref a_txAt, .ref a_firstIn, .ref a_firstOut, .ref a_inAt, .ref a_inScript, .ref a_inEnd, .ref a_outAt, .ref a_outScript, .ref a_outEnd, .int i_end, .int i_at, .int i_ins, .int i_outs])), (a_raw, .inl (cy 0, n_raw, .inl g_raw)), (a_inScript, .inl (cy 1, 73, .inl g_inScript)), (a_inEnd, .inl (cy 1, 73, .inl g_inEnd)), (a_outScript, .inl (cy 1, 333, .inl g_outScript)), (a_outEnd, .inl (cy 1, 333, .inl g_outEnd))] := hD
        refine lv_if_eq (tgt := 75) hx hb d_La_isSound_68 (by decide) (fun cx => ?_) (fun cx => ?_)
        · have hf := ifp cx hf
          refine lv_iconst (v := 0) hx hb d_La_isSound_75 (by decide) ?_
          obtain rfl := Option.some.inj hf
          exact q_rz hx hb hr hlocks hK (hP.sub [5, 6, 0, 1, 2, 3, 7, 8, 4, 9, 10] rfl) (hD.sub [5, 6, 0, 1, 2, 3, 7, 8, 4, 9, 10] (by decide) rfl) hS (isb_n (v := 0) (by decide)) d_La_isSound_76
        · have hf := ifn cx hf
          refine lv_iconst (v := 1) hx hb d_La_isSound_71 (by decide) ?_
          refine lv_goto (tgt := 76) hx hb d_La_isSound_72 (by decide) ?_
          obtain rfl := Option.some.inj hf
          exact q_rz hx hb hr hlocks hK (hP.sub [5, 6, 0, 1, 2, 3, 7, 8, 4, 9, 10] rfl) (hD.sub [5, 6, 0, 1, 2, 3, 7, 8, 4, 9, 10] (by decide) rfl) hS (isb_n (v := 1) (by decide)) d_La_isSound_76
  · have hf := ifn cx hf
    refine lv_aload_n hx hb d_La_isSound_12 rfl (lv_at hl 0 rfl) ?_
    refine lv_iload hx hb d_La_isSound_13 (lv_at hl 3 rfl) ?_
    obtain ⟨v3, hc, hf⟩ := bdp1 hf
    refine q_ai (wr := [(a_txAt, .inl (cy 1, 301, .inl g_txAt)), (a_firstIn, .inl (cy 1, 301, .inl g_firstIn)), (a_inAt, .inl (cy 1, 73, .inl g_inAt)), (a_inScript, .inl (cy 1, 73, .inl g_inScript)), (a_inEnd, .inl (cy 1, 73, .inl g_inEnd)), (a_outScript, .inl (cy 1, 333, .inl g_outScript)), (a_outEnd, .inl (cy 1, 333, .inl g_outEnd))]) (va_runV (C := "CoinKeeper$Layout") (As := [.int x4]) (rest := []) ⟨hx, hb, hml, hown, hts⟩ (c_La_amountsAreSound l D cy ad fu o (.ref a_txAt) (.ref a_firstIn) (.ref a_inAt) (.ref a_inScript) (.ref a_inEnd) (.ref a_outScript) (.ref a_outEnd) a_raw a_firstOut a_outAt i_txs i_end i_at i_ins i_outs n_raw g_raw g_firstOut g_outAt x4 _ hc H.size) ⟨q_cB hts gw_797 gw_8 gw_794 hdc_35 ⟨by decide, by decide⟩, hts _ gw_796, hts _ gs_13⟩ (q_preV (q_pre (hP.sub [0, 1, 4, 8] rfl) (hD.sub [0, 1, 4, 8] (by decide) rfl) hK hSt hS (va_free hD hS hA [0, 1, 4, 8] rfl) _) (va_recv hK (hP.sub [0, 1, 4, 8] rfl) (ci := 4) (q0 := 0) rfl rfl)) rfl rfl hl.1 rfl (lv_room (Nat.le_of_ble_eq_true rfl)) d_La_isSound_15 ⟨Nat.le_of_ble_eq_true rfl, Nat.le_of_ble_eq_true rfl⟩) hP hD hS hA [0, 1, 4, 8] [2, 3, 5, 6, 7, 9, 10] rfl rfl (by decide) (by decide) (fun H locs hP hD hS => ?_)
    clear hc
    have hP : va_P D classes [(a_txAt, .inl (cy 1, 301, .inl g_txAt)), (a_firstIn, .inl (cy 1, 301, .inl g_firstIn)), (a_inAt, .inl (cy 1, 73, .inl g_inAt)), (a_inScript, .inl (cy 1, 73, .inl g_inScript)), (a_inEnd, .inl (cy 1, 73, .inl g_inEnd)), (a_outScript, .inl (cy 1, 333, .inl g_outScript)), (a_outEnd, .inl (cy 1, 333, .inl g_outEnd)), (o, .inr (4, [.ref a_raw, .int i_txs, .ref a_txAt, .ref a_firstIn, .ref a_firstOut, .ref a_inAt, .ref a_inScript, .ref a_inEnd, .ref a_outAt, .ref a_outScript, .ref a_outEnd, .int i_end, .int i_at, .int i_ins, .int i_outs])), (a_raw, .inl (cy 0, n_raw, .inl g_raw)), (a_firstOut, .inl (cy 1, 301, .inl g_firstOut)), (a_outAt, .inl (cy 1, 333, .inl g_outAt))] H := hP
    have hD : va_D A [(a_txAt, .inl (cy 1, 301, .inl g_txAt)), (a_firstIn, .inl (cy 1, 301, .inl g_firstIn)), (a_inAt, .inl (cy 1, 73, .inl g_inAt)), (a_inScript, .inl (cy 1, 73, .inl g_inScript)), (a_inEnd, .inl (cy 1, 73, .inl g_inEnd)), (a_outScript, .inl (cy 1, 333, .inl g_outScript)), (a_outEnd, .inl (cy 1, 333, .inl g_outEnd)), (o, .inr (4, [.ref a_raw, .int i_txs, .ref a_txAt, .ref a_firstIn, .ref a_firstOut, .ref a_inAt, .ref a_inScript, .ref a_inEnd, .ref a_outAt, .ref a_outScript, .ref a_outEnd, .int i_end, .int i_at, .int i_ins, .int i_outs])), (a_raw, .inl (cy 0, n_raw, .inl g_raw)), (a_firstOut, .inl (cy 1, 301, .inl g_firstOut)), (a_outAt, .inl (cy 1, 333, .inl g_outAt))] := hD
    refine lv_if_eq (tgt := 41) hx hb d_La_isSound_18 (by decide) (fun cx => ?_) (fun cx => ?_)
    · have hf := ifp cx hf
      refine lv_iconst (v := 0) hx hb d_La_isSound_41 (by decide) ?_
      obtain rfl := Option.some.inj hf
      exact q_rz hx hb hr hlocks hK (hP.sub [7, 8, 0, 1, 9, 2, 3, 4, 10, 5, 6] rfl) (hD.sub [7, 8, 0, 1, 9, 2, 3, 4, 10, 5, 6] (by decide) rfl) hS (isb_n (v := 0) (by decide)) d_La_isSound_42
    · have hf := ifn cx hf
      refine lv_aload_n hx hb d_La_isSound_21 rfl (lv_at hl 0 rfl) ?_
      refine lv_iload hx hb d_La_isSound_22 (lv_at hl 3 rfl) ?_
      obtain ⟨v4, hc, hf⟩ := bdp1 hf
      refine q_ai (wr := [(a_txAt, .inl (cy 1, 301, .inl g_txAt)), (a_inScript, .inl (cy 1, 73, .inl g_inScript)), (a_inEnd, .inl (cy 1, 73, .inl g_inEnd)), (a_outScript, .inl (cy 1, 333, .inl g_outScript)), (a_outEnd, .inl (cy 1, 333, .inl g_outEnd)), (a_firstOut, .inl (cy 1, 301, .inl g_firstOut)), (a_outAt, .inl (cy 1, 333, .inl g_outAt))]) (va_runV (C := "CoinKeeper$Layout") (As := [.int x4]) (rest := []) ⟨hx, hb, hml, hown, hts⟩ (c_La_inputsAreSound l D cy ad fu o (.ref a_txAt) (.ref a_firstOut) (.ref a_inScript) (.ref a_inEnd) (.ref a_outAt) (.ref a_outScript) (.ref a_outEnd) a_raw a_firstIn a_inAt i_txs i_end i_at i_ins i_outs n_raw g_raw g_firstIn g_inAt x4 _ hc H.size) ⟨q_cB hts gw_808 gw_8 gw_805 hdc_36 ⟨by decide, by decide⟩, hts _ gw_807, hts _ gs_14⟩ (q_preV (q_pre (hP.sub [7, 8, 1, 2] rfl) (hD.sub [7, 8, 1, 2] (by decide) rfl) hK hSt hS (va_free hD hS hA [7, 8, 1, 2] rfl) _) (va_recv hK (hP.sub [7, 8, 1, 2] rfl) (ci := 4) (q0 := 0) rfl rfl)) rfl rfl hl.1 rfl (lv_room (Nat.le_of_ble_eq_true rfl)) d_La_isSound_24 ⟨Nat.le_of_ble_eq_true rfl, Nat.le_of_ble_eq_true rfl⟩) hP hD hS hA [7, 8, 1, 2] [0, 3, 4, 5, 6, 9, 10] rfl rfl (by decide) (by decide) (fun H locs hP hD hS => ?_)
      clear hc
      have hP : va_P D classes [(a_txAt, .inl (cy 1, 301, .inl g_txAt)), (a_inScript, .inl (cy 1, 73, .inl g_inScript)), (a_inEnd, .inl (cy 1, 73, .inl g_inEnd)), (a_outScript, .inl (cy 1, 333, .inl g_outScript)), (a_outEnd, .inl (cy 1, 333, .inl g_outEnd)), (a_firstOut, .inl (cy 1, 301, .inl g_firstOut)), (a_outAt, .inl (cy 1, 333, .inl g_outAt)), (o, .inr (4, [.ref a_raw, .int i_txs, .ref a_txAt, .ref a_firstIn, .ref a_firstOut, .ref a_inAt, .ref a_inScript, .ref a_inEnd, .ref a_outAt, .ref a_outScript, .ref a_outEnd, .int i_end, .int i_at, .int i_ins, .int i_outs])), (a_raw, .inl (cy 0, n_raw, .inl g_raw)), (a_firstIn, .inl (cy 1, 301, .inl g_firstIn)), (a_inAt, .inl (cy 1, 73, .inl g_inAt))] H := hP
      have hD : va_D A [(a_txAt, .inl (cy 1, 301, .inl g_txAt)), (a_inScript, .inl (cy 1, 73, .inl g_inScript)), (a_inEnd, .inl (cy 1, 73, .inl g_inEnd)), (a_outScript, .inl (cy 1, 333, .inl g_outScript)), (a_outEnd, .inl (cy 1, 333, .inl g_outEnd)), (a_firstOut, .inl (cy 1, 301, .inl g_firstOut)), (a_outAt, .inl (cy 1, 333, .inl g_outAt)), (o, .inr (4, [.ref a_raw, .int i_txs, .ref a_txAt, .ref a_firstIn, .ref a_firstOut, .ref a_inAt, .ref a_inScript, .ref a_inEnd, .ref a_outAt, .ref a_outScript, .ref a_outEnd, .int i_end, .int i_at, .int i_ins, .int i_outs])), (a_raw, .inl (cy 0, n_raw, .inl g_raw)), (a_firstIn, .inl (cy 1, 301, .inl g_firstIn)), (a_inAt, .inl (cy 1, 73, .inl g_inAt))] := hD
      refine lv_if_eq (tgt := 41) hx hb d_La_isSound_27 (by decide) (fun cx => ?_) (fun cx => ?_)
      · have hf := ifp cx hf
        refine lv_iconst (v := 0) hx hb d_La_isSound_41 (by decide) ?_
        obtain rfl := Option.some.inj hf
        exact q_rz hx hb hr hlocks hK (hP.sub [7, 8, 0, 9, 5, 10, 1, 2, 6, 3, 4] rfl) (hD.sub [7, 8, 0, 9, 5, 10, 1, 2, 6, 3, 4] (by decide) rfl) hS (isb_n (v := 0) (by decide)) d_La_isSound_42
      · have hf := ifn cx hf
        refine lv_aload_n hx hb d_La_isSound_30 rfl (lv_at hl 0 rfl) ?_
        refine lv_iload hx hb d_La_isSound_31 (lv_at hl 3 rfl) ?_
        refine lv_iload_n hx hb d_La_isSound_33 rfl (lv_at hl 1 rfl) ?_
        refine lv_lload_n hx hb d_La_isSound_34 rfl (lv_at hl 2 rfl) ?_
        obtain ⟨v5, hc, hf⟩ := bdp1 hf
        refine q_ai (wr := [(a_inScript, .inl (cy 1, 73, .inl g_inScript)), (a_outScript, .inl (cy 1, 333, .inl g_outScript)), (a_outEnd, .inl (cy 1, 333, .inl g_outEnd)), (a_firstOut, .inl (cy 1, 301, .inl g_firstOut)), (a_outAt, .inl (cy 1, 333, .inl g_outAt)), (a_inAt, .inl (cy 1, 73, .inl g_inAt))]) (va_runV (C := "CoinKeeper$Layout") (As := [.int x4, .int x1, .long x2]) (rest := []) ⟨hx, hb, hml, hown, hts⟩ (c_La_isFinal l D cy ad fu o (.ref a_firstOut) (.ref a_inAt) (.ref a_inScript) (.ref a_outAt) (.ref a_outScript) (.ref a_outEnd) a_raw a_txAt a_firstIn a_inEnd i_txs i_end i_at i_ins i_outs n_raw g_raw g_txAt g_firstIn g_inEnd x4 x1 x2 _ hc H.size) ⟨q_cB hts gw_816 gw_8 gw_813 hdc_37 ⟨by decide, by decide⟩, hts _ gw_815, hts _ gs_16⟩ (q_preV (q_pre (hP.sub [7, 8, 0, 9, 2] rfl) (hD.sub [7, 8, 0, 9, 2] (by decide) rfl) hK hSt hS (va_free hD hS hA [7, 8, 0, 9, 2] rfl) _) (va_recv hK (hP.sub [7, 8, 0, 9, 2] rfl) (ci := 4) (q0 := 0) rfl rfl)) rfl rfl hl.1 rfl (lv_room (Nat.le_of_ble_eq_true rfl)) d_La_isSound_35 ⟨Nat.le_of_ble_eq_true rfl, Nat.le_of_ble_eq_true rfl⟩) hP hD hS hA [7, 8, 0, 9, 2] [1, 3, 4, 5, 6, 10] rfl rfl (by decide) (by decide) (fun H locs hP hD hS => ?_)
        clear hc
        have hP : va_P D classes [(a_inScript, .inl (cy 1, 73, .inl g_inScript)), (a_outScript, .inl (cy 1, 333, .inl g_outScript)), (a_outEnd, .inl (cy 1, 333, .inl g_outEnd)), (a_firstOut, .inl (cy 1, 301, .inl g_firstOut)), (a_outAt, .inl (cy 1, 333, .inl g_outAt)), (a_inAt, .inl (cy 1, 73, .inl g_inAt)), (o, .inr (4, [.ref a_raw, .int i_txs, .ref a_txAt, .ref a_firstIn, .ref a_firstOut, .ref a_inAt, .ref a_inScript, .ref a_inEnd, .ref a_outAt, .ref a_outScript, .ref a_outEnd, .int i_end, .int i_at, .int i_ins, .int i_outs])), (a_raw, .inl (cy 0, n_raw, .inl g_raw)), (a_txAt, .inl (cy 1, 301, .inl g_txAt)), (a_firstIn, .inl (cy 1, 301, .inl g_firstIn)), (a_inEnd, .inl (cy 1, 73, .inl g_inEnd))] H := hP
        have hD : va_D A [(a_inScript, .inl (cy 1, 73, .inl g_inScript)), (a_outScript, .inl (cy 1, 333, .inl g_outScript)), (a_outEnd, .inl (cy 1, 333, .inl g_outEnd)), (a_firstOut, .inl (cy 1, 301, .inl g_firstOut)), (a_outAt, .inl (cy 1, 333, .inl g_outAt)), (a_inAt, .inl (cy 1, 73, .inl g_inAt)), (o, .inr (4, [.ref a_raw, .int i_txs, .ref a_txAt, .ref a_firstIn, .ref a_firstOut, .ref a_inAt, .ref a_inScript, .ref a_inEnd, .ref a_outAt, .ref a_outScript, .ref a_outEnd, .int i_end, .int i_at, .int i_ins, .int i_outs])), (a_raw, .inl (cy 0, n_raw, .inl g_raw)), (a_txAt, .inl (cy 1, 301, .inl g_txAt)), (a_firstIn, .inl (cy 1, 301, .inl g_firstIn)), (a_inEnd, .inl (cy 1, 73, .inl g_inEnd))] := hD
        refine lv_if_ne (tgt := 43) hx hb d_La_isSound_38 (by decide) (fun cx => ?_) (fun cx => ?_)
        · have hf := ifn cx hf
          obtain ⟨v6, ev, hf⟩ := bne hf
          refine lv_iinc (v := v6) (lv' := [(4, .int v6), (0, .ref o), (1, .int x1), (2, .long x2)]) hx hb d_La_isSound_43 hl (k := 3) rfl (by rw [ev]; rfl) (by decide) rfl (fun ls hl => ?_)
          clear ev
          refine lv_goto (tgt := 3) hx hb d_La_isSound_46 (by decide) ?_
          exact hk_3 _ _ _ _ hf _ _ _ (hP.sub (ws' := [(o, .inr (4, [.ref a_raw, .int i_txs, .ref a_txAt, .ref a_firstIn, .ref a_firstOut, .ref a_inAt, .ref a_inScript, .ref a_inEnd, .ref a_outAt, .ref a_outScript, .ref a_outEnd, .int i_end, .int i_at, .int i_ins, .int i_outs])), (a_raw, .inl (cy 0, n_raw, .inl g_raw)), (a_txAt, .inl (cy 1, 301, .inl g_txAt)), (a_firstIn, .inl (cy 1, 301, .inl g_firstIn)), (a_firstOut, .inl (cy 1, 301, .inl g_firstOut)), (a_inAt, .inl (cy 1, 73, .inl g_inAt)), (a_inScript, .inl (cy 1, 73, .inl g_inScript)), (a_inEnd, .inl (cy 1, 73, .inl g_inEnd)), (a_outAt, .inl (cy 1, 333, .inl g_outAt)), (a_outScript, .inl (cy 1, 333, .inl g_outScript)), (a_outEnd, .inl (cy 1, 333, .inl g_outEnd))]) [6, 7, 8, 9, 3, 5, 0, 10, 4, 1, 2] rfl) (hD.sub (ws' := [(o, .inr (4, [.ref a_raw, .int i_txs, .ref a_txAt, .ref a_firstIn, .ref a_firstOut, .ref a_inAt, .ref a_inScript, .ref a_inEnd, .ref a_outAt, .ref a_outScript, .ref a_outEnd, .int i_end, .int i_at, .int i_ins, .int i_outs])), (a_raw, .inl (cy 0, n_raw, .inl g_raw)), (a_txAt, .inl (cy 1, 301, .inl g_txAt)), (a_firstIn, .inl (cy 1, 301, .inl g_firstIn)), (a_firstOut, .inl (cy 1, 301, .inl g_firstOut)), (a_inAt, .inl (cy 1, 73, .inl g_inAt)), (a_inScript, .inl (cy 1, 73, .inl g_inScript)), (a_inEnd, .inl (cy 1, 73, .inl g_inEnd)), (a_outAt, .inl (cy 1, 333, .inl g_outAt)), (a_outScript, .inl (cy 1, 333, .inl g_outScript)), (a_outEnd, .inl (cy 1, 333, .inl g_outEnd))]) [6, 7, 8, 9, 3, 5, 0, 10, 4, 1, 2] (by decide) rfl) hS (lv_sub hl [1, 2, 3, 0] rfl)
        · have hf := ifp cx hf
          refine lv_iconst (v := 0) hx hb d_La_isSound_41 (by decide) ?_
          obtain rfl := Option.some.inj hf
          exact q_rz hx hb hr hlocks hK (hP.sub [6, 7, 8, 9, 3, 5, 0, 10, 4, 1, 2] rfl) (hD.sub [6, 7, 8, 9, 3, 5, 0, 10, 4, 1, 2] (by decide) rfl) hS (isb_n (v := 0) (by decide)) d_La_isSound_42
theorem w_La_isSound_3 {p : Program} {l : Launch} {e : Env} {s : State} {m : MethodId} {args : Array Value} {below : List Frame} {meth : Method} {c : Code} {D : va_G} {cy : Nat → ClassId} {A : Nat → Prop} {ad : Nat → Nat} {o : Nat} {a_raw : Nat} {a_txAt : Nat} {a_firstIn : Nat} {a_firstOut : Nat} {a_inAt : Nat} {a_inScript : Nat} {a_inEnd : Nat} {a_outAt : Nat} {a_outScript : Nat} {a_outEnd : Nat} {i_txs : Int32} {i_end : Int32} {i_at : Int32} {i_ins : Int32} {i_outs : Int32} {n_raw : Nat} {g_raw : Nat → Int32} {g_txAt : Nat → Int32} {g_firstIn : Nat → Int32} {g_firstOut : Nat → Int32} {g_inAt : Nat → Int32} {g_inScript : Nat → Int32} {g_inEnd : Nat → Int32} {g_outAt : Nat → Int32} {g_outScript : Nat → Int32} {g_outEnd : Nat → Int32} {fu : Nat} (F : Fx p s m args meth c b_La_isSound 5 "CoinKeeper$Layout" "isSound" (some .boolean) D cy ad A) : ∀ n : Nat, I_La_isSound_3 p l e s m args below meth c D cy A ad o a_raw a_txAt a_firstIn a_firstOut a_inAt a_inScript a_inEnd a_outAt a_outScript a_outEnd i_txs i_end i_at i_ins i_outs n_raw g_raw g_txAt g_firstIn g_firstOut g_inAt g_inScript g_inEnd g_outAt g_outScript g_outEnd (x_La_isSound_3 fu i_txs i_end i_at i_ins i_outs n_raw g_raw g_txAt g_firstIn g_firstOut g_inAt g_inScript g_inEnd g_outAt g_outScript g_outEnd n)
  | 0 => fun _ _ _ _ hf => nomatch (show (none : Option (Int32)) = some _ from hf)
  | n + 1 => wb_La_isSound_3 F (w_La_isSound_3 F n)
set_option maxHeartbeats 8000000 in
set_option maxRecDepth 100000 in
theorem we_La_isSound {p : Program} {l : Launch} {e : Env} {s : State} {m : MethodId} {args : Array Value} {below : List Frame} {meth : Method} {c : Code} {D : va_G} {cy : Nat → ClassId} {A : Nat → Prop} {ad : Nat → Nat} {o : Nat} {a_raw : Nat} {a_txAt : Nat} {a_firstIn : Nat} {a_firstOut : Nat} {a_inAt : Nat} {a_inScript : Nat} {a_inEnd : Nat} {a_outAt : Nat} {a_outScript : Nat} {a_outEnd : Nat} {i_txs : Int32} {i_end : Int32} {i_at : Int32} {i_ins : Int32} {i_outs : Int32} {n_raw : Nat} {g_raw : Nat → Int32} {g_txAt : Nat → Int32} {g_firstIn : Nat → Int32} {g_firstOut : Nat → Int32} {g_inAt : Nat → Int32} {g_inScript : Nat → Int32} {g_inEnd : Nat → Int32} {g_outAt : Nat → Int32} {g_outScript : Nat → Int32} {g_outEnd : Nat → Int32} {fu : Nat} (F : Fx p s m args meth c b_La_isSound 5 "CoinKeeper$Layout" "isSound" (some .boolean) D cy ad A) : I_La_isSound_e p l e s m args below meth c D cy A ad o a_raw a_txAt a_firstIn a_firstOut a_inAt a_inScript a_inEnd a_outAt a_outScript a_outEnd i_txs i_end i_at i_ins i_outs n_raw g_raw g_txAt g_firstIn g_firstOut g_inAt g_inScript g_inEnd g_outAt g_outScript g_outEnd (x_La_isSound fu i_txs i_end i_at i_ins i_outs n_raw g_raw g_txAt g_firstIn g_firstOut g_inAt g_inScript g_inEnd g_outAt g_outScript g_outEnd) := by
  obtain ⟨hx, hb, hr, hml, hown, hts, hlocks, hK, hA, hSt, hnm, hex⟩ := id F
  intro a1 a2 res hf H locs ls hP hD hS hl
  unfold x_La_isSound at hf
  refine lv_iconst (v := 0) hx hb d_La_isSound_0 (by decide) ?_
  refine lv_istore (lv' := [(4, .int (0 : Int32)), (0, .ref o), (1, .int a1), (2, .long a2)]) hx hb d_La_isSound_1 hl (by decide) rfl (fun ls hl => ?_)
  exact w_La_isSound_3 F fu _ _ _ _ hf _ _ _ hP hD hS (lv_sub hl [1, 2, 3, 0] rfl)
theorem c_La_isSound (l : Launch) (D : va_G) (cy : Nat → ClassId) (ad : Nat → Nat) (fu : Nat) (o : Nat) (a_raw : Nat) (a_txAt : Nat) (a_firstIn : Nat) (a_firstOut : Nat) (a_inAt : Nat) (a_inScript : Nat) (a_inEnd : Nat) (a_outAt : Nat) (a_outScript : Nat) (a_outEnd : Nat) (i_txs : Int32) (i_end : Int32) (i_at : Int32) (i_ins : Int32) (i_outs : Int32) (n_raw : Nat) (g_raw : Nat → Int32) (g_txAt : Nat → Int32) (g_firstIn : Nat → Int32) (g_firstOut : Nat → Int32) (g_inAt : Nat → Int32) (g_inScript : Nat → Int32) (g_inEnd : Nat → Int32) (g_outAt : Nat → Int32) (g_outScript : Nat → Int32) (g_outEnd : Nat → Int32) (a1 : Int32) (a2 : Int64) (res : Int32) (hf : x_La_isSound fu i_txs i_end i_at i_ins i_outs n_raw g_raw g_txAt g_firstIn g_firstOut g_inAt g_inScript g_inEnd g_outAt g_outScript g_outEnd a1 a2 = some res) (sz : Nat) : Met l ({ cls := "CoinKeeper$Layout", name := "isSound", desc := "(IJ)Z" } : Jvm.MethodName) (.code ({ cls := "CoinKeeper$Layout", name := "isSound", desc := "(IJ)Z" } : Jvm.MethodName) b_La_isSound 5 (some .boolean) :: gw) rm_La_isSound (va_Pc [.ref o, .int a1, .long a2] (Pr D cy ad [(o, .inr (4, [.ref a_raw, .int i_txs, .ref a_txAt, .ref a_firstIn, .ref a_firstOut, .ref a_inAt, .ref a_inScript, .ref a_inEnd, .ref a_outAt, .ref a_outScript, .ref a_outEnd, .int i_end, .int i_at, .int i_ins, .int i_outs])), (a_raw, .inl (cy 0, n_raw, .inl g_raw)), (a_txAt, .inl (cy 1, 301, .inl g_txAt)), (a_firstIn, .inl (cy 1, 301, .inl g_firstIn)), (a_firstOut, .inl (cy 1, 301, .inl g_firstOut)), (a_inAt, .inl (cy 1, 73, .inl g_inAt)), (a_inScript, .inl (cy 1, 73, .inl g_inScript)), (a_inEnd, .inl (cy 1, 73, .inl g_inEnd)), (a_outAt, .inl (cy 1, 333, .inl g_outAt)), (a_outScript, .inl (cy 1, 333, .inl g_outScript)), (a_outEnd, .inl (cy 1, 333, .inl g_outEnd))] sz)) (q_La_isSound D cy (va_A [(o, .inr (4, [.ref a_raw, .int i_txs, .ref a_txAt, .ref a_firstIn, .ref a_firstOut, .ref a_inAt, .ref a_inScript, .ref a_inEnd, .ref a_outAt, .ref a_outScript, .ref a_outEnd, .int i_end, .int i_at, .int i_ins, .int i_outs])), (a_raw, .inl (cy 0, n_raw, .inl g_raw)), (a_txAt, .inl (cy 1, 301, .inl g_txAt)), (a_firstIn, .inl (cy 1, 301, .inl g_firstIn)), (a_firstOut, .inl (cy 1, 301, .inl g_firstOut)), (a_inAt, .inl (cy 1, 73, .inl g_inAt)), (a_inScript, .inl (cy 1, 73, .inl g_inScript)), (a_inEnd, .inl (cy 1, 73, .inl g_inEnd)), (a_outAt, .inl (cy 1, 333, .inl g_outAt)), (a_outScript, .inl (cy 1, 333, .inl g_outScript)), (a_outEnd, .inl (cy 1, 333, .inl g_outEnd))] sz) o a_raw a_txAt a_firstIn a_firstOut a_inAt a_inScript a_inEnd a_outAt a_outScript a_outEnd i_txs i_end i_at i_ins i_outs n_raw g_raw g_txAt g_firstIn g_firstOut g_inAt g_inScript g_inEnd g_outAt g_outScript g_outEnd res) 0 0 (va_A [(o, .inr (4, [.ref a_raw, .int i_txs, .ref a_txAt, .ref a_firstIn, .ref a_firstOut, .ref a_inAt, .ref a_inScript, .ref a_inEnd, .ref a_outAt, .ref a_outScript, .ref a_outEnd, .int i_end, .int i_at, .int i_ins, .int i_outs])), (a_raw, .inl (cy 0, n_raw, .inl g_raw)), (a_txAt, .inl (cy 1, 301, .inl g_txAt)), (a_firstIn, .inl (cy 1, 301, .inl g_firstIn)), (a_firstOut, .inl (cy 1, 301, .inl g_firstOut)), (a_inAt, .inl (cy 1, 73, .inl g_inAt)), (a_inScript, .inl (cy 1, 73, .inl g_inScript)), (a_inEnd, .inl (cy 1, 73, .inl g_inEnd)), (a_outAt, .inl (cy 1, 333, .inl g_outAt)), (a_outScript, .inl (cy 1, 333, .inl g_outScript)), (a_outEnd, .inl (cy 1, 333, .inl g_outEnd))] sz) :=
  q_met (Qc := fun A => q_La_isSound D cy A o a_raw a_txAt a_firstIn a_firstOut a_inAt a_inScript a_inEnd a_outAt a_outScript a_outEnd i_txs i_end i_at i_ins i_outs n_raw g_raw g_txAt g_firstIn g_firstOut g_inAt g_inScript g_inEnd g_outAt g_outScript g_outEnd res) (by decide) rfl rfl (Nat.le_of_ble_eq_true rfl) (fun p e s m below meth c ls F hP hD hS hl => we_La_isSound (fu := fu) F a1 a2 res hf _ _ _ hP hD hS hl) sz
