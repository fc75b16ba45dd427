abbrev b_M_big : ByteArray := prog_14_method_6_code
theorem d_M_big_0 : decode b_M_big 0 = .ok (.aload_n 0, 1) := by decide +kernel
theorem d_M_big_1 : decode b_M_big 1 = .ok (.iload_n 1, 1) := by decide +kernel
theorem d_M_big_2 : decode b_M_big 2 = .ok (.baload, 1) := by decide +kernel
theorem d_M_big_3 : decode b_M_big 3 = .ok (.sipush 255, 3) := by decide +kernel
theorem d_M_big_6 : decode b_M_big 6 = .ok (.iand, 1) := by decide +kernel
theorem d_M_big_7 : decode b_M_big 7 = .ok (.bipush 24, 2) := by decide +kernel
theorem d_M_big_9 : decode b_M_big 9 = .ok (.ishl, 1) := by decide +kernel
theorem d_M_big_10 : decode b_M_big 10 = .ok (.aload_n 0, 1) := by decide +kernel
theorem d_M_big_11 : decode b_M_big 11 = .ok (.iload_n 1, 1) := by decide +kernel
theorem d_M_big_12 : decode b_M_big 12 = .ok (.iconst 1, 1) := by decide +kernel
theorem d_M_big_13 : decode b_M_big 13 = .ok (.iadd, 1) := by decide +kernel
theorem d_M_big_14 : decode b_M_big 14 = .ok (.baload, 1) := by decide +kernel
theorem d_M_big_15 : decode b_M_big 15 = .ok (.sipush 255, 3) := by decide +kernel
theorem d_M_big_18 : decode b_M_big 18 = .ok (.iand, 1) := by decide +kernel
theorem d_M_big_19 : decode b_M_big 19 = .ok (.bipush 16, 2) := by decide +kernel
theorem d_M_big_21 : decode b_M_big 21 = .ok (.ishl, 1) := by decide +kernel
theorem d_M_big_22 : decode b_M_big 22 = .ok (.ior, 1) := by decide +kernel
theorem d_M_big_23 : decode b_M_big 23 = .ok (.aload_n 0, 1) := by decide +kernel
theorem d_M_big_24 : decode b_M_big 24 = .ok (.iload_n 1, 1) := by decide +kernel
theorem d_M_big_25 : decode b_M_big 25 = .ok (.iconst 2, 1) := by decide +kernel
theorem d_M_big_26 : decode b_M_big 26 = .ok (.iadd, 1) := by decide +kernel
theorem d_M_big_27 : decode b_M_big 27 = .ok (.baload, 1) := by decide +kernel
theorem d_M_big_28 : decode b_M_big 28 = .ok (.sipush 255, 3) := by decide +kernel
theorem d_M_big_31 : decode b_M_big 31 = .ok (.iand, 1) := by decide +kernel
theorem d_M_big_32 : decode b_M_big 32 = .ok (.bipush 8, 2) := by decide +kernel
theorem d_M_big_34 : decode b_M_big 34 = .ok (.ishl, 1) := by decide +kernel
theorem d_M_big_35 : decode b_M_big 35 = .ok (.ior, 1) := by decide +kernel
theorem d_M_big_36 : decode b_M_big 36 = .ok (.aload_n 0, 1) := by decide +kernel
theorem d_M_big_37 : decode b_M_big 37 = .ok (.iload_n 1, 1) := by decide +kernel
theorem d_M_big_38 : decode b_M_big 38 = .ok (.iconst 3, 1) := by decide +kernel
theorem d_M_big_39 : decode b_M_big 39 = .ok (.iadd, 1) := by decide +kernel
theorem d_M_big_40 : decode b_M_big 40 = .ok (.baload, 1) := by decide +kernel
theorem d_M_big_41 : decode b_M_big 41 = .ok (.sipush 255, 3) := by decide +kernel
theorem d_M_big_44 : decode b_M_big 44 = .ok (.iand, 1) := by decide +kernel
theorem d_M_big_45 : decode b_M_big 45 = .ok (.ior, 1) := by decide +kernel
theorem d_M_big_46 : decode b_M_big 46 = .ok (.ireturn, 1) := by decide +kernel
abbrev rm_M_big : Room := { frames := 0, cells := 0, slots := 0, locals := 0 }
abbrev q_M_big (D : va_G) (cy : Nat → ClassId) (A : Nat → Prop) (b0 : Nat) (n0 : Nat) (h0 : Nat → Int32) (res : Int32) : Array Value → State → Outcome → State → Prop := va_Qi (fun r' (_ : Unit) => r' = res) (fun _ t => Po D cy A [(b0, .inl (cy 0, n0, .inl h0))] t) A
def I_M_big_e (p : Program) (l : Launch) (e : Env) (s : State) (m : MethodId) (args : Array Value) (below : List Frame) (meth : Method) (c : Code) (D : va_G) (cy : Nat → ClassId) (A : Nat → Prop) (ad : Nat → Nat) (b0 : Nat) (n0 : Nat) (h0 : Nat → Int32) (k : Int32 → Option (Int32)) : Prop :=
  ∀ (a1 : Int32) (res : Int32), k a1 = some res → ∀ (H : Heap) (locs : List Loc) (ls : Array Slot), va_P D classes [(b0, .inl (cy 0, n0, .inl h0))] H → va_D A [(b0, .inl (cy 0, n0, .inl h0))] → va_S A s.heap H locs → lv_has ls 2 [(0, .ref b0), (1, .int a1)] → W p l e rm_M_big s m args below meth c H locs 0 0 (MQ below (q_M_big D cy A b0 n0 h0 res) args s 0 0 A) (F0 m 0 ls [])
set_option maxHeartbeats 8000000 in
set_option maxRecDepth 100000 in
theorem we_M_big {p : Program} {l : Launch} {e : Env} {s : State} {m : MethodId} {args : Array Value} {below : List Frame} {meth : Method} {c : Code} {D : va_G} {cy : Nat → ClassId} {A : Nat → Prop} {ad : Nat → Nat} {b0 : Nat} {n0 : Nat} {h0 : Nat → Int32} {fu : Nat} (F : Fx p s m args meth c b_M_big 2 "CoinKeeperModel" "big" (some .int) D cy ad A) : I_M_big_e p l e s m args below meth c D cy A ad b0 n0 h0 (x_M_big fu n0 h0) := by
  obtain ⟨hx, hb, hr, hml, hown, hts, hlocks, hK, hA, hSt, hnm, hex⟩ := id F
  intro a1 res hf H locs ls hP hD hS hl
  unfold x_M_big at hf
  refine lv_aload_n hx hb d_M_big_0 rfl (lv_at hl 0 rfl) ?_
  refine lv_iload_n hx hb d_M_big_1 rfl (lv_at hl 1 rfl) ?_
  obtain ⟨hg, hf⟩ := gdp hf
  refine va_bald hx hb hK hP 0 0 rfl rfl (inb_in hg) d_M_big_2 ?_
  refine lv_topi (fun v1 ev => ?_)
  have hf := bn ev hf
  clear ev
  refine lv_sipush (v := 255) hx hb d_M_big_3 (by decide) ?_
  refine lv_iand hx hb d_M_big_6 ?_
  refine lv_topi (fun v2 ev => ?_)
  have hf := bn ev hf
  clear ev
  refine lv_bipush (v := 24) hx hb d_M_big_7 (by decide) ?_
  refine lv_ishl hx hb d_M_big_9 ?_
  refine lv_topi (fun v3 ev => ?_)
  have hf := bn ev hf
  clear ev
  refine lv_aload_n hx hb d_M_big_10 rfl (lv_at hl 0 rfl) ?_
  refine lv_iload_n hx hb d_M_big_11 rfl (lv_at hl 1 rfl) ?_
  refine lv_iconst (v := 1) hx hb d_M_big_12 (by decide) ?_
  refine lv_iadd hx hb d_M_big_13 ?_
  refine lv_topi (fun v4 ev => ?_)
  have hf := bn ev hf
  clear ev
  obtain ⟨hg, hf⟩ := gdp hf
  refine va_bald hx hb hK hP 0 0 rfl rfl (inb_in hg) d_M_big_14 ?_
  refine lv_topi (fun v5 ev => ?_)
  have hf := bn ev hf
  clear ev
  refine lv_sipush (v := 255) hx hb d_M_big_15 (by decide) ?_
  refine lv_iand hx hb d_M_big_18 ?_
  refine lv_topi (fun v6 ev => ?_)
  have hf := bn ev hf
  clear ev
  refine lv_bipush (v := 16) hx hb d_M_big_19 (by decide) ?_
  refine lv_ishl hx hb d_M_big_21 ?_
  refine lv_ior hx hb d_M_big_22 ?_
  refine lv_topi (fun v7 ev => ?_)
  have hf := bn ev hf
  clear ev
  refine lv_aload_n hx hb d_M_big_23 rfl (lv_at hl 0 rfl) ?_
  refine lv_iload_n hx hb d_M_big_24 rfl (lv_at hl 1 rfl) ?_
  refine lv_iconst (v := 2) hx hb d_M_big_25 (by decide) ?_
  refine lv_iadd hx hb d_M_big_26 ?_
  refine lv_topi (fun v8 ev => ?_)
  have hf := bn ev hf
  clear ev
  obtain ⟨hg, hf⟩ := gdp hf
  refine va_bald hx hb hK hP 0 0 rfl rfl (inb_in hg) d_M_big_27 ?_
  refine lv_topi (fun v9 ev => ?_)
  have hf := bn ev hf
  clear ev
  refine lv_sipush (v := 255) hx hb d_M_big_28 (by decide) ?_
  refine lv_iand hx hb d_M_big_31 ?_
  refine lv_topi (fun v10 ev => ?_)
  have hf := bn ev hf
  clear ev
  refine lv_bipush (v := 8) hx hb d_M_big_32 (by decide) ?_
  refine lv_ishl hx hb d_M_big_34 ?_
  refine lv_ior hx hb d_M_big_35 ?_
  refine lv_topi (fun v11 ev => ?_)
  have hf := bn ev hf
  clear ev
  refine lv_aload_n hx hb d_M_big_36 rfl (lv_at hl 0 rfl) ?_
  refine lv_iload_n hx hb d_M_big_37 rfl (lv_at hl 1 rfl) ?_
  refine lv_iconst (v := 3) hx hb d_M_big_38 (by decide) ?_
  refine lv_iadd hx hb d_M_big_39 ?_
  refine lv_topi (fun v12 ev => ?_)
  have hf := bn ev hf
  clear ev
  obtain ⟨hg, hf⟩ := gdp hf
  refine va_bald hx hb hK hP 0 0 rfl rfl (inb_in hg) d_M_big_40 ?_
  refine lv_topi (fun v13 ev => ?_)
  have hf := bn ev hf
  clear ev
  refine lv_sipush (v := 255) hx hb d_M_big_41 (by decide) ?_
  refine lv_iand hx hb d_M_big_44 ?_
  refine lv_ior hx hb d_M_big_45 ?_
  refine lv_topi (fun v14 ev => ?_)
  have hf := bn ev hf
  clear ev
  obtain rfl := Option.some.inj hf
  exact q_ri hx hb hr hlocks hK hP hD hS d_M_big_46
theorem c_M_big (l : Launch) (D : va_G) (cy : Nat → ClassId) (ad : Nat → Nat) (fu : Nat) (b0 : Nat) (n0 : Nat) (h0 : Nat → Int32) (a1 : Int32) (res : Int32) (hf : x_M_big fu n0 h0 a1 = some res) (sz : Nat) : Met l ({ cls := "CoinKeeperModel", name := "big", desc := "([BI)I" } : Jvm.MethodName) (.code ({ cls := "CoinKeeperModel", name := "big", desc := "([BI)I" } : Jvm.MethodName) b_M_big 2 (some .int) :: gw) rm_M_big (va_Pc [.ref b0, .int a1] (Pr D cy ad [(b0, .inl (cy 0, n0, .inl h0))] sz)) (q_M_big D cy (va_A [(b0, .inl (cy 0, n0, .inl h0))] sz) b0 n0 h0 res) 0 0 (va_A [(b0, .inl (cy 0, n0, .inl h0))] sz) :=
  q_met (Qc := fun A => q_M_big D cy A b0 n0 h0 res) (by decide) rfl rfl (Nat.le_of_ble_eq_true rfl) (fun p e s m below meth c ls F hP hD hS hl => we_M_big (fu := fu) F a1 res hf _ _ _ hP hD hS hl) sz
abbrev b_M_turn : ByteArray := prog_14_method_3_code
theorem d_M_turn_0 : decode b_M_turn 0 = .ok (.iload_n 0, 1) := by decide +kernel
theorem d_M_turn_1 : decode b_M_turn 1 = .ok (.iload_n 1, 1) := by decide +kernel
theorem d_M_turn_2 : decode b_M_turn 2 = .ok (.iushr, 1) := by decide +kernel
theorem d_M_turn_3 : decode b_M_turn 3 = .ok (.iload_n 0, 1) := by decide +kernel
theorem d_M_turn_4 : decode b_M_turn 4 = .ok (.bipush 32, 2) := by decide +kernel
theorem d_M_turn_6 : decode b_M_turn 6 = .ok (.iload_n 1, 1) := by decide +kernel
theorem d_M_turn_7 : decode b_M_turn 7 = .ok (.isub, 1) := by decide +kernel
theorem d_M_turn_8 : decode b_M_turn 8 = .ok (.ishl, 1) := by decide +kernel
theorem d_M_turn_9 : decode b_M_turn 9 = .ok (.ior, 1) := by decide +kernel
theorem d_M_turn_10 : decode b_M_turn 10 = .ok (.ireturn, 1) := by decide +kernel
abbrev rm_M_turn : Room := { frames := 0, cells := 0, slots := 0, locals := 0 }
abbrev q_M_turn (D : va_G) (cy : Nat → ClassId) (A : Nat → Prop) (res : Int32) : Array Value → State → Outcome → State → Prop := va_Qi (fun r' (_ : Unit) => r' = res) (fun _ t => Po D cy A [] t) A
def I_M_turn_e (p : Program) (l : Launch) (e : Env) (s : State) (m : MethodId) (args : Array Value) (below : List Frame) (meth : Method) (c : Code) (D : va_G) (cy : Nat → ClassId) (A : Nat → Prop) (ad : Nat → Nat) (k : Int32 → Int32 → Option (Int32)) : Prop :=
  ∀ (a0 : Int32) (a1 : Int32) (res : Int32), k a0 a1 = some res → ∀ (H : Heap) (locs : List Loc) (ls : Array Slot), va_P D classes [] H → va_D A [] → va_S A s.heap H locs → lv_has ls 2 [(0, .int a0), (1, .int a1)] → W p l e rm_M_turn s m args below meth c H locs 0 0 (MQ below (q_M_turn D cy A res) args s 0 0 A) (F0 m 0 ls [])
set_option maxHeartbeats 8000000 in
set_option maxRecDepth 100000 in
theorem we_M_turn {p : Program} {l : Launch} {e : Env} {s : State} {m : MethodId} {args : Array Value} {below : List Frame} {meth : Method} {c : Code} {D : va_G} {cy : Nat → ClassId} {A : Nat → Prop} {ad : Nat → Nat} {fu : Nat} (F : Fx p s m args meth c b_M_turn 2 "CoinKeeperModel" "turn" (some .int) D cy ad A) : I_M_turn_e p l e s m args below meth c D cy A ad (x_M_turn fu) := by
  obtain ⟨hx, hb, hr, hml, hown, hts, hlocks, hK, hA, hSt, hnm, hex⟩ := id F
  intro a0 a1 res hf H locs ls hP hD hS hl
  unfold x_M_turn at hf
  refine lv_iload_n hx hb d_M_turn_0 rfl (lv_at hl 0 rfl) ?_
  refine lv_iload_n hx hb d_M_turn_1 rfl (lv_at hl 1 rfl) ?_
  refine lv_iushr hx hb d_M_turn_2 rfl ?_
  refine lv_topi (fun v1 ev => ?_)
  have hf := bn ev hf
  clear ev
  refine lv_iload_n hx hb d_M_turn_3 rfl (lv_at hl 0 rfl) ?_
  refine lv_bipush (v := 32) hx hb d_M_turn_4 (by decide) ?_
  refine lv_iload_n hx hb d_M_turn_6 rfl (lv_at hl 1 rfl) ?_
  refine lv_isub hx hb d_M_turn_7 ?_
  refine lv_ishl hx hb d_M_turn_8 ?_
  refine lv_ior hx hb d_M_turn_9 ?_
  refine lv_topi (fun v2 ev => ?_)
  have hf := bn ev hf
  clear ev
  obtain rfl := Option.some.inj hf
  exact q_ri hx hb hr hlocks hK hP hD hS d_M_turn_10
theorem c_M_turn (l : Launch) (D : va_G) (cy : Nat → ClassId) (ad : Nat → Nat) (fu : Nat) (a0 : Int32) (a1 : Int32) (res : Int32) (hf : x_M_turn fu a0 a1 = some res) (sz : Nat) : Met l ({ cls := "CoinKeeperModel", name := "turn", desc := "(II)I" } : Jvm.MethodName) (.code ({ cls := "CoinKeeperModel", name := "turn", desc := "(II)I" } : Jvm.MethodName) b_M_turn 2 (some .int) :: gw) rm_M_turn (va_Pc [.int a0, .int a1] (Pr D cy ad [] sz)) (q_M_turn D cy (va_A [] sz) res) 0 0 (va_A [] sz) :=
  q_met (Qc := fun A => q_M_turn D cy A res) (by decide) rfl rfl (Nat.le_of_ble_eq_true rfl) (fun p e s m below meth c ls F hP hD hS hl => we_M_turn (fu := fu) F a0 a1 res hf _ _ _ hP hD hS hl) sz
abbrev b_M_sha : ByteArray := prog_14_method_4_code
theorem d_M_sha_0 : decode b_M_sha 0 = .ok (.iload_n 3, 1) := by decide +kernel
theorem d_M_sha_1 : decode b_M_sha 1 = .ok (.bipush 9, 2) := by decide +kernel
theorem d_M_sha_3 : decode b_M_sha 3 = .ok (.iadd, 1) := by decide +kernel
theorem d_M_sha_4 : decode b_M_sha 4 = .ok (.bipush 63, 2) := by decide +kernel
theorem d_M_sha_6 : decode b_M_sha 6 = .ok (.iadd, 1) := by decide +kernel
theorem d_M_sha_7 : decode b_M_sha 7 = .ok (.bipush 64, 2) := by decide +kernel
theorem d_M_sha_9 : decode b_M_sha 9 = .ok (.idiv, 1) := by decide +kernel
theorem d_M_sha_10 : decode b_M_sha 10 = .ok (.istore 4, 2) := by decide +kernel
theorem d_M_sha_12 : decode b_M_sha 12 = .ok (.bipush 64, 2) := by decide +kernel
theorem d_M_sha_14 : decode b_M_sha 14 = .ok (.iload 4, 2) := by decide +kernel
theorem d_M_sha_16 : decode b_M_sha 16 = .ok (.imul, 1) := by decide +kernel
theorem d_M_sha_17 : decode b_M_sha 17 = .ok (.istore 5, 2) := by decide +kernel
theorem d_M_sha_19 : decode b_M_sha 19 = .ok (.aload_n 1, 1) := by decide +kernel
theorem d_M_sha_20 : decode b_M_sha 20 = .ok (.iload_n 2, 1) := by decide +kernel
theorem d_M_sha_21 : decode b_M_sha 21 = .ok (.aload_n 0, 1) := by decide +kernel
theorem d_M_sha_22 : decode b_M_sha 22 = .ok (.getfield 127, 3) := by decide +kernel
theorem d_M_sha_25 : decode b_M_sha 25 = .ok (.iconst 0, 1) := by decide +kernel
theorem d_M_sha_26 : decode b_M_sha 26 = .ok (.iload_n 3, 1) := by decide +kernel
theorem d_M_sha_27 : decode b_M_sha 27 = .ok (.invokestatic 271, 3) := by decide +kernel
theorem d_M_sha_30 : decode b_M_sha 30 = .ok (.iload_n 3, 1) := by decide +kernel
theorem d_M_sha_31 : decode b_M_sha 31 = .ok (.istore 6, 2) := by decide +kernel
theorem d_M_sha_33 : decode b_M_sha 33 = .ok (.iload 6, 2) := by decide +kernel
theorem d_M_sha_35 : decode b_M_sha 35 = .ok (.iload 5, 2) := by decide +kernel
theorem d_M_sha_37 : decode b_M_sha 37 = .ok (.if_icmp .ge 17, 3) := by decide +kernel
theorem d_M_sha_40 : decode b_M_sha 40 = .ok (.aload_n 0, 1) := by decide +kernel
theorem d_M_sha_41 : decode b_M_sha 41 = .ok (.getfield 127, 3) := by decide +kernel
theorem d_M_sha_44 : decode b_M_sha 44 = .ok (.iload 6, 2) := by decide +kernel
theorem d_M_sha_46 : decode b_M_sha 46 = .ok (.iconst 0, 1) := by decide +kernel
theorem d_M_sha_47 : decode b_M_sha 47 = .ok (.bastore, 1) := by decide +kernel
theorem d_M_sha_48 : decode b_M_sha 48 = .ok (.iinc 6 1, 3) := by decide +kernel
theorem d_M_sha_51 : decode b_M_sha 51 = .ok (.goto (-18), 3) := by decide +kernel
theorem d_M_sha_54 : decode b_M_sha 54 = .ok (.aload_n 0, 1) := by decide +kernel
theorem d_M_sha_55 : decode b_M_sha 55 = .ok (.getfield 127, 3) := by decide +kernel
theorem d_M_sha_58 : decode b_M_sha 58 = .ok (.iload_n 3, 1) := by decide +kernel
theorem d_M_sha_59 : decode b_M_sha 59 = .ok (.bipush (-128), 2) := by decide +kernel
theorem d_M_sha_61 : decode b_M_sha 61 = .ok (.bastore, 1) := by decide +kernel
theorem d_M_sha_62 : decode b_M_sha 62 = .ok (.iconst 0, 1) := by decide +kernel
theorem d_M_sha_63 : decode b_M_sha 63 = .ok (.istore 6, 2) := by decide +kernel
theorem d_M_sha_65 : decode b_M_sha 65 = .ok (.iload 6, 2) := by decide +kernel
theorem d_M_sha_67 : decode b_M_sha 67 = .ok (.bipush 8, 2) := by decide +kernel
theorem d_M_sha_69 : decode b_M_sha 69 = .ok (.if_icmp .ge 35, 3) := by decide +kernel
theorem d_M_sha_72 : decode b_M_sha 72 = .ok (.aload_n 0, 1) := by decide +kernel
theorem d_M_sha_73 : decode b_M_sha 73 = .ok (.getfield 127, 3) := by decide +kernel
theorem d_M_sha_76 : decode b_M_sha 76 = .ok (.iload 5, 2) := by decide +kernel
theorem d_M_sha_78 : decode b_M_sha 78 = .ok (.iconst 1, 1) := by decide +kernel
theorem d_M_sha_79 : decode b_M_sha 79 = .ok (.isub, 1) := by decide +kernel
theorem d_M_sha_80 : decode b_M_sha 80 = .ok (.iload 6, 2) := by decide +kernel
theorem d_M_sha_82 : decode b_M_sha 82 = .ok (.isub, 1) := by decide +kernel
theorem d_M_sha_83 : decode b_M_sha 83 = .ok (.ldc2_w 277, 3) := by decide +kernel
theorem d_M_sha_86 : decode b_M_sha 86 = .ok (.iload_n 3, 1) := by decide +kernel
theorem d_M_sha_87 : decode b_M_sha 87 = .ok (.i2l, 1) := by decide +kernel
theorem d_M_sha_88 : decode b_M_sha 88 = .ok (.lmul, 1) := by decide +kernel
theorem d_M_sha_89 : decode b_M_sha 89 = .ok (.bipush 8, 2) := by decide +kernel
theorem d_M_sha_91 : decode b_M_sha 91 = .ok (.iload 6, 2) := by decide +kernel
theorem d_M_sha_93 : decode b_M_sha 93 = .ok (.imul, 1) := by decide +kernel
theorem d_M_sha_94 : decode b_M_sha 94 = .ok (.lshr, 1) := by decide +kernel
theorem d_M_sha_95 : decode b_M_sha 95 = .ok (.l2i, 1) := by decide +kernel
theorem d_M_sha_96 : decode b_M_sha 96 = .ok (.i2b, 1) := by decide +kernel
theorem d_M_sha_97 : decode b_M_sha 97 = .ok (.bastore, 1) := by decide +kernel
theorem d_M_sha_98 : decode b_M_sha 98 = .ok (.iinc 6 1, 3) := by decide +kernel
theorem d_M_sha_101 : decode b_M_sha 101 = .ok (.goto (-36), 3) := by decide +kernel
theorem d_M_sha_104 : decode b_M_sha 104 = .ok (.getstatic 279, 3) := by decide +kernel
theorem d_M_sha_107 : decode b_M_sha 107 = .ok (.iconst 0, 1) := by decide +kernel
theorem d_M_sha_108 : decode b_M_sha 108 = .ok (.aload_n 0, 1) := by decide +kernel
theorem d_M_sha_109 : decode b_M_sha 109 = .ok (.getfield 117, 3) := by decide +kernel
theorem d_M_sha_112 : decode b_M_sha 112 = .ok (.iconst 0, 1) := by decide +kernel
theorem d_M_sha_113 : decode b_M_sha 113 = .ok (.bipush 8, 2) := by decide +kernel
theorem d_M_sha_115 : decode b_M_sha 115 = .ok (.invokestatic 271, 3) := by decide +kernel
theorem d_M_sha_118 : decode b_M_sha 118 = .ok (.iconst 0, 1) := by decide +kernel
theorem d_M_sha_119 : decode b_M_sha 119 = .ok (.istore 6, 2) := by decide +kernel
theorem d_M_sha_121 : decode b_M_sha 121 = .ok (.iload 6, 2) := by decide +kernel
theorem d_M_sha_123 : decode b_M_sha 123 = .ok (.iload 4, 2) := by decide +kernel
theorem d_M_sha_125 : decode b_M_sha 125 = .ok (.if_icmp .ge 469, 3) := by decide +kernel
theorem d_M_sha_128 : decode b_M_sha 128 = .ok (.iconst 0, 1) := by decide +kernel
theorem d_M_sha_129 : decode b_M_sha 129 = .ok (.istore 7, 2) := by decide +kernel
theorem d_M_sha_131 : decode b_M_sha 131 = .ok (.iload 7, 2) := by decide +kernel
theorem d_M_sha_133 : decode b_M_sha 133 = .ok (.bipush 16, 2) := by decide +kernel
theorem d_M_sha_135 : decode b_M_sha 135 = .ok (.if_icmp .ge 33, 3) := by decide +kernel
theorem d_M_sha_138 : decode b_M_sha 138 = .ok (.aload_n 0, 1) := by decide +kernel
theorem d_M_sha_139 : decode b_M_sha 139 = .ok (.getfield 120, 3) := by decide +kernel
theorem d_M_sha_142 : decode b_M_sha 142 = .ok (.iload 7, 2) := by decide +kernel
theorem d_M_sha_144 : decode b_M_sha 144 = .ok (.aload_n 0, 1) := by decide +kernel
theorem d_M_sha_145 : decode b_M_sha 145 = .ok (.getfield 127, 3) := by decide +kernel
theorem d_M_sha_148 : decode b_M_sha 148 = .ok (.bipush 64, 2) := by decide +kernel
theorem d_M_sha_150 : decode b_M_sha 150 = .ok (.iload 6, 2) := by decide +kernel
theorem d_M_sha_152 : decode b_M_sha 152 = .ok (.imul, 1) := by decide +kernel
theorem d_M_sha_153 : decode b_M_sha 153 = .ok (.iconst 4, 1) := by decide +kernel
theorem d_M_sha_154 : decode b_M_sha 154 = .ok (.iload 7, 2) := by decide +kernel
theorem d_M_sha_156 : decode b_M_sha 156 = .ok (.imul, 1) := by decide +kernel
theorem d_M_sha_157 : decode b_M_sha 157 = .ok (.iadd, 1) := by decide +kernel
theorem d_M_sha_158 : decode b_M_sha 158 = .ok (.invokestatic 282, 3) := by decide +kernel
theorem d_M_sha_161 : decode b_M_sha 161 = .ok (.iastore, 1) := by decide +kernel
theorem d_M_sha_162 : decode b_M_sha 162 = .ok (.iinc 7 1, 3) := by decide +kernel
theorem d_M_sha_165 : decode b_M_sha 165 = .ok (.goto (-34), 3) := by decide +kernel
theorem d_M_sha_168 : decode b_M_sha 168 = .ok (.bipush 16, 2) := by decide +kernel
theorem d_M_sha_170 : decode b_M_sha 170 = .ok (.istore 7, 2) := by decide +kernel
theorem d_M_sha_172 : decode b_M_sha 172 = .ok (.iload 7, 2) := by decide +kernel
theorem d_M_sha_174 : decode b_M_sha 174 = .ok (.bipush 64, 2) := by decide +kernel
theorem d_M_sha_176 : decode b_M_sha 176 = .ok (.if_icmp .ge 103, 3) := by decide +kernel
theorem d_M_sha_179 : decode b_M_sha 179 = .ok (.aload_n 0, 1) := by decide +kernel
theorem d_M_sha_180 : decode b_M_sha 180 = .ok (.getfield 120, 3) := by decide +kernel
theorem d_M_sha_183 : decode b_M_sha 183 = .ok (.iload 7, 2) := by decide +kernel
theorem d_M_sha_185 : decode b_M_sha 185 = .ok (.bipush 15, 2) := by decide +kernel
theorem d_M_sha_187 : decode b_M_sha 187 = .ok (.isub, 1) := by decide +kernel
theorem d_M_sha_188 : decode b_M_sha 188 = .ok (.iaload, 1) := by decide +kernel
theorem d_M_sha_189 : decode b_M_sha 189 = .ok (.istore 8, 2) := by decide +kernel
theorem d_M_sha_191 : decode b_M_sha 191 = .ok (.aload_n 0, 1) := by decide +kernel
theorem d_M_sha_192 : decode b_M_sha 192 = .ok (.getfield 120, 3) := by decide +kernel
theorem d_M_sha_195 : decode b_M_sha 195 = .ok (.iload 7, 2) := by decide +kernel
theorem d_M_sha_197 : decode b_M_sha 197 = .ok (.iconst 2, 1) := by decide +kernel
theorem d_M_sha_198 : decode b_M_sha 198 = .ok (.isub, 1) := by decide +kernel
theorem d_M_sha_199 : decode b_M_sha 199 = .ok (.iaload, 1) := by decide +kernel
theorem d_M_sha_200 : decode b_M_sha 200 = .ok (.istore 9, 2) := by decide +kernel
theorem d_M_sha_202 : decode b_M_sha 202 = .ok (.aload_n 0, 1) := by decide +kernel
theorem d_M_sha_203 : decode b_M_sha 203 = .ok (.getfield 120, 3) := by decide +kernel
theorem d_M_sha_206 : decode b_M_sha 206 = .ok (.iload 7, 2) := by decide +kernel
theorem d_M_sha_208 : decode b_M_sha 208 = .ok (.aload_n 0, 1) := by decide +kernel
theorem d_M_sha_209 : decode b_M_sha 209 = .ok (.getfield 120, 3) := by decide +kernel
theorem d_M_sha_212 : decode b_M_sha 212 = .ok (.iload 7, 2) := by decide +kernel
theorem d_M_sha_214 : decode b_M_sha 214 = .ok (.bipush 16, 2) := by decide +kernel
theorem d_M_sha_216 : decode b_M_sha 216 = .ok (.isub, 1) := by decide +kernel
theorem d_M_sha_217 : decode b_M_sha 217 = .ok (.iaload, 1) := by decide +kernel
theorem d_M_sha_218 : decode b_M_sha 218 = .ok (.iload 8, 2) := by decide +kernel
theorem d_M_sha_220 : decode b_M_sha 220 = .ok (.bipush 7, 2) := by decide +kernel
theorem d_M_sha_222 : decode b_M_sha 222 = .ok (.invokestatic 286, 3) := by decide +kernel
theorem d_M_sha_225 : decode b_M_sha 225 = .ok (.iload 8, 2) := by decide +kernel
theorem d_M_sha_227 : decode b_M_sha 227 = .ok (.bipush 18, 2) := by decide +kernel
theorem d_M_sha_229 : decode b_M_sha 229 = .ok (.invokestatic 286, 3) := by decide +kernel
theorem d_M_sha_232 : decode b_M_sha 232 = .ok (.ixor, 1) := by decide +kernel
theorem d_M_sha_233 : decode b_M_sha 233 = .ok (.iload 8, 2) := by decide +kernel
theorem d_M_sha_235 : decode b_M_sha 235 = .ok (.iconst 3, 1) := by decide +kernel
theorem d_M_sha_236 : decode b_M_sha 236 = .ok (.iushr, 1) := by decide +kernel
theorem d_M_sha_237 : decode b_M_sha 237 = .ok (.ixor, 1) := by decide +kernel
theorem d_M_sha_238 : decode b_M_sha 238 = .ok (.iadd, 1) := by decide +kernel
theorem d_M_sha_239 : decode b_M_sha 239 = .ok (.aload_n 0, 1) := by decide +kernel
theorem d_M_sha_240 : decode b_M_sha 240 = .ok (.getfield 120, 3) := by decide +kernel
theorem d_M_sha_243 : decode b_M_sha 243 = .ok (.iload 7, 2) := by decide +kernel
theorem d_M_sha_245 : decode b_M_sha 245 = .ok (.bipush 7, 2) := by decide +kernel
theorem d_M_sha_247 : decode b_M_sha 247 = .ok (.isub, 1) := by decide +kernel
theorem d_M_sha_248 : decode b_M_sha 248 = .ok (.iaload, 1) := by decide +kernel
theorem d_M_sha_249 : decode b_M_sha 249 = .ok (.iadd, 1) := by decide +kernel
theorem d_M_sha_250 : decode b_M_sha 250 = .ok (.iload 9, 2) := by decide +kernel
theorem d_M_sha_252 : decode b_M_sha 252 = .ok (.bipush 17, 2) := by decide +kernel
theorem d_M_sha_254 : decode b_M_sha 254 = .ok (.invokestatic 286, 3) := by decide +kernel
theorem d_M_sha_257 : decode b_M_sha 257 = .ok (.iload 9, 2) := by decide +kernel
theorem d_M_sha_259 : decode b_M_sha 259 = .ok (.bipush 19, 2) := by decide +kernel
theorem d_M_sha_261 : decode b_M_sha 261 = .ok (.invokestatic 286, 3) := by decide +kernel
theorem d_M_sha_264 : decode b_M_sha 264 = .ok (.ixor, 1) := by decide +kernel
theorem d_M_sha_265 : decode b_M_sha 265 = .ok (.iload 9, 2) := by decide +kernel
theorem d_M_sha_267 : decode b_M_sha 267 = .ok (.bipush 10, 2) := by decide +kernel
theorem d_M_sha_269 : decode b_M_sha 269 = .ok (.iushr, 1) := by decide +kernel
theorem d_M_sha_270 : decode b_M_sha 270 = .ok (.ixor, 1) := by decide +kernel
theorem d_M_sha_271 : decode b_M_sha 271 = .ok (.iadd, 1) := by decide +kernel
theorem d_M_sha_272 : decode b_M_sha 272 = .ok (.iastore, 1) := by decide +kernel
theorem d_M_sha_273 : decode b_M_sha 273 = .ok (.iinc 7 1, 3) := by decide +kernel
theorem d_M_sha_276 : decode b_M_sha 276 = .ok (.goto (-104), 3) := by decide +kernel
theorem d_M_sha_279 : decode b_M_sha 279 = .ok (.aload_n 0, 1) := by decide +kernel
theorem d_M_sha_280 : decode b_M_sha 280 = .ok (.getfield 117, 3) := by decide +kernel
theorem d_M_sha_283 : decode b_M_sha 283 = .ok (.iconst 0, 1) := by decide +kernel
theorem d_M_sha_284 : decode b_M_sha 284 = .ok (.iaload, 1) := by decide +kernel
theorem d_M_sha_285 : decode b_M_sha 285 = .ok (.istore 7, 2) := by decide +kernel
theorem d_M_sha_287 : decode b_M_sha 287 = .ok (.aload_n 0, 1) := by decide +kernel
theorem d_M_sha_288 : decode b_M_sha 288 = .ok (.getfield 117, 3) := by decide +kernel
theorem d_M_sha_291 : decode b_M_sha 291 = .ok (.iconst 1, 1) := by decide +kernel
theorem d_M_sha_292 : decode b_M_sha 292 = .ok (.iaload, 1) := by decide +kernel
theorem d_M_sha_293 : decode b_M_sha 293 = .ok (.istore 8, 2) := by decide +kernel
theorem d_M_sha_295 : decode b_M_sha 295 = .ok (.aload_n 0, 1) := by decide +kernel
theorem d_M_sha_296 : decode b_M_sha 296 = .ok (.getfield 117, 3) := by decide +kernel
theorem d_M_sha_299 : decode b_M_sha 299 = .ok (.iconst 2, 1) := by decide +kernel
theorem d_M_sha_300 : decode b_M_sha 300 = .ok (.iaload, 1) := by decide +kernel
theorem d_M_sha_301 : decode b_M_sha 301 = .ok (.istore 9, 2) := by decide +kernel
theorem d_M_sha_303 : decode b_M_sha 303 = .ok (.aload_n 0, 1) := by decide +kernel
theorem d_M_sha_304 : decode b_M_sha 304 = .ok (.getfield 117, 3) := by decide +kernel
theorem d_M_sha_307 : decode b_M_sha 307 = .ok (.iconst 3, 1) := by decide +kernel
theorem d_M_sha_308 : decode b_M_sha 308 = .ok (.iaload, 1) := by decide +kernel
theorem d_M_sha_309 : decode b_M_sha 309 = .ok (.istore 10, 2) := by decide +kernel
theorem d_M_sha_311 : decode b_M_sha 311 = .ok (.aload_n 0, 1) := by decide +kernel
theorem d_M_sha_312 : decode b_M_sha 312 = .ok (.getfield 117, 3) := by decide +kernel
theorem d_M_sha_315 : decode b_M_sha 315 = .ok (.iconst 4, 1) := by decide +kernel
theorem d_M_sha_316 : decode b_M_sha 316 = .ok (.iaload, 1) := by decide +kernel
theorem d_M_sha_317 : decode b_M_sha 317 = .ok (.istore 11, 2) := by decide +kernel
theorem d_M_sha_319 : decode b_M_sha 319 = .ok (.aload_n 0, 1) := by decide +kernel
theorem d_M_sha_320 : decode b_M_sha 320 = .ok (.getfield 117, 3) := by decide +kernel
theorem d_M_sha_323 : decode b_M_sha 323 = .ok (.iconst 5, 1) := by decide +kernel
theorem d_M_sha_324 : decode b_M_sha 324 = .ok (.iaload, 1) := by decide +kernel
theorem d_M_sha_325 : decode b_M_sha 325 = .ok (.istore 12, 2) := by decide +kernel
theorem d_M_sha_327 : decode b_M_sha 327 = .ok (.aload_n 0, 1) := by decide +kernel
theorem d_M_sha_328 : decode b_M_sha 328 = .ok (.getfield 117, 3) := by decide +kernel
theorem d_M_sha_331 : decode b_M_sha 331 = .ok (.bipush 6, 2) := by decide +kernel
theorem d_M_sha_333 : decode b_M_sha 333 = .ok (.iaload, 1) := by decide +kernel
theorem d_M_sha_334 : decode b_M_sha 334 = .ok (.istore 13, 2) := by decide +kernel
theorem d_M_sha_336 : decode b_M_sha 336 = .ok (.aload_n 0, 1) := by decide +kernel
theorem d_M_sha_337 : decode b_M_sha 337 = .ok (.getfield 117, 3) := by decide +kernel
theorem d_M_sha_340 : decode b_M_sha 340 = .ok (.bipush 7, 2) := by decide +kernel
theorem d_M_sha_342 : decode b_M_sha 342 = .ok (.iaload, 1) := by decide +kernel
theorem d_M_sha_343 : decode b_M_sha 343 = .ok (.istore 14, 2) := by decide +kernel
theorem d_M_sha_345 : decode b_M_sha 345 = .ok (.iconst 0, 1) := by decide +kernel
theorem d_M_sha_346 : decode b_M_sha 346 = .ok (.istore 15, 2) := by decide +kernel
theorem d_M_sha_348 : decode b_M_sha 348 = .ok (.iload 15, 2) := by decide +kernel
theorem d_M_sha_350 : decode b_M_sha 350 = .ok (.bipush 64, 2) := by decide +kernel
theorem d_M_sha_352 : decode b_M_sha 352 = .ok (.if_icmp .ge 146, 3) := by decide +kernel
theorem d_M_sha_355 : decode b_M_sha 355 = .ok (.iload 14, 2) := by decide +kernel
theorem d_M_sha_357 : decode b_M_sha 357 = .ok (.iload 11, 2) := by decide +kernel
theorem d_M_sha_359 : decode b_M_sha 359 = .ok (.bipush 6, 2) := by decide +kernel
theorem d_M_sha_361 : decode b_M_sha 361 = .ok (.invokestatic 286, 3) := by decide +kernel
theorem d_M_sha_364 : decode b_M_sha 364 = .ok (.iload 11, 2) := by decide +kernel
theorem d_M_sha_366 : decode b_M_sha 366 = .ok (.bipush 11, 2) := by decide +kernel
theorem d_M_sha_368 : decode b_M_sha 368 = .ok (.invokestatic 286, 3) := by decide +kernel
theorem d_M_sha_371 : decode b_M_sha 371 = .ok (.ixor, 1) := by decide +kernel
theorem d_M_sha_372 : decode b_M_sha 372 = .ok (.iload 11, 2) := by decide +kernel
theorem d_M_sha_374 : decode b_M_sha 374 = .ok (.bipush 25, 2) := by decide +kernel
theorem d_M_sha_376 : decode b_M_sha 376 = .ok (.invokestatic 286, 3) := by decide +kernel
theorem d_M_sha_379 : decode b_M_sha 379 = .ok (.ixor, 1) := by decide +kernel
theorem d_M_sha_380 : decode b_M_sha 380 = .ok (.iadd, 1) := by decide +kernel
theorem d_M_sha_381 : decode b_M_sha 381 = .ok (.iload 11, 2) := by decide +kernel
theorem d_M_sha_383 : decode b_M_sha 383 = .ok (.iload 12, 2) := by decide +kernel
theorem d_M_sha_385 : decode b_M_sha 385 = .ok (.iand, 1) := by decide +kernel
theorem d_M_sha_386 : decode b_M_sha 386 = .ok (.iload 11, 2) := by decide +kernel
theorem d_M_sha_388 : decode b_M_sha 388 = .ok (.iconst (-1), 1) := by decide +kernel
theorem d_M_sha_389 : decode b_M_sha 389 = .ok (.ixor, 1) := by decide +kernel
theorem d_M_sha_390 : decode b_M_sha 390 = .ok (.iload 13, 2) := by decide +kernel
theorem d_M_sha_392 : decode b_M_sha 392 = .ok (.iand, 1) := by decide +kernel
theorem d_M_sha_393 : decode b_M_sha 393 = .ok (.ixor, 1) := by decide +kernel
theorem d_M_sha_394 : decode b_M_sha 394 = .ok (.iadd, 1) := by decide +kernel
theorem d_M_sha_395 : decode b_M_sha 395 = .ok (.getstatic 290, 3) := by decide +kernel
theorem d_M_sha_398 : decode b_M_sha 398 = .ok (.iload 15, 2) := by decide +kernel
theorem d_M_sha_400 : decode b_M_sha 400 = .ok (.iaload, 1) := by decide +kernel
theorem d_M_sha_401 : decode b_M_sha 401 = .ok (.iadd, 1) := by decide +kernel
theorem d_M_sha_402 : decode b_M_sha 402 = .ok (.aload_n 0, 1) := by decide +kernel
theorem d_M_sha_403 : decode b_M_sha 403 = .ok (.getfield 120, 3) := by decide +kernel
theorem d_M_sha_406 : decode b_M_sha 406 = .ok (.iload 15, 2) := by decide +kernel
theorem d_M_sha_408 : decode b_M_sha 408 = .ok (.iaload, 1) := by decide +kernel
theorem d_M_sha_409 : decode b_M_sha 409 = .ok (.iadd, 1) := by decide +kernel
theorem d_M_sha_410 : decode b_M_sha 410 = .ok (.istore 16, 2) := by decide +kernel
theorem d_M_sha_412 : decode b_M_sha 412 = .ok (.iload 7, 2) := by decide +kernel
theorem d_M_sha_414 : decode b_M_sha 414 = .ok (.iconst 2, 1) := by decide +kernel
theorem d_M_sha_415 : decode b_M_sha 415 = .ok (.invokestatic 286, 3) := by decide +kernel
theorem d_M_sha_418 : decode b_M_sha 418 = .ok (.iload 7, 2) := by decide +kernel
theorem d_M_sha_420 : decode b_M_sha 420 = .ok (.bipush 13, 2) := by decide +kernel
theorem d_M_sha_422 : decode b_M_sha 422 = .ok (.invokestatic 286, 3) := by decide +kernel
theorem d_M_sha_425 : decode b_M_sha 425 = .ok (.ixor, 1) := by decide +kernel
theorem d_M_sha_426 : decode b_M_sha 426 = .ok (.iload 7, 2) := by decide +kernel
theorem d_M_sha_428 : decode b_M_sha 428 = .ok (.bipush 22, 2) := by decide +kernel
theorem d_M_sha_430 : decode b_M_sha 430 = .ok (.invokestatic 286, 3) := by decide +kernel
theorem d_M_sha_433 : decode b_M_sha 433 = .ok (.ixor, 1) := by decide +kernel
theorem d_M_sha_434 : decode b_M_sha 434 = .ok (.iload 7, 2) := by decide +kernel
theorem d_M_sha_436 : decode b_M_sha 436 = .ok (.iload 8, 2) := by decide +kernel
theorem d_M_sha_438 : decode b_M_sha 438 = .ok (.iand, 1) := by decide +kernel
theorem d_M_sha_439 : decode b_M_sha 439 = .ok (.iload 7, 2) := by decide +kernel
theorem d_M_sha_441 : decode b_M_sha 441 = .ok (.iload 9, 2) := by decide +kernel
theorem d_M_sha_443 : decode b_M_sha 443 = .ok (.iand, 1) := by decide +kernel
theorem d_M_sha_444 : decode b_M_sha 444 = .ok (.ixor, 1) := by decide +kernel
theorem d_M_sha_445 : decode b_M_sha 445 = .ok (.iload 8, 2) := by decide +kernel
theorem d_M_sha_447 : decode b_M_sha 447 = .ok (.iload 9, 2) := by decide +kernel
theorem d_M_sha_449 : decode b_M_sha 449 = .ok (.iand, 1) := by decide +kernel
theorem d_M_sha_450 : decode b_M_sha 450 = .ok (.ixor, 1) := by decide +kernel
theorem d_M_sha_451 : decode b_M_sha 451 = .ok (.iadd, 1) := by decide +kernel
theorem d_M_sha_452 : decode b_M_sha 452 = .ok (.istore 17, 2) := by decide +kernel
theorem d_M_sha_454 : decode b_M_sha 454 = .ok (.iload 13, 2) := by decide +kernel
theorem d_M_sha_456 : decode b_M_sha 456 = .ok (.istore 14, 2) := by decide +kernel
theorem d_M_sha_458 : decode b_M_sha 458 = .ok (.iload 12, 2) := by decide +kernel
theorem d_M_sha_460 : decode b_M_sha 460 = .ok (.istore 13, 2) := by decide +kernel
theorem d_M_sha_462 : decode b_M_sha 462 = .ok (.iload 11, 2) := by decide +kernel
theorem d_M_sha_464 : decode b_M_sha 464 = .ok (.istore 12, 2) := by decide +kernel
theorem d_M_sha_466 : decode b_M_sha 466 = .ok (.iload 10, 2) := by decide +kernel
theorem d_M_sha_468 : decode b_M_sha 468 = .ok (.iload 16, 2) := by decide +kernel
theorem d_M_sha_470 : decode b_M_sha 470 = .ok (.iadd, 1) := by decide +kernel
theorem d_M_sha_471 : decode b_M_sha 471 = .ok (.istore 11, 2) := by decide +kernel
theorem d_M_sha_473 : decode b_M_sha 473 = .ok (.iload 9, 2) := by decide +kernel
theorem d_M_sha_475 : decode b_M_sha 475 = .ok (.istore 10, 2) := by decide +kernel
theorem d_M_sha_477 : decode b_M_sha 477 = .ok (.iload 8, 2) := by decide +kernel
theorem d_M_sha_479 : decode b_M_sha 479 = .ok (.istore 9, 2) := by decide +kernel
theorem d_M_sha_481 : decode b_M_sha 481 = .ok (.iload 7, 2) := by decide +kernel
theorem d_M_sha_483 : decode b_M_sha 483 = .ok (.istore 8, 2) := by decide +kernel
theorem d_M_sha_485 : decode b_M_sha 485 = .ok (.iload 16, 2) := by decide +kernel
theorem d_M_sha_487 : decode b_M_sha 487 = .ok (.iload 17, 2) := by decide +kernel
theorem d_M_sha_489 : decode b_M_sha 489 = .ok (.iadd, 1) := by decide +kernel
theorem d_M_sha_490 : decode b_M_sha 490 = .ok (.istore 7, 2) := by decide +kernel
theorem d_M_sha_492 : decode b_M_sha 492 = .ok (.iinc 15 1, 3) := by decide +kernel
theorem d_M_sha_495 : decode b_M_sha 495 = .ok (.goto (-147), 3) := by decide +kernel
theorem d_M_sha_498 : decode b_M_sha 498 = .ok (.aload_n 0, 1) := by decide +kernel
theorem d_M_sha_499 : decode b_M_sha 499 = .ok (.getfield 117, 3) := by decide +kernel
theorem d_M_sha_502 : decode b_M_sha 502 = .ok (.iconst 0, 1) := by decide +kernel
theorem d_M_sha_503 : decode b_M_sha 503 = .ok (.dup2, 1) := by decide +kernel
theorem d_M_sha_504 : decode b_M_sha 504 = .ok (.iaload, 1) := by decide +kernel
theorem d_M_sha_505 : decode b_M_sha 505 = .ok (.iload 7, 2) := by decide +kernel
theorem d_M_sha_507 : decode b_M_sha 507 = .ok (.iadd, 1) := by decide +kernel
theorem d_M_sha_508 : decode b_M_sha 508 = .ok (.iastore, 1) := by decide +kernel
theorem d_M_sha_509 : decode b_M_sha 509 = .ok (.aload_n 0, 1) := by decide +kernel
theorem d_M_sha_510 : decode b_M_sha 510 = .ok (.getfield 117, 3) := by decide +kernel
theorem d_M_sha_513 : decode b_M_sha 513 = .ok (.iconst 1, 1) := by decide +kernel
theorem d_M_sha_514 : decode b_M_sha 514 = .ok (.dup2, 1) := by decide +kernel
theorem d_M_sha_515 : decode b_M_sha 515 = .ok (.iaload, 1) := by decide +kernel
theorem d_M_sha_516 : decode b_M_sha 516 = .ok (.iload 8, 2) := by decide +kernel
theorem d_M_sha_518 : decode b_M_sha 518 = .ok (.iadd, 1) := by decide +kernel
theorem d_M_sha_519 : decode b_M_sha 519 = .ok (.iastore, 1) := by decide +kernel
theorem d_M_sha_520 : decode b_M_sha 520 = .ok (.aload_n 0, 1) := by decide +kernel
theorem d_M_sha_521 : decode b_M_sha 521 = .ok (.getfield 117, 3) := by decide +kernel
theorem d_M_sha_524 : decode b_M_sha 524 = .ok (.iconst 2, 1) := by decide +kernel
theorem d_M_sha_525 : decode b_M_sha 525 = .ok (.dup2, 1) := by decide +kernel
theorem d_M_sha_526 : decode b_M_sha 526 = .ok (.iaload, 1) := by decide +kernel
theorem d_M_sha_527 : decode b_M_sha 527 = .ok (.iload 9, 2) := by decide +kernel
theorem d_M_sha_529 : decode b_M_sha 529 = .ok (.iadd, 1) := by decide +kernel
theorem d_M_sha_530 : decode b_M_sha 530 = .ok (.iastore, 1) := by decide +kernel
theorem d_M_sha_531 : decode b_M_sha 531 = .ok (.aload_n 0, 1) := by decide +kernel
theorem d_M_sha_532 : decode b_M_sha 532 = .ok (.getfield 117, 3) := by decide +kernel
theorem d_M_sha_535 : decode b_M_sha 535 = .ok (.iconst 3, 1) := by decide +kernel
theorem d_M_sha_536 : decode b_M_sha 536 = .ok (.dup2, 1) := by decide +kernel
theorem d_M_sha_537 : decode b_M_sha 537 = .ok (.iaload, 1) := by decide +kernel
theorem d_M_sha_538 : decode b_M_sha 538 = .ok (.iload 10, 2) := by decide +kernel
theorem d_M_sha_540 : decode b_M_sha 540 = .ok (.iadd, 1) := by decide +kernel
theorem d_M_sha_541 : decode b_M_sha 541 = .ok (.iastore, 1) := by decide +kernel
theorem d_M_sha_542 : decode b_M_sha 542 = .ok (.aload_n 0, 1) := by decide +kernel
theorem d_M_sha_543 : decode b_M_sha 543 = .ok (.getfield 117, 3) := by decide +kernel
theorem d_M_sha_546 : decode b_M_sha 546 = .ok (.iconst 4, 1) := by decide +kernel
theorem d_M_sha_547 : decode b_M_sha 547 = .ok (.dup2, 1) := by decide +kernel
theorem d_M_sha_548 : decode b_M_sha 548 = .ok (.iaload, 1) := by decide +kernel
theorem d_M_sha_549 : decode b_M_sha 549 = .ok (.iload 11, 2) := by decide +kernel
theorem d_M_sha_551 : decode b_M_sha 551 = .ok (.iadd, 1) := by decide +kernel
theorem d_M_sha_552 : decode b_M_sha 552 = .ok (.iastore, 1) := by decide +kernel
theorem d_M_sha_553 : decode b_M_sha 553 = .ok (.aload_n 0, 1) := by decide +kernel
theorem d_M_sha_554 : decode b_M_sha 554 = .ok (.getfield 117, 3) := by decide +kernel
theorem d_M_sha_557 : decode b_M_sha 557 = .ok (.iconst 5, 1) := by decide +kernel
theorem d_M_sha_558 : decode b_M_sha 558 = .ok (.dup2, 1) := by decide +kernel
theorem d_M_sha_559 : decode b_M_sha 559 = .ok (.iaload, 1) := by decide +kernel
theorem d_M_sha_560 : decode b_M_sha 560 = .ok (.iload 12, 2) := by decide +kernel
theorem d_M_sha_562 : decode b_M_sha 562 = .ok (.iadd, 1) := by decide +kernel
theorem d_M_sha_563 : decode b_M_sha 563 = .ok (.iastore, 1) := by decide +kernel
theorem d_M_sha_564 : decode b_M_sha 564 = .ok (.aload_n 0, 1) := by decide +kernel
theorem d_M_sha_565 : decode b_M_sha 565 = .ok (.getfield 117, 3) := by decide +kernel
theorem d_M_sha_568 : decode b_M_sha 568 = .ok (.bipush 6, 2) := by decide +kernel
theorem d_M_sha_570 : decode b_M_sha 570 = .ok (.dup2, 1) := by decide +kernel
theorem d_M_sha_571 : decode b_M_sha 571 = .ok (.iaload, 1) := by decide +kernel
theorem d_M_sha_572 : decode b_M_sha 572 = .ok (.iload 13, 2) := by decide +kernel
theorem d_M_sha_574 : decode b_M_sha 574 = .ok (.iadd, 1) := by decide +kernel
theorem d_M_sha_575 : decode b_M_sha 575 = .ok (.iastore, 1) := by decide +kernel
theorem d_M_sha_576 : decode b_M_sha 576 = .ok (.aload_n 0, 1) := by decide +kernel
theorem d_M_sha_577 : decode b_M_sha 577 = .ok (.getfield 117, 3) := by decide +kernel
theorem d_M_sha_580 : decode b_M_sha 580 = .ok (.bipush 7, 2) := by decide +kernel
theorem d_M_sha_582 : decode b_M_sha 582 = .ok (.dup2, 1) := by decide +kernel
theorem d_M_sha_583 : decode b_M_sha 583 = .ok (.iaload, 1) := by decide +kernel
theorem d_M_sha_584 : decode b_M_sha 584 = .ok (.iload 14, 2) := by decide +kernel
theorem d_M_sha_586 : decode b_M_sha 586 = .ok (.iadd, 1) := by decide +kernel
theorem d_M_sha_587 : decode b_M_sha 587 = .ok (.iastore, 1) := by decide +kernel
theorem d_M_sha_588 : decode b_M_sha 588 = .ok (.iinc 6 1, 3) := by decide +kernel
theorem d_M_sha_591 : decode b_M_sha 591 = .ok (.goto (-470), 3) := by decide +kernel
theorem d_M_sha_594 : decode b_M_sha 594 = .ok (.iconst 0, 1) := by decide +kernel
theorem d_M_sha_595 : decode b_M_sha 595 = .ok (.istore 6, 2) := by decide +kernel
theorem d_M_sha_597 : decode b_M_sha 597 = .ok (.iload 6, 2) := by decide +kernel
theorem d_M_sha_599 : decode b_M_sha 599 = .ok (.bipush 8, 2) := by decide +kernel
theorem d_M_sha_601 : decode b_M_sha 601 = .ok (.if_icmp .ge 53, 3) := by decide +kernel
theorem d_M_sha_604 : decode b_M_sha 604 = .ok (.iconst 0, 1) := by decide +kernel
theorem d_M_sha_605 : decode b_M_sha 605 = .ok (.istore 7, 2) := by decide +kernel
theorem d_M_sha_607 : decode b_M_sha 607 = .ok (.iload 7, 2) := by decide +kernel
theorem d_M_sha_609 : decode b_M_sha 609 = .ok (.iconst 4, 1) := by decide +kernel
theorem d_M_sha_610 : decode b_M_sha 610 = .ok (.if_icmp .ge 38, 3) := by decide +kernel
theorem d_M_sha_613 : decode b_M_sha 613 = .ok (.aload_n 0, 1) := by decide +kernel
theorem d_M_sha_614 : decode b_M_sha 614 = .ok (.getfield 123, 3) := by decide +kernel
theorem d_M_sha_617 : decode b_M_sha 617 = .ok (.iconst 4, 1) := by decide +kernel
theorem d_M_sha_618 : decode b_M_sha 618 = .ok (.iload 6, 2) := by decide +kernel
theorem d_M_sha_620 : decode b_M_sha 620 = .ok (.imul, 1) := by decide +kernel
theorem d_M_sha_621 : decode b_M_sha 621 = .ok (.iload 7, 2) := by decide +kernel
theorem d_M_sha_623 : decode b_M_sha 623 = .ok (.iadd, 1) := by decide +kernel
theorem d_M_sha_624 : decode b_M_sha 624 = .ok (.aload_n 0, 1) := by decide +kernel
theorem d_M_sha_625 : decode b_M_sha 625 = .ok (.getfield 117, 3) := by decide +kernel
theorem d_M_sha_628 : decode b_M_sha 628 = .ok (.iload 6, 2) := by decide +kernel
theorem d_M_sha_630 : decode b_M_sha 630 = .ok (.iaload, 1) := by decide +kernel
theorem d_M_sha_631 : decode b_M_sha 631 = .ok (.bipush 24, 2) := by decide +kernel
theorem d_M_sha_633 : decode b_M_sha 633 = .ok (.bipush 8, 2) := by decide +kernel
theorem d_M_sha_635 : decode b_M_sha 635 = .ok (.iload 7, 2) := by decide +kernel
theorem d_M_sha_637 : decode b_M_sha 637 = .ok (.imul, 1) := by decide +kernel
theorem d_M_sha_638 : decode b_M_sha 638 = .ok (.isub, 1) := by decide +kernel
theorem d_M_sha_639 : decode b_M_sha 639 = .ok (.ishr, 1) := by decide +kernel
theorem d_M_sha_640 : decode b_M_sha 640 = .ok (.i2b, 1) := by decide +kernel
theorem d_M_sha_641 : decode b_M_sha 641 = .ok (.bastore, 1) := by decide +kernel
theorem d_M_sha_642 : decode b_M_sha 642 = .ok (.iinc 7 1, 3) := by decide +kernel
theorem d_M_sha_645 : decode b_M_sha 645 = .ok (.goto (-38), 3) := by decide +kernel
theorem d_M_sha_648 : decode b_M_sha 648 = .ok (.iinc 6 1, 3) := by decide +kernel
theorem d_M_sha_651 : decode b_M_sha 651 = .ok (.goto (-54), 3) := by decide +kernel
theorem d_M_sha_654 : decode b_M_sha 654 = .ok (.return_, 1) := by decide +kernel
abbrev rm_M_sha : Room := { frames := 1, cells := 0, slots := 0, locals := 26 }
abbrev q_M_sha (D : va_G) (cy : Nat → ClassId) (A : Nat → Prop) (o : Nat) (q : Nat → Nat) (b1 : Nat) (z : Nat → Int32) (n1 : Nat) (h1 : Nat → Int32) (res : (Nat → Int32) × (Nat → Int32) × (Nat → Int32) × (Nat → Int32)) : Array Value → State → Outcome → State → Prop := va_Qv (fun (_ : Unit) => True) (fun _ t => Po D cy A [(o, .inr (12, mo q z)), ((q 34), .inl (cy 1, 8, .inl res.1)), ((q 35), .inl (cy 1, 64, .inl res.2.1)), ((q 36), .inl (cy 0, 32, .inl res.2.2.1)), ((q 37), .inl (cy 0, 100200, .inl res.2.2.2)), (b1, .inl (cy 0, n1, .inl h1))] t) A
def I_M_sha_607 (p : Program) (l : Launch) (e : Env) (s : State) (m : MethodId) (args : Array Value) (below : List Frame) (meth : Method) (c : Code) (D : va_G) (cy : Nat → ClassId) (A : Nat → Prop) (ad : Nat → Nat) (o : Nat) (q : Nat → Nat) (b1 : Nat) (z : Nat → Int32) (n1 : Nat) (h1 : Nat → Int32) (k : Int32 → Int32 → (Nat → Int32) → (Nat → Int32) → (Nat → Int32) → (Nat → Int32) → Option ((Nat → Int32) × (Nat → Int32) × (Nat → Int32) × (Nat → Int32))) : Prop :=
  ∀ (x6 : Int32) (x7 : Int32) (u0 : Nat → Int32) (u1 : Nat → Int32) (u2 : Nat → Int32) (u3 : Nat → Int32) (res : (Nat → Int32) × (Nat → Int32) × (Nat → Int32) × (Nat → Int32)), k x6 x7 u0 u1 u2 u3 = some res → ∀ (H : Heap) (locs : List Loc) (ls : Array Slot), va_P D classes [(o, .inr (12, mo q z)), ((q 34), .inl (cy 1, 8, .inl u0)), ((q 35), .inl (cy 1, 64, .inl u1)), ((q 36), .inl (cy 0, 32, .inl u2)), ((q 37), .inl (cy 0, 100200, .inl u3)), (b1, .inl (cy 0, n1, .inl h1))] H → va_D A [(o, .inr (12, mo q z)), ((q 34), .inl (cy 1, 8, .inl u0)), ((q 35), .inl (cy 1, 64, .inl u1)), ((q 36), .inl (cy 0, 32, .inl u2)), ((q 37), .inl (cy 0, 100200, .inl u3)), (b1, .inl (cy 0, n1, .inl h1))] → va_S A s.heap H locs → lv_has ls 18 [(0, .ref o), (6, .int x6), (7, .int x7)] → W p l e rm_M_sha s m args below meth c H locs 0 0 (MQ below (q_M_sha D cy A o q b1 z n1 h1 res) args s 0 0 A) (F0 m 607 ls [])
def I_M_sha_597 (p : Program) (l : Launch) (e : Env) (s : State) (m : MethodId) (args : Array Value) (below : List Frame) (meth : Method) (c : Code) (D : va_G) (cy : Nat → ClassId) (A : Nat → Prop) (ad : Nat → Nat) (o : Nat) (q : Nat → Nat) (b1 : Nat) (z : Nat → Int32) (n1 : Nat) (h1 : Nat → Int32) (k : Int32 → (Nat → Int32) → (Nat → Int32) → (Nat → Int32) → (Nat → Int32) → Option ((Nat → Int32) × (Nat → Int32) × (Nat → Int32) × (Nat → Int32))) : Prop :=
  ∀ (x6 : Int32) (u0 : Nat → Int32) (u1 : Nat → Int32) (u2 : Nat → Int32) (u3 : Nat → Int32) (res : (Nat → Int32) × (Nat → Int32) × (Nat → Int32) × (Nat → Int32)), k x6 u0 u1 u2 u3 = some res → ∀ (H : Heap) (locs : List Loc) (ls : Array Slot), va_P D classes [(o, .inr (12, mo q z)), ((q 34), .inl (cy 1, 8, .inl u0)), ((q 35), .inl (cy 1, 64, .inl u1)), ((q 36), .inl (cy 0, 32, .inl u2)), ((q 37), .inl (cy 0, 100200, .inl u3)), (b1, .inl (cy 0, n1, .inl h1))] H → va_D A [(o, .inr (12, mo q z)), ((q 34), .inl (cy 1, 8, .inl u0)), ((q 35), .inl (cy 1, 64, .inl u1)), ((q 36), .inl (cy 0, 32, .inl u2)), ((q 37), .inl (cy 0, 100200, .inl u3)), (b1, .inl (cy 0, n1, .inl h1))] → va_S A s.heap H locs → lv_has ls 18 [(0, .ref o), (6, .int x6)] → W p l e rm_M_sha s m args below meth c H locs 0 0 (MQ below (q_M_sha D cy A o q b1 z n1 h1 res) args s 0 0 A) (F0 m 597 ls [])
def I_M_sha_348 (p : Program) (l : Launch) (e : Env) (s : State) (m : MethodId) (args : Array Value) (below : List Frame) (meth : Method) (c : Code) (D : va_G) (cy : Nat → ClassId) (A : Nat → Prop) (ad : Nat → Nat) (o : Nat) (q : Nat → Nat) (b1 : Nat) (z : Nat → Int32) (n1 : Nat) (h1 : Nat → Int32) (k : Int32 → Int32 → Int32 → Int32 → Int32 → Int32 → Int32 → Int32 → Int32 → Int32 → Int32 → (Nat → Int32) → (Nat → Int32) → (Nat → Int32) → (Nat → Int32) → Option ((Nat → Int32) × (Nat → Int32) × (Nat → Int32) × (Nat → Int32))) : Prop :=
  ∀ (x4 : Int32) (x6 : Int32) (x7 : Int32) (x8 : Int32) (x9 : Int32) (x10 : Int32) (x11 : Int32) (x12 : Int32) (x13 : Int32) (x14 : Int32) (x15 : Int32) (u0 : Nat → Int32) (u1 : Nat → Int32) (u2 : Nat → Int32) (u3 : Nat → Int32) (res : (Nat → Int32) × (Nat → Int32) × (Nat → Int32) × (Nat → Int32)), k x4 x6 x7 x8 x9 x10 x11 x12 x13 x14 x15 u0 u1 u2 u3 = some res → ∀ (H : Heap) (locs : List Loc) (ls : Array Slot), va_P D classes [(o, .inr (12, mo q z)), ((q 34), .inl (cy 1, 8, .inl u0)), ((q 35), .inl (cy 1, 64, .inl u1)), ((q 36), .inl (cy 0, 32, .inl u2)), ((q 37), .inl (cy 0, 100200, .inl u3)), (b1, .inl (cy 0, n1, .inl h1))] H → va_D A [(o, .inr (12, mo q z)), ((q 34), .inl (cy 1, 8, .inl u0)), ((q 35), .inl (cy 1, 64, .inl u1)), ((q 36), .inl (cy 0, 32, .inl u2)), ((q 37), .inl (cy 0, 100200, .inl u3)), (b1, .inl (cy 0, n1, .inl h1))] → va_S A s.heap H locs → lv_has ls 18 [(0, .ref o), (4, .int x4), (6, .int x6), (7, .int x7), (8, .int x8), (9, .int x9), (10, .int x10), (11, .int x11), (12, .int x12), (13, .int x13), (14, .int x14), (15, .int x15)] → W p l e rm_M_sha s m args below meth c H locs 0 0 (MQ below (q_M_sha D cy A o q b1 z n1 h1 res) args s 0 0 A) (F0 m 348 ls [])
def I_M_sha_172 (p : Program) (l : Launch) (e : Env) (s : State) (m : MethodId) (args : Array Value) (below : List Frame) (meth : Method) (c : Code) (D : va_G) (cy : Nat → ClassId) (A : Nat → Prop) (ad : Nat → Nat) (o : Nat) (q : Nat → Nat) (b1 : Nat) (z : Nat → Int32) (n1 : Nat) (h1 : Nat → Int32) (k : Int32 → Int32 → Int32 → (Nat → Int32) → (Nat → Int32) → (Nat → Int32) → (Nat → Int32) → Option ((Nat → Int32) × (Nat → Int32) × (Nat → Int32) × (Nat → Int32))) : Prop :=
  ∀ (x4 : Int32) (x6 : Int32) (x7 : Int32) (u0 : Nat → Int32) (u1 : Nat → Int32) (u2 : Nat → Int32) (u3 : Nat → Int32) (res : (Nat → Int32) × (Nat → Int32) × (Nat → Int32) × (Nat → Int32)), k x4 x6 x7 u0 u1 u2 u3 = some res → ∀ (H : Heap) (locs : List Loc) (ls : Array Slot), va_P D classes [(o, .inr (12, mo q z)), ((q 34), .inl (cy 1, 8, .inl u0)), ((q 35), .inl (cy 1, 64, .inl u1)), ((q 36), .inl (cy 0, 32, .inl u2)), ((q 37), .inl (cy 0, 100200, .inl u3)), (b1, .inl (cy 0, n1, .inl h1))] H → va_D A [(o, .inr (12, mo q z)), ((q 34), .inl (cy 1, 8, .inl u0)), ((q 35), .inl (cy 1, 64, .inl u1)), ((q 36), .inl (cy 0, 32, .inl u2)), ((q 37), .inl (cy 0, 100200, .inl u3)), (b1, .inl (cy 0, n1, .inl h1))] → va_S A s.heap H locs → lv_has ls 18 [(0, .ref o), (4, .int x4), (6, .int x6), (7, .int x7)] → W p l e rm_M_sha s m args below meth c H locs 0 0 (MQ below (q_M_sha D cy A o q b1 z n1 h1 res) args s 0 0 A) (F0 m 172 ls [])
def I_M_sha_131 (p : Program) (l : Launch) (e : Env) (s : State) (m : MethodId) (args : Array Value) (below : List Frame) (meth : Method) (c : Code) (D : va_G) (cy : Nat → ClassId) (A : Nat → Prop) (ad : Nat → Nat) (o : Nat) (q : Nat → Nat) (b1 : Nat) (z : Nat → Int32) (n1 : Nat) (h1 : Nat → Int32) (k : Int32 → Int32 → Int32 → (Nat → Int32) → (Nat → Int32) → (Nat → Int32) → (Nat → Int32) → Option ((Nat → Int32) × (Nat → Int32) × (Nat → Int32) × (Nat → Int32))) : Prop :=
  ∀ (x4 : Int32) (x6 : Int32) (x7 : Int32) (u0 : Nat → Int32) (u1 : Nat → Int32) (u2 : Nat → Int32) (u3 : Nat → Int32) (res : (Nat → Int32) × (Nat → Int32) × (Nat → Int32) × (Nat → Int32)), k x4 x6 x7 u0 u1 u2 u3 = some res → ∀ (H : Heap) (locs : List Loc) (ls : Array Slot), va_P D classes [(o, .inr (12, mo q z)), ((q 34), .inl (cy 1, 8, .inl u0)), ((q 35), .inl (cy 1, 64, .inl u1)), ((q 36), .inl (cy 0, 32, .inl u2)), ((q 37), .inl (cy 0, 100200, .inl u3)), (b1, .inl (cy 0, n1, .inl h1))] H → va_D A [(o, .inr (12, mo q z)), ((q 34), .inl (cy 1, 8, .inl u0)), ((q 35), .inl (cy 1, 64, .inl u1)), ((q 36), .inl (cy 0, 32, .inl u2)), ((q 37), .inl (cy 0, 100200, .inl u3)), (b1, .inl (cy 0, n1, .inl h1))] → va_S A s.heap H locs → lv_has ls 18 [(0, .ref o), (4, .int x4), (6, .int x6), (7, .int x7)] → W p l e rm_M_sha s m args below meth c H locs 0 0 (MQ below (q_M_sha D cy A o q b1 z n1 h1 res) args s 0 0 A) (F0 m 131 ls [])
def I_M_sha_121 (p : Program) (l : Launch) (e : Env) (s : State) (m : MethodId) (args : Array Value) (below : List Frame) (meth : Method) (c : Code) (D : va_G) (cy : Nat → ClassId) (A : Nat → Prop) (ad : Nat → Nat) (o : Nat) (q : Nat → Nat) (b1 : Nat) (z : Nat → Int32) (n1 : Nat) (h1 : Nat → Int32) (k : Int32 → Int32 → (Nat → Int32) → (Nat → Int32) → (Nat → Int32) → (Nat → Int32) → Option ((Nat → Int32) × (Nat → Int32) × (Nat → Int32) × (Nat → Int32))) : Prop :=
  ∀ (x4 : Int32) (x6 : Int32) (u0 : Nat → Int32) (u1 : Nat → Int32) (u2 : Nat → Int32) (u3 : Nat → Int32) (res : (Nat → Int32) × (Nat → Int32) × (Nat → Int32) × (Nat → Int32)), k x4 x6 u0 u1 u2 u3 = some res → ∀ (H : Heap) (locs : List Loc) (ls : Array Slot), va_P D classes [(o, .inr (12, mo q z)), ((q 34), .inl (cy 1, 8, .inl u0)), ((q 35), .inl (cy 1, 64, .inl u1)), ((q 36), .inl (cy 0, 32, .inl u2)), ((q 37), .inl (cy 0, 100200, .inl u3)), (b1, .inl (cy 0, n1, .inl h1))] H → va_D A [(o, .inr (12, mo q z)), ((q 34), .inl (cy 1, 8, .inl u0)), ((q 35), .inl (cy 1, 64, .inl u1)), ((q 36), .inl (cy 0, 32, .inl u2)), ((q 37), .inl (cy 0, 100200, .inl u3)), (b1, .inl (cy 0, n1, .inl h1))] → va_S A s.heap H locs → lv_has ls 18 [(0, .ref o), (4, .int x4), (6, .int x6)] → W p l e rm_M_sha s m args below meth c H locs 0 0 (MQ below (q_M_sha D cy A o q b1 z n1 h1 res) args s 0 0 A) (F0 m 121 ls [])
def I_M_sha_65 (p : Program) (l : Launch) (e : Env) (s : State) (m : MethodId) (args : Array Value) (below : List Frame) (meth : Method) (c : Code) (D : va_G) (cy : Nat → ClassId) (A : Nat → Prop) (ad : Nat → Nat) (o : Nat) (q : Nat → Nat) (b1 : Nat) (z : Nat → Int32) (n1 : Nat) (h1 : Nat → Int32) (k : Int32 → Int32 → Int32 → Int32 → (Nat → Int32) → (Nat → Int32) → (Nat → Int32) → (Nat → Int32) → Option ((Nat → Int32) × (Nat → Int32) × (Nat → Int32) × (Nat → Int32))) : Prop :=
  ∀ (x3 : Int32) (x4 : Int32) (x5 : Int32) (x6 : Int32) (u0 : Nat → Int32) (u1 : Nat → Int32) (u2 : Nat → Int32) (u3 : Nat → Int32) (res : (Nat → Int32) × (Nat → Int32) × (Nat → Int32) × (Nat → Int32)), k x3 x4 x5 x6 u0 u1 u2 u3 = some res → ∀ (H : Heap) (locs : List Loc) (ls : Array Slot), va_P D classes [(o, .inr (12, mo q z)), ((q 34), .inl (cy 1, 8, .inl u0)), ((q 35), .inl (cy 1, 64, .inl u1)), ((q 36), .inl (cy 0, 32, .inl u2)), ((q 37), .inl (cy 0, 100200, .inl u3)), (b1, .inl (cy 0, n1, .inl h1))] H → va_D A [(o, .inr (12, mo q z)), ((q 34), .inl (cy 1, 8, .inl u0)), ((q 35), .inl (cy 1, 64, .inl u1)), ((q 36), .inl (cy 0, 32, .inl u2)), ((q 37), .inl (cy 0, 100200, .inl u3)), (b1, .inl (cy 0, n1, .inl h1))] → va_S A s.heap H locs → lv_has ls 18 [(0, .ref o), (3, .int x3), (4, .int x4), (5, .int x5), (6, .int x6)] → W p l e rm_M_sha s m args below meth c H locs 0 0 (MQ below (q_M_sha D cy A o q b1 z n1 h1 res) args s 0 0 A) (F0 m 65 ls [])
def I_M_sha_33 (p : Program) (l : Launch) (e : Env) (s : State) (m : MethodId) (args : Array Value) (below : List Frame) (meth : Method) (c : Code) (D : va_G) (cy : Nat → ClassId) (A : Nat → Prop) (ad : Nat → Nat) (o : Nat) (q : Nat → Nat) (b1 : Nat) (z : Nat → Int32) (n1 : Nat) (h1 : Nat → Int32) (k : Int32 → Int32 → Int32 → Int32 → (Nat → Int32) → (Nat → Int32) → (Nat → Int32) → (Nat → Int32) → Option ((Nat → Int32) × (Nat → Int32) × (Nat → Int32) × (Nat → Int32))) : Prop :=
  ∀ (x3 : Int32) (x4 : Int32) (x5 : Int32) (x6 : Int32) (u0 : Nat → Int32) (u1 : Nat → Int32) (u2 : Nat → Int32) (u3 : Nat → Int32) (res : (Nat → Int32) × (Nat → Int32) × (Nat → Int32) × (Nat → Int32)), k x3 x4 x5 x6 u0 u1 u2 u3 = some res → ∀ (H : Heap) (locs : List Loc) (ls : Array Slot), va_P D classes [(o, .inr (12, mo q z)), ((q 34), .inl (cy 1, 8, .inl u0)), ((q 35), .inl (cy 1, 64, .inl u1)), ((q 36), .inl (cy 0, 32, .inl u2)), ((q 37), .inl (cy 0, 100200, .inl u3)), (b1, .inl (cy 0, n1, .inl h1))] H → va_D A [(o, .inr (12, mo q z)), ((q 34), .inl (cy 1, 8, .inl u0)), ((q 35), .inl (cy 1, 64, .inl u1)), ((q 36), .inl (cy 0, 32, .inl u2)), ((q 37), .inl (cy 0, 100200, .inl u3)), (b1, .inl (cy 0, n1, .inl h1))] → va_S A s.heap H locs → lv_has ls 18 [(0, .ref o), (3, .int x3), (4, .int x4), (5, .int x5), (6, .int x6)] → W p l e rm_M_sha s m args below meth c H locs 0 0 (MQ below (q_M_sha D cy A o q b1 z n1 h1 res) args s 0 0 A) (F0 m 33 ls [])
def I_M_sha_e (p : Program) (l : Launch) (e : Env) (s : State) (m : MethodId) (args : Array Value) (below : List Frame) (meth : Method) (c : Code) (D : va_G) (cy : Nat → ClassId) (A : Nat → Prop) (ad : Nat → Nat) (o : Nat) (q : Nat → Nat) (b1 : Nat) (z : Nat → Int32) (n1 : Nat) (h1 : Nat → Int32) (k : Int32 → Int32 → (Nat → Int32) → (Nat → Int32) → (Nat → Int32) → (Nat → Int32) → Option ((Nat → Int32) × (Nat → Int32) × (Nat → Int32) × (Nat → Int32))) : Prop :=
  ∀ (a2 : Int32) (a3 : Int32) (u0 : Nat → Int32) (u1 : Nat → Int32) (u2 : Nat → Int32) (u3 : Nat → Int32) (res : (Nat → Int32) × (Nat → Int32) × (Nat → Int32) × (Nat → Int32)), k a2 a3 u0 u1 u2 u3 = some res → ∀ (H : Heap) (locs : List Loc) (ls : Array Slot), va_P D classes [(o, .inr (12, mo q z)), ((q 34), .inl (cy 1, 8, .inl u0)), ((q 35), .inl (cy 1, 64, .inl u1)), ((q 36), .inl (cy 0, 32, .inl u2)), ((q 37), .inl (cy 0, 100200, .inl u3)), (b1, .inl (cy 0, n1, .inl h1))] H → va_D A [(o, .inr (12, mo q z)), ((q 34), .inl (cy 1, 8, .inl u0)), ((q 35), .inl (cy 1, 64, .inl u1)), ((q 36), .inl (cy 0, 32, .inl u2)), ((q 37), .inl (cy 0, 100200, .inl u3)), (b1, .inl (cy 0, n1, .inl h1))] → va_S A s.heap H locs → lv_has ls 18 [(0, .ref o), (1, .ref b1), (2, .int a2), (3, .int a3)] → W p l e rm_M_sha s m args below meth c H locs 0 0 (MQ below (q_M_sha D cy A o q b1 z n1 h1 res) args s 0 0 A) (F0 m 0 ls [])
set_option maxHeartbeats 8000000 in
set_option maxRecDepth 100000 in
theorem wb_M_sha_607 {p : Program} {l : Launch} {e : Env} {s : State} {m : MethodId} {args : Array Value} {below : List Frame} {meth : Method} {c : Code} {D : va_G} {cy : Nat → ClassId} {A : Nat → Prop} {ad : Nat → Nat} {o : Nat} {q : Nat → Nat} {b1 : Nat} {z : Nat → Int32} {n1 : Nat} {h1 : Nat → Int32} {fu : Nat} {k_597 : Int32 → (Nat → Int32) → (Nat → Int32) → (Nat → Int32) → (Nat → Int32) → Option ((Nat → Int32) × (Nat → Int32) × (Nat → Int32) × (Nat → Int32))} {k_607 : Int32 → Int32 → (Nat → Int32) → (Nat → Int32) → (Nat → Int32) → (Nat → Int32) → Option ((Nat → Int32) × (Nat → Int32) × (Nat → Int32) × (Nat → Int32))} (F : Fx p s m args meth c b_M_sha 18 "CoinKeeperModel" "sha" none D cy ad A) (hk_597 : I_M_sha_597 p l e s m args below meth c D cy A ad o q b1 z n1 h1 k_597) (hk_607 : I_M_sha_607 p l e s m args below meth c D cy A ad o q b1 z n1 h1 k_607) : I_M_sha_607 p l e s m args below meth c D cy A ad o q b1 z n1 h1 (xb_M_sha_607 fu z n1 h1 k_597 k_607) := by
  obtain ⟨hx, hb, hr, hml, hown, hts, hlocks, hK, hA, hSt, hnm, hex⟩ := id F
  intro x6 x7 u0 u1 u2 u3 res hf H locs ls hP hD hS hl
  unfold xb_M_sha_607 at hf
  refine lv_iload hx hb d_M_sha_607 (lv_at hl 2 rfl) ?_
  refine lv_iconst (v := 4) hx hb d_M_sha_609 (by decide) ?_
  refine lv_icmp_ge (tgt := 648) hx hb d_M_sha_610 (by decide) (fun cx => ?_) (fun cx => ?_)
  · have hf := ifp cx hf
    obtain ⟨v1, ev, hf⟩ := bne hf
    refine lv_iinc (v := v1) (lv' := [(6, .int v1), (0, .ref o), (7, .int x7)]) hx hb d_M_sha_648 hl (k := 1) rfl (by rw [ev]; rfl) (by decide) rfl (fun ls hl => ?_)
    clear ev
    refine lv_goto (tgt := 597) hx hb d_M_sha_651 (by decide) ?_
    exact hk_597 _ _ _ _ _ _ hf _ _ _ hP hD hS (lv_sub hl [1, 0] rfl)
  · have hf := ifn cx hf
    refine lv_aload_n hx hb d_M_sha_613 rfl (lv_at hl 0 rfl) ?_
    refine va_get (D := D) (ci := 12) (v := .ref (q 36)) (C := "CoinKeeperModel") (T := F_12) (N := 98) hx hb hts i_12 hown hK hP 0 rfl rfl 44 (by decide) (hts _ gw_1463) (fun _ h9 => h9) rfl d_M_sha_614 ?_
    refine lv_iconst (v := 4) hx hb d_M_sha_617 (by decide) ?_
    refine lv_iload hx hb d_M_sha_618 (lv_at hl 1 rfl) ?_
    refine lv_imul hx hb d_M_sha_620 ?_
    refine lv_topi (fun v2 ev => ?_)
    have hf := bn ev hf
    clear ev
    refine lv_iload hx hb d_M_sha_621 (lv_at hl 2 rfl) ?_
    refine lv_iadd hx hb d_M_sha_623 ?_
    refine lv_topi (fun v3 ev => ?_)
    have hf := bn ev hf
    clear ev
    refine lv_aload_n hx hb d_M_sha_624 rfl (lv_at hl 0 rfl) ?_
    refine va_get (D := D) (ci := 12) (v := .ref (q 34)) (C := "CoinKeeperModel") (T := F_12) (N := 98) hx hb hts i_12 hown hK hP 0 rfl rfl 42 (by decide) (hts _ gw_1461) (fun _ h9 => h9) rfl d_M_sha_625 ?_
    refine lv_iload hx hb d_M_sha_628 (lv_at hl 1 rfl) ?_
    obtain ⟨hg, hf⟩ := gdp hf
    refine va_iald hx hb hK hP 1 1 rfl rfl (inb_in hg) d_M_sha_630 ?_
    refine lv_topi (fun v4 ev => ?_)
    have hf := bn ev hf
    clear ev
    refine lv_bipush (v := 24) hx hb d_M_sha_631 (by decide) ?_
    refine lv_bipush (v := 8) hx hb d_M_sha_633 (by decide) ?_
    refine lv_iload hx hb d_M_sha_635 (lv_at hl 2 rfl) ?_
    refine lv_imul hx hb d_M_sha_637 ?_
    refine lv_isub hx hb d_M_sha_638 ?_
    refine lv_ishr hx hb d_M_sha_639 ?_
    refine lv_i2b hx hb d_M_sha_640 rfl ?_
    refine lv_topi (fun v5 ev => ?_)
    have hf := bn ev hf
    clear ev
    obtain ⟨hg, hf⟩ := gdp hf
    refine va_bast hx hb hK hP hD hS 3 0 rfl rfl (inb_in hg) d_M_sha_641 (fun H locs hP hD hS => ?_)
    obtain ⟨f6, ev, hf⟩ := bne hf
    have hP : va_P D classes [(o, .inr (12, mo q z)), ((q 34), .inl (cy 1, 8, .inl u0)), ((q 35), .inl (cy 1, 64, .inl u1)), ((q 36), .inl (cy 0, 32, .inl f6)), ((q 37), .inl (cy 0, 100200, .inl u3)), (b1, .inl (cy 0, n1, .inl h1))] H := by rw [ev]; exact hP
    have hD : va_D A [(o, .inr (12, mo q z)), ((q 34), .inl (cy 1, 8, .inl u0)), ((q 35), .inl (cy 1, 64, .inl u1)), ((q 36), .inl (cy 0, 32, .inl f6)), ((q 37), .inl (cy 0, 100200, .inl u3)), (b1, .inl (cy 0, n1, .inl h1))] := by rw [ev]; exact hD
    clear ev
    obtain ⟨v7, ev, hf⟩ := bne hf
    refine lv_iinc (v := v7) (lv' := [(7, .int v7), (0, .ref o), (6, .int x6)]) hx hb d_M_sha_642 hl (k := 2) rfl (by rw [ev]; rfl) (by decide) rfl (fun ls hl => ?_)
    clear ev
    refine lv_goto (tgt := 607) hx hb d_M_sha_645 (by decide) ?_
    exact hk_607 _ _ _ _ _ _ _ hf _ _ _ hP hD hS (lv_sub hl [1, 2, 0] rfl)
theorem w_M_sha_607 {p : Program} {l : Launch} {e : Env} {s : State} {m : MethodId} {args : Array Value} {below : List Frame} {meth : Method} {c : Code} {D : va_G} {cy : Nat → ClassId} {A : Nat → Prop} {ad : Nat → Nat} {o : Nat} {q : Nat → Nat} {b1 : Nat} {z : Nat → Int32} {n1 : Nat} {h1 : Nat → Int32} {fu : Nat} {k_597 : Int32 → (Nat → Int32) → (Nat → Int32) → (Nat → Int32) → (Nat → Int32) → Option ((Nat → Int32) × (Nat → Int32) × (Nat → Int32) × (Nat → Int32))} (F : Fx p s m args meth c b_M_sha 18 "CoinKeeperModel" "sha" none D cy ad A) (hk_597 : I_M_sha_597 p l e s m args below meth c D cy A ad o q b1 z n1 h1 k_597) : ∀ n : Nat, I_M_sha_607 p l e s m args below meth c D cy A ad o q b1 z n1 h1 (x_M_sha_607 fu z n1 h1 k_597 n)
  | 0 => fun _ _ _ _ _ _ _ hf => nomatch (show (none : Option ((Nat → Int32) × (Nat → Int32) × (Nat → Int32) × (Nat → Int32))) = some _ from hf)
  | n + 1 => wb_M_sha_607 F hk_597 (w_M_sha_607 F hk_597 n)
set_option maxHeartbeats 8000000 in
set_option maxRecDepth 100000 in
theorem wb_M_sha_597 {p : Program} {l : Launch} {e : Env} {s : State} {m : MethodId} {args : Array Value} {below : List Frame} {meth : Method} {c : Code} {D : va_G} {cy : Nat → ClassId} {A : Nat → Prop} {ad : Nat → Nat} {o : Nat} {q : Nat → Nat} {b1 : Nat} {z : Nat → Int32} {n1 : Nat} {h1 : Nat → Int32} {fu : Nat} {k_597 : Int32 → (Nat → Int32) → (Nat → Int32) → (Nat → Int32) → (Nat → Int32) → Option ((Nat → Int32) × (Nat → Int32) × (Nat → Int32) × (Nat → Int32))} (F : Fx p s m args meth c b_M_sha 18 "CoinKeeperModel" "sha" none D cy ad A) (hk_597 : I_M_sha_597 p l e s m args below meth c D cy A ad o q b1 z n1 h1 k_597) : I_M_sha_597 p l e s m args below meth c D cy A ad o q b1 z n1 h1 (xb_M_sha_597 fu z n1 h1 k_597) := by
  obtain ⟨hx, hb, hr, hml, hown, hts, hlocks, hK, hA, hSt, hnm, hex⟩ := id F
  intro x6 u0 u1 u2 u3 res hf H locs ls hP hD hS hl
  unfold xb_M_sha_597 at hf
  refine lv_iload hx hb d_M_sha_597 (lv_at hl 1 rfl) ?_
  refine lv_bipush (v := 8) hx hb d_M_sha_599 (by decide) ?_
  refine lv_icmp_ge (tgt := 654) hx hb d_M_sha_601 (by decide) (fun cx => ?_) (fun cx => ?_)
  · have hf := ifp cx hf
    obtain rfl := Option.some.inj hf
    exact q_rv hx hb hr hlocks hK hP hD hS d_M_sha_654
  · have hf := ifn cx hf
    refine lv_iconst (v := 0) hx hb d_M_sha_604 (by decide) ?_
    refine lv_istore (lv' := [(7, .int (0 : Int32)), (0, .ref o), (6, .int x6)]) hx hb d_M_sha_605 hl (by decide) rfl (fun ls hl => ?_)
    exact w_M_sha_607 F hk_597 fu _ _ _ _ _ _ _ hf _ _ _ hP hD hS (lv_sub hl [1, 2, 0] rfl)
theorem w_M_sha_597 {p : Program} {l : Launch} {e : Env} {s : State} {m : MethodId} {args : Array Value} {below : List Frame} {meth : Method} {c : Code} {D : va_G} {cy : Nat → ClassId} {A : Nat → Prop} {ad : Nat → Nat} {o : Nat} {q : Nat → Nat} {b1 : Nat} {z : Nat → Int32} {n1 : Nat} {h1 : Nat → Int32} {fu : Nat} (F : Fx p s m args meth c b_M_sha 18 "CoinKeeperModel" "sha" none D cy ad A) : ∀ n : Nat, I_M_sha_597 p l e s m args below meth c D cy A ad o q b1 z n1 h1 (x_M_sha_597 fu z n1 h1 n)
  | 0 => fun _ _ _ _ _ _ hf => nomatch (show (none : Option ((Nat → Int32) × (Nat → Int32) × (Nat → Int32) × (Nat → Int32))) = some _ from hf)
  | n + 1 => wb_M_sha_597 F (w_M_sha_597 F n)
theorem hdm_0 : ({ cls := "CoinKeeperModel", name := "turn", desc := "(II)I" } : Jvm.MethodName).cls ≠ "java/lang/invoke/MethodHandle" ∧ ({ cls := "CoinKeeperModel", name := "turn", desc := "(II)I" } : Jvm.MethodName).cls ≠ "java/lang/invoke/VarHandle" ∧ (parseMethodDescriptor ({ cls := "CoinKeeperModel", name := "turn", desc := "(II)I" } : Jvm.MethodName).desc).map (fun d => d.parameters.length) = some 2 := by decide +kernel
set_option maxHeartbeats 8000000 in
set_option maxRecDepth 100000 in
theorem wb_M_sha_348 {p : Program} {l : Launch} {e : Env} {s : State} {m : MethodId} {args : Array Value} {below : List Frame} {meth : Method} {c : Code} {D : va_G} {cy : Nat → ClassId} {A : Nat → Prop} {ad : Nat → Nat} {o : Nat} {q : Nat → Nat} {b1 : Nat} {z : Nat → Int32} {n1 : Nat} {h1 : Nat → Int32} {fu : Nat} {k_121 : Int32 → Int32 → (Nat → Int32) → (Nat → Int32) → (Nat → Int32) → (Nat → Int32) → Option ((Nat → Int32) × (Nat → Int32) × (Nat → Int32) × (Nat → Int32))} {k_348 : Int32 → Int32 → Int32 → Int32 → Int32 → Int32 → Int32 → Int32 → Int32 → Int32 → Int32 → (Nat → Int32) → (Nat → Int32) → (Nat → Int32) → (Nat → Int32) → Option ((Nat → Int32) × (Nat → Int32) × (Nat → Int32) × (Nat → Int32))} (F : Fx p s m args meth c b_M_sha 18 "CoinKeeperModel" "sha" none D cy ad A) (hk_121 : I_M_sha_121 p l e s m args below meth c D cy A ad o q b1 z n1 h1 k_121) (hk_348 : I_M_sha_348 p l e s m args below meth c D cy A ad o q b1 z n1 h1 k_348) : I_M_sha_348 p l e s m args below meth c D cy A ad o q b1 z n1 h1 (xb_M_sha_348 fu z n1 h1 k_121 k_348) := by
  obtain ⟨hx, hb, hr, hml, hown, hts, hlocks, hK, hA, hSt, hnm, hex⟩ := id F
  intro x4 x6 x7 x8 x9 x10 x11 x12 x13 x14 x15 u0 u1 u2 u3 res hf H locs ls hP hD hS hl
  unfold xb_M_sha_348 at hf
  refine lv_iload hx hb d_M_sha_348 (lv_at hl 11 rfl) ?_
  refine lv_bipush (v := 64) hx hb d_M_sha_350 (by decide) ?_
  refine lv_icmp_ge (tgt := 498) hx hb d_M_sha_352 (by decide) (fun cx => ?_) (fun cx => ?_)
  · have hf := ifp cx hf
    refine lv_aload_n hx hb d_M_sha_498 rfl (lv_at hl 0 rfl) ?_
    refine va_get (D := D) (ci := 12) (v := .ref (q 34)) (C := "CoinKeeperModel") (T := F_12) (N := 98) hx hb hts i_12 hown hK hP 0 rfl rfl 42 (by decide) (hts _ gw_1461) (fun _ h9 => h9) rfl d_M_sha_499 ?_
    refine lv_iconst (v := 0) hx hb d_M_sha_502 (by decide) ?_
    refine lv_dup2_11 hx hb d_M_sha_503 rfl rfl ?_
    refine va_iald hx hb hK hP 1 1 rfl rfl (inb_in (by decide)) d_M_sha_504 ?_
    refine lv_topi (fun v1 ev => ?_)
    have hf := bn ev hf
    clear ev
    refine lv_iload hx hb d_M_sha_505 (lv_at hl 3 rfl) ?_
    refine lv_iadd hx hb d_M_sha_507 ?_
    refine lv_topi (fun v2 ev => ?_)
    have hf := bn ev hf
    clear ev
    refine va_iast hx hb hK hP hD hS 1 1 rfl rfl (inb_in (by decide)) d_M_sha_508 (fun H locs hP hD hS => ?_)
    obtain ⟨f3, ev, hf⟩ := bne hf
    have hP : va_P D classes [(o, .inr (12, mo q z)), ((q 34), .inl (cy 1, 8, .inl f3)), ((q 35), .inl (cy 1, 64, .inl u1)), ((q 36), .inl (cy 0, 32, .inl u2)), ((q 37), .inl (cy 0, 100200, .inl u3)), (b1, .inl (cy 0, n1, .inl h1))] H := by rw [ev]; exact hP
    have hD : va_D A [(o, .inr (12, mo q z)), ((q 34), .inl (cy 1, 8, .inl f3)), ((q 35), .inl (cy 1, 64, .inl u1)), ((q 36), .inl (cy 0, 32, .inl u2)), ((q 37), .inl (cy 0, 100200, .inl u3)), (b1, .inl (cy 0, n1, .inl h1))] := by rw [ev]; exact hD
    clear ev
    refine lv_aload_n hx hb d_M_sha_509 rfl (lv_at hl 0 rfl) ?_
    refine va_get (D := D) (ci := 12) (v := .ref (q 34)) (C := "CoinKeeperModel") (T := F_12) (N := 98) hx hb hts i_12 hown hK hP 0 rfl rfl 42 (by decide) (hts _ gw_1461) (fun _ h9 => h9) rfl d_M_sha_510 ?_
    refine lv_iconst (v := 1) hx hb d_M_sha_513 (by decide) ?_
    refine lv_dup2_11 hx hb d_M_sha_514 rfl rfl ?_
    refine va_iald hx hb hK hP 1 1 rfl rfl (inb_in (by decide)) d_M_sha_515 ?_
    refine lv_topi (fun v4 ev => ?_)
    have hf := bn ev hf
    clear ev
    refine lv_iload hx hb d_M_sha_516 (lv_at hl 4 rfl) ?_
    refine lv_iadd hx hb d_M_sha_518 ?_
    refine lv_topi (fun v5 ev => ?_)
    have hf := bn ev hf
    clear ev
    refine va_iast hx hb hK hP hD hS 1 1 rfl rfl (inb_in (by decide)) d_M_sha_519 (fun H locs hP hD hS => ?_)
    obtain ⟨f6, ev, hf⟩ := bne hf
    have hP : va_P D classes [(o, .inr (12, mo q z)), ((q 34), .inl (cy 1, 8, .inl f6)), ((q 35), .inl (cy 1, 64, .inl u1)), ((q 36), .inl (cy 0, 32, .inl u2)), ((q 37), .inl (cy 0, 100200, .inl u3)), (b1, .inl (cy 0, n1, .inl h1))] H := by rw [ev]; exact hP
    have hD : va_D A [(o, .inr (12, mo q z)), ((q 34), .inl (cy 1, 8, .inl f6)), ((q 35), .inl (cy 1, 64, .inl u1)), ((q 36), .inl (cy 0, 32, .inl u2)), ((q 37), .inl (cy 0, 100200, .inl u3)), (b1, .inl (cy 0, n1, .inl h1))] := by rw [ev]; exact hD
    clear ev
    refine lv_aload_n hx hb d_M_sha_520 rfl (lv_at hl 0 rfl) ?_
    refine va_get (D := D) (ci := 12) (v := .ref (q 34)) (C := "CoinKeeperModel") (T := F_12) (N := 98) hx hb hts i_12 hown hK hP 0 rfl rfl 42 (by decide) (hts _ gw_1461) (fun _ h9 => h9) rfl d_M_sha_521 ?_
    refine lv_iconst (v := 2) hx hb d_M_sha_524 (by decide) ?_
    refine lv_dup2_11 hx hb d_M_sha_525 rfl rfl ?_
    refine va_iald hx hb hK hP 1 1 rfl rfl (inb_in (by decide)) d_M_sha_526 ?_
    refine lv_topi (fun v7 ev => ?_)
    have hf := bn ev hf
    clear ev
    refine lv_iload hx hb d_M_sha_527 (lv_at hl 5 rfl) ?_
    refine lv_iadd hx hb d_M_sha_529 ?_
    refine lv_topi (fun v8 ev => ?_)
    have hf := bn ev hf
    clear ev
    refine va_iast hx hb hK hP hD hS 1 1 rfl rfl (inb_in (by decide)) d_M_sha_530 (fun H locs hP hD hS => ?_)
    obtain ⟨f9, ev, hf⟩ := bne hf
    have hP : va_P D classes [(o, .inr (12, mo q z)), ((q 34), .inl (cy 1, 8, .inl f9)), ((q 35), .inl (cy 1, 64, .inl u1)), ((q 36), .inl (cy 0, 32, .inl u2)), ((q 37), .inl (cy 0, 100200, .inl u3)), (b1, .inl (cy 0, n1, .inl h1))] H := by rw [ev]; exact hP
    have hD : va_D A [(o, .inr (12, mo q z)), ((q 34), .inl (cy 1, 8, .inl f9)), ((q 35), .inl (cy 1, 64, .inl u1)), ((q 36), .inl (cy 0, 32, .inl u2)), ((q 37), .inl (cy 0, 100200, .inl u3)), (b1, .inl (cy 0, n1, .inl h1))] := by rw [ev]; exact hD
    clear ev
    refine lv_aload_n hx hb d_M_sha_531 rfl (lv_at hl 0 rfl) ?_
    refine va_get (D := D) (ci := 12) (v := .ref (q 34)) (C := "CoinKeeperModel") (T := F_12) (N := 98) hx hb hts i_12 hown hK hP 0 rfl rfl 42 (by decide) (hts _ gw_1461) (fun _ h9 => h9) rfl d_M_sha_532 ?_
    refine lv_iconst (v := 3) hx hb d_M_sha_535 (by decide) ?_
    refine lv_dup2_11 hx hb d_M_sha_536 rfl rfl ?_
    refine va_iald hx hb hK hP 1 1 rfl rfl (inb_in (by decide)) d_M_sha_537 ?_
    refine lv_topi (fun v10 ev => ?_)
    have hf := bn ev hf
    clear ev
    refine lv_iload hx hb d_M_sha_538 (lv_at hl 6 rfl) ?_
    refine lv_iadd hx hb d_M_sha_540 ?_
    refine lv_topi (fun v11 ev => ?_)
    have hf := bn ev hf
    clear ev
    refine va_iast hx hb hK hP hD hS 1 1 rfl rfl (inb_in (by decide)) d_M_sha_541 (fun H locs hP hD hS => ?_)
    obtain ⟨f12, ev, hf⟩ := bne hf
    have hP : va_P D classes [(o, .inr (12, mo q z)), ((q 34), .inl (cy 1, 8, .inl f12)), ((q 35), .inl (cy 1, 64, .inl u1)), ((q 36), .inl (cy 0, 32, .inl u2)), ((q 37), .inl (cy 0, 100200, .inl u3)), (b1, .inl (cy 0, n1, .inl h1))] H := by rw [ev]; exact hP
    have hD : va_D A [(o, .inr (12, mo q z)), ((q 34), .inl (cy 1, 8, .inl f12)), ((q 35), .inl (cy 1, 64, .inl u1)), ((q 36), .inl (cy 0, 32, .inl u2)), ((q 37), .inl (cy 0, 100200, .inl u3)), (b1, .inl (cy 0, n1, .inl h1))] := by rw [ev]; exact hD
    clear ev
    refine lv_aload_n hx hb d_M_sha_542 rfl (lv_at hl 0 rfl) ?_
    refine va_get (D := D) (ci := 12) (v := .ref (q 34)) (C := "CoinKeeperModel") (T := F_12) (N := 98) hx hb hts i_12 hown hK hP 0 rfl rfl 42 (by decide) (hts _ gw_1461) (fun _ h9 => h9) rfl d_M_sha_543 ?_
    refine lv_iconst (v := 4) hx hb d_M_sha_546 (by decide) ?_
    refine lv_dup2_11 hx hb d_M_sha_547 rfl rfl ?_
    refine va_iald hx hb hK hP 1 1 rfl rfl (inb_in (by decide)) d_M_sha_548 ?_
    refine lv_topi (fun v13 ev => ?_)
    have hf := bn ev hf
    clear ev
    refine lv_iload hx hb d_M_sha_549 (lv_at hl 7 rfl) ?_
    refine lv_iadd hx hb d_M_sha_551 ?_
    refine lv_topi (fun v14 ev => ?_)
    have hf := bn ev hf
    clear ev
    refine va_iast hx hb hK hP hD hS 1 1 rfl rfl (inb_in (by decide)) d_M_sha_552 (fun H locs hP hD hS => ?_)
    obtain ⟨f15, ev, hf⟩ := bne hf
    have hP : va_P D classes [(o, .inr (12, mo q z)), ((q 34), .inl (cy 1, 8, .inl f15)), ((q 35), .inl (cy 1, 64, .inl u1)), ((q 36), .inl (cy 0, 32, .inl u2)), ((q 37), .inl (cy 0, 100200, .inl u3)), (b1, .inl (cy 0, n1, .inl h1))] H := by rw [ev]; exact hP
    have hD : va_D A [(o, .inr (12, mo q z)), ((q 34), .inl (cy 1, 8, .inl f15)), ((q 35), .inl (cy 1, 64, .inl u1)), ((q 36), .inl (cy 0, 32, .inl u2)), ((q 37), .inl (cy 0, 100200, .inl u3)), (b1, .inl (cy 0, n1, .inl h1))] := by rw [ev]; exact hD
    clear ev
    refine lv_aload_n hx hb d_M_sha_553 rfl (lv_at hl 0 rfl) ?_
    refine va_get (D := D) (ci := 12) (v := .ref (q 34)) (C := "CoinKeeperModel") (T := F_12) (N := 98) hx hb hts i_12 hown hK hP 0 rfl rfl 42 (by decide) (hts _ gw_1461) (fun _ h9 => h9) rfl d_M_sha_554 ?_
    refine lv_iconst (v := 5) hx hb d_M_sha_557 (by decide) ?_
    refine lv_dup2_11 hx hb d_M_sha_558 rfl rfl ?_
    refine va_iald hx hb hK hP 1 1 rfl rfl (inb_in (by decide)) d_M_sha_559 ?_
    refine lv_topi (fun v16 ev => ?_)
    have hf := bn ev hf
    clear ev
    refine lv_iload hx hb d_M_sha_560 (lv_at hl 8 rfl) ?_
    refine lv_iadd hx hb d_M_sha_562 ?_
    refine lv_topi (fun v17 ev => ?_)
    have hf := bn ev hf
    clear ev
    refine va_iast hx hb hK hP hD hS 1 1 rfl rfl (inb_in (by decide)) d_M_sha_563 (fun H locs hP hD hS => ?_)
    obtain ⟨f18, ev, hf⟩ := bne hf
    have hP : va_P D classes [(o, .inr (12, mo q z)), ((q 34), .inl (cy 1, 8, .inl f18)), ((q 35), .inl (cy 1, 64, .inl u1)), ((q 36), .inl (cy 0, 32, .inl u2)), ((q 37), .inl (cy 0, 100200, .inl u3)), (b1, .inl (cy 0, n1, .inl h1))] H := by rw [ev]; exact hP
    have hD : va_D A [(o, .inr (12, mo q z)), ((q 34), .inl (cy 1, 8, .inl f18)), ((q 35), .inl (cy 1, 64, .inl u1)), ((q 36), .inl (cy 0, 32, .inl u2)), ((q 37), .inl (cy 0, 100200, .inl u3)), (b1, .inl (cy 0, n1, .inl h1))] := by rw [ev]; exact hD
    clear ev
    refine lv_aload_n hx hb d_M_sha_564 rfl (lv_at hl 0 rfl) ?_
    refine va_get (D := D) (ci := 12) (v := .ref (q 34)) (C := "CoinKeeperModel") (T := F_12) (N := 98) hx hb hts i_12 hown hK hP 0 rfl rfl 42 (by decide) (hts _ gw_1461) (fun _ h9 => h9) rfl d_M_sha_565 ?_
    refine lv_bipush (v := 6) hx hb d_M_sha_568 (by decide) ?_
    refine lv_dup2_11 hx hb d_M_sha_570 rfl rfl ?_
    refine va_iald hx hb hK hP 1 1 rfl rfl (inb_in (by decide)) d_M_sha_571 ?_
    refine lv_topi (fun v19 ev => ?_)
    have hf := bn ev hf
    clear ev
    refine lv_iload hx hb d_M_sha_572 (lv_at hl 9 rfl) ?_
    refine lv_iadd hx hb d_M_sha_574 ?_
    refine lv_topi (fun v20 ev => ?_)
    have hf := bn ev hf
    clear ev
    refine va_iast hx hb hK hP hD hS 1 1 rfl rfl (inb_in (by decide)) d_M_sha_575 (fun H locs hP hD hS => ?_)
    obtain ⟨f21, ev, hf⟩ := bne hf
    have hP : va_P D classes [(o, .inr (12, mo q z)), ((q 34), .inl (cy 1, 8, .inl f21)), ((q 35), .inl (cy 1, 64, .inl u1)), ((q 36), .inl (cy 0, 32, .inl u2)), ((q 37), .inl (cy 0, 100200, .inl u3)), (b1, .inl (cy 0, n1, .inl h1))] H := by rw [ev]; exact hP
    have hD : va_D A [(o, .inr (12, mo q z)), ((q 34), .inl (cy 1, 8, .inl f21)), ((q 35), .inl (cy 1, 64, .inl u1)), ((q 36), .inl (cy 0, 32, .inl u2)), ((q 37), .inl (cy 0, 100200, .inl u3)), (b1, .inl (cy 0, n1, .inl h1))] := by rw [ev]; exact hD
    clear ev
    refine lv_aload_n hx hb d_M_sha_576 rfl (lv_at hl 0 rfl) ?_
    refine va_get (D := D) (ci := 12) (v := .ref (q 34)) (C := "CoinKeeperModel") (T := F_12) (N := 98) hx hb hts i_12 hown hK hP 0 rfl rfl 42 (by decide) (hts _ gw_1461) (fun _ h9 => h9) rfl d_M_sha_577 ?_
    refine lv_bipush (v := 7) hx hb d_M_sha_580 (by decide) ?_
    refine lv_dup2_11 hx hb d_M_sha_582 rfl rfl ?_
    refine va_iald hx hb hK hP 1 1 rfl rfl (inb_in (by decide)) d_M_sha_583 ?_
    refine lv_topi (fun v22 ev => ?_)
    have hf := bn ev hf
    clear ev
    refine lv_iload hx hb d_M_sha_584 (lv_at hl 10 rfl) ?_
    refine lv_iadd hx hb d_M_sha_586 ?_
    refine lv_topi (fun v23 ev => ?_)
    have hf := bn ev hf
    clear ev
    refine va_iast hx hb hK hP hD hS 1 1 rfl rfl (inb_in (by decide)) d_M_sha_587 (fun H locs hP hD hS => ?_)
    obtain ⟨f24, ev, hf⟩ := bne hf
    have hP : va_P D classes [(o, .inr (12, mo q z)), ((q 34), .inl (cy 1, 8, .inl f24)), ((q 35), .inl (cy 1, 64, .inl u1)), ((q 36), .inl (cy 0, 32, .inl u2)), ((q 37), .inl (cy 0, 100200, .inl u3)), (b1, .inl (cy 0, n1, .inl h1))] H := by rw [ev]; exact hP
    have hD : va_D A [(o, .inr (12, mo q z)), ((q 34), .inl (cy 1, 8, .inl f24)), ((q 35), .inl (cy 1, 64, .inl u1)), ((q 36), .inl (cy 0, 32, .inl u2)), ((q 37), .inl (cy 0, 100200, .inl u3)), (b1, .inl (cy 0, n1, .inl h1))] := by rw [ev]; exact hD
    clear ev
    obtain ⟨v25, ev, hf⟩ := bne hf
    refine lv_iinc (v := v25) (lv' := [(6, .int v25), (0, .ref o), (4, .int x4), (7, .int x7), (8, .int x8), (9, .int x9), (10, .int x10), (11, .int x11), (12, .int x12), (13, .int x13), (14, .int x14), (15, .int x15)]) hx hb d_M_sha_588 hl (k := 2) rfl (by rw [ev]; rfl) (by decide) rfl (fun ls hl => ?_)
    clear ev
    refine lv_goto (tgt := 121) hx hb d_M_sha_591 (by decide) ?_
    exact hk_121 _ _ _ _ _ _ _ hf _ _ _ hP hD hS (lv_sub hl [1, 2, 0] rfl)
  · have hf := ifn cx hf
    refine lv_iload hx hb d_M_sha_355 (lv_at hl 10 rfl) ?_
    refine lv_iload hx hb d_M_sha_357 (lv_at hl 7 rfl) ?_
    refine lv_bipush (v := 6) hx hb d_M_sha_359 (by decide) ?_
    obtain ⟨v26, hc, hf⟩ := bdp1 hf
    refine q_ai (wr := [(o, .inr (12, mo q z)), ((q 34), .inl (cy 1, 8, .inl u0)), ((q 35), .inl (cy 1, 64, .inl u1)), ((q 36), .inl (cy 0, 32, .inl u2)), ((q 37), .inl (cy 0, 100200, .inl u3)), (b1, .inl (cy 0, n1, .inl h1))]) (va_runS (As := [.int x11, .int (6 : Int32)]) (rest := [.int x14]) ⟨hx, hb, hml, hown, hts⟩ (c_M_turn l D cy ad fu x11 (6 : Int32) _ hc H.size) ⟨q_cB hts gw_1774 gw_18 gw_1772 hdm_0 ⟨by decide, by decide⟩, hts _ gw_1773⟩ (q_pre (hP.sub [] rfl) (hD.sub [] (by decide) rfl) hK hSt hS (va_free hD hS hA [] rfl) _) rfl rfl hl.1 rfl (lv_room (Nat.le_of_ble_eq_true rfl)) d_M_sha_361 ⟨Nat.le_of_ble_eq_true rfl, Nat.le_of_ble_eq_true rfl⟩) hP hD hS hA [] [0, 1, 2, 3, 4, 5] rfl rfl (by decide) (by decide) (fun H locs hP hD hS => ?_)
    clear hc
    have hP : va_P D classes [(o, .inr (12, mo q z)), ((q 34), .inl (cy 1, 8, .inl u0)), ((q 35), .inl (cy 1, 64, .inl u1)), ((q 36), .inl (cy 0, 32, .inl u2)), ((q 37), .inl (cy 0, 100200, .inl u3)), (b1, .inl (cy 0, n1, .inl h1))] H := hP
    have hD : va_D A [(o, .inr (12, mo q z)), ((q 34), .inl (cy 1, 8, .inl u0)), ((q 35), .inl (cy 1, 64, .inl u1)), ((q 36), .inl (cy 0, 32, .inl u2)), ((q 37), .inl (cy 0, 100200, .inl u3)), (b1, .inl (cy 0, n1, .inl h1))] := hD
    refine lv_iload hx hb d_M_sha_364 (lv_at hl 7 rfl) ?_
    refine lv_bipush (v := 11) hx hb d_M_sha_366 (by decide) ?_
    obtain ⟨v27, hc, hf⟩ := bdp1 hf
    refine q_ai (wr := [(o, .inr (12, mo q z)), ((q 34), .inl (cy 1, 8, .inl u0)), ((q 35), .inl (cy 1, 64, .inl u1)), ((q 36), .inl (cy 0, 32, .inl u2)), ((q 37), .inl (cy 0, 100200, .inl u3)), (b1, .inl (cy 0, n1, .inl h1))]) (va_runS (As := [.int x11, .int (11 : Int32)]) (rest := [.int v26, .int x14]) ⟨hx, hb, hml, hown, hts⟩ (c_M_turn l D cy ad fu x11 (11 : Int32) _ hc H.size) ⟨q_cB hts gw_1774 gw_18 gw_1772 hdm_0 ⟨by decide, by decide⟩, hts _ gw_1773⟩ (q_pre (hP.sub [] rfl) (hD.sub [] (by decide) rfl) hK hSt hS (va_free hD hS hA [] rfl) _) rfl rfl hl.1 rfl (lv_room (Nat.le_of_ble_eq_true rfl)) d_M_sha_368 ⟨Nat.le_of_ble_eq_true rfl, Nat.le_of_ble_eq_true rfl⟩) hP hD hS hA [] [0, 1, 2, 3, 4, 5] rfl rfl (by decide) (by decide) (fun H locs hP hD hS => ?_)
    clear hc
    have hP : va_P D classes [(o, .inr (12, mo q z)), ((q 34), .inl (cy 1, 8, .inl u0)), ((q 35), .inl (cy 1, 64, .inl u1)), ((q 36), .inl (cy 0, 32, .inl u2)), ((q 37), .inl (cy 0, 100200, .inl u3)), (b1, .inl (cy 0, n1, .inl h1))] H := hP
    have hD : va_D A [(o, .inr (12, mo q z)), ((q 34), .inl (cy 1, 8, .inl u0)), ((q 35), .inl (cy 1, 64, .inl u1)), ((q 36), .inl (cy 0, 32, .inl u2)), ((q 37), .inl (cy 0, 100200, .inl u3)), (b1, .inl (cy 0, n1, .inl h1))] := hD
    refine lv_ixor hx hb d_M_sha_371 ?_
    refine lv_topi (fun v28 ev => ?_)
    have hf := bn ev hf
    clear ev
    refine lv_iload hx hb d_M_sha_372 (lv_at hl 7 rfl) ?_
    refine lv_bipush (v := 25) hx hb d_M_sha_374 (by decide) ?_
    obtain ⟨v29, hc, hf⟩ := bdp1 hf
    refine q_ai (wr := [(o, .inr (12, mo q z)), ((q 34), .inl (cy 1, 8, .inl u0)), ((q 35), .inl (cy 1, 64, .inl u1)), ((q 36), .inl (cy 0, 32, .inl u2)), ((q 37), .inl (cy 0, 100200, .inl u3)), (b1, .inl (cy 0, n1, .inl h1))]) (va_runS (As := [.int x11, .int (25 : Int32)]) (rest := [.int v28, .int x14]) ⟨hx, hb, hml, hown, hts⟩ (c_M_turn l D cy ad fu x11 (25 : Int32) _ hc H.size) ⟨q_cB hts gw_1774 gw_18 gw_1772 hdm_0 ⟨by decide, by decide⟩, hts _ gw_1773⟩ (q_pre (hP.sub [] rfl) (hD.sub [] (by decide) rfl) hK hSt hS (va_free hD hS hA [] rfl) _) rfl rfl hl.1 rfl (lv_room (Nat.le_of_ble_eq_true rfl)) d_M_sha_376 ⟨Nat.le_of_ble_eq_true rfl, Nat.le_of_ble_eq_true rfl⟩) hP hD hS hA [] [0, 1, 2, 3, 4, 5] rfl rfl (by decide) (by decide) (fun H locs hP hD hS => ?_)
    clear hc
    have hP : va_P D classes [(o, .inr (12, mo q z)), ((q 34), .inl (cy 1, 8, .inl u0)), ((q 35), .inl (cy 1, 64, .inl u1)), ((q 36), .inl (cy 0, 32, .inl u2)), ((q 37), .inl (cy 0, 100200, .inl u3)), (b1, .inl (cy 0, n1, .inl h1))] H := hP
    have hD : va_D A [(o, .inr (12, mo q z)), ((q 34), .inl (cy 1, 8, .inl u0)), ((q 35), .inl (cy 1, 64, .inl u1)), ((q 36), .inl (cy 0, 32, .inl u2)), ((q 37), .inl (cy 0, 100200, .inl u3)), (b1, .inl (cy 0, n1, .inl h1))] := hD
    refine lv_ixor hx hb d_M_sha_379 ?_
    refine lv_iadd hx hb d_M_sha_380 ?_
    refine lv_topi (fun v30 ev => ?_)
    have hf := bn ev hf
    clear ev
    refine lv_iload hx hb d_M_sha_381 (lv_at hl 7 rfl) ?_
    refine lv_iload hx hb d_M_sha_383 (lv_at hl 8 rfl) ?_
    refine lv_iand hx hb d_M_sha_385 ?_
    refine lv_topi (fun v31 ev => ?_)
    have hf := bn ev hf
    clear ev
    refine lv_iload hx hb d_M_sha_386 (lv_at hl 7 rfl) ?_
    refine lv_iconst (v := (-1)) hx hb d_M_sha_388 (by decide) ?_
    refine lv_ixor hx hb d_M_sha_389 ?_
    refine lv_topi (fun v32 ev => ?_)
    have hf := bn ev hf
    clear ev
    refine lv_iload hx hb d_M_sha_390 (lv_at hl 9 rfl) ?_
    refine lv_iand hx hb d_M_sha_392 ?_
    refine lv_ixor hx hb d_M_sha_393 ?_
    refine lv_iadd hx hb d_M_sha_394 ?_
    refine lv_topi (fun v33 ev => ?_)
    have hf := bn ev hf
    clear ev
    refine va_gets hx hb (hSt.1 15 _ rfl).1 hS hown (hts _ gw_1775) (fun _ h9 => h9) d_M_sha_395 ?_
    refine lv_iload hx hb d_M_sha_398 (lv_at hl 11 rfl) ?_
    obtain ⟨hg, hf⟩ := gdp hf
    refine va_ti (v := .int (tb_15.getD x15.toNatClampNeg 0)) hx hb (hSt.1 15 _ rfl).2 hS (inb_in hg) rfl d_M_sha_400 ?_
    refine lv_topi (fun v34 ev => ?_)
    have hf := bn ev hf
    clear ev
    refine lv_iadd hx hb d_M_sha_401 ?_
    refine lv_topi (fun v35 ev => ?_)
    have hf := bn ev hf
    clear ev
    refine lv_aload_n hx hb d_M_sha_402 rfl (lv_at hl 0 rfl) ?_
    refine va_get (D := D) (ci := 12) (v := .ref (q 35)) (C := "CoinKeeperModel") (T := F_12) (N := 98) hx hb hts i_12 hown hK hP 0 rfl rfl 43 (by decide) (hts _ gw_1462) (fun _ h9 => h9) rfl d_M_sha_403 ?_
    refine lv_iload hx hb d_M_sha_406 (lv_at hl 11 rfl) ?_
    obtain ⟨hg, hf⟩ := gdp hf
    refine va_iald hx hb hK hP 2 1 rfl rfl (inb_in hg) d_M_sha_408 ?_
    refine lv_topi (fun v36 ev => ?_)
    have hf := bn ev hf
    clear ev
    refine lv_iadd hx hb d_M_sha_409 ?_
    refine lv_topi (fun v37 ev => ?_)
    have hf := bn ev hf
    clear ev
    refine lv_istore (lv' := [(16, .int v37), (0, .ref o), (4, .int x4), (6, .int x6), (7, .int x7), (8, .int x8), (9, .int x9), (10, .int x10), (11, .int x11), (12, .int x12), (13, .int x13), (14, .int x14), (15, .int x15)]) hx hb d_M_sha_410 hl (by decide) rfl (fun ls hl => ?_)
    refine lv_iload hx hb d_M_sha_412 (lv_at hl 4 rfl) ?_
    refine lv_iconst (v := 2) hx hb d_M_sha_414 (by decide) ?_
    obtain ⟨v38, hc, hf⟩ := bdp1 hf
    refine q_ai (wr := [(o, .inr (12, mo q z)), ((q 34), .inl (cy 1, 8, .inl u0)), ((q 35), .inl (cy 1, 64, .inl u1)), ((q 36), .inl (cy 0, 32, .inl u2)), ((q 37), .inl (cy 0, 100200, .inl u3)), (b1, .inl (cy 0, n1, .inl h1))]) (va_runS (As := [.int x7, .int (2 : Int32)]) (rest := []) ⟨hx, hb, hml, hown, hts⟩ (c_M_turn l D cy ad fu x7 (2 : Int32) _ hc H.size) ⟨q_cB hts gw_1774 gw_18 gw_1772 hdm_0 ⟨by decide, by decide⟩, hts _ gw_1773⟩ (q_pre (hP.sub [] rfl) (hD.sub [] (by decide) rfl) hK hSt hS (va_free hD hS hA [] rfl) _) rfl rfl hl.1 rfl (lv_room (Nat.le_of_ble_eq_true rfl)) d_M_sha_415 ⟨Nat.le_of_ble_eq_true rfl, Nat.le_of_ble_eq_true rfl⟩) hP hD hS hA [] [0, 1, 2, 3, 4, 5] rfl rfl (by decide) (by decide) (fun H locs hP hD hS => ?_)
    clear hc
    have hP : va_P D classes [(o, .inr (12, mo q z)), ((q 34), .inl (cy 1, 8, .inl u0)), ((q 35), .inl (cy 1, 64, .inl u1)), ((q 36), .inl (cy 0, 32, .inl u2)), ((q 37), .inl (cy 0, 100200, .inl u3)), (b1, .inl (cy 0, n1, .inl h1))] H := hP
    have hD : va_D A [(o, .inr (12, mo q z)), ((q 34), .inl (cy 1, 8, .inl u0)), ((q 35), .inl (cy 1, 64, .inl u1)), ((q 36), .inl (cy 0, 32, .inl u2)), ((q 37), .inl (cy 0, 100200, .inl u3)), (b1, .inl (cy 0, n1, .inl h1))] := hD
    refine lv_iload hx hb d_M_sha_418 (lv_at hl 4 rfl) ?_
    refine lv_bipush (v := 13) hx hb d_M_sha_420 (by decide) ?_
    obtain ⟨v39, hc, hf⟩ := bdp1 hf
    refine q_ai (wr := [(o, .inr (12, mo q z)), ((q 34), .inl (cy 1, 8, .inl u0)), ((q 35), .inl (cy 1, 64, .inl u1)), ((q 36), .inl (cy 0, 32, .inl u2)), ((q 37), .inl (cy 0, 100200, .inl u3)), (b1, .inl (cy 0, n1, .inl h1))]) (va_runS (As := [.int x7, .int (13 : Int32)]) (rest := [.int v38]) ⟨hx, hb, hml, hown, hts⟩ (c_M_turn l D cy ad fu x7 (13 : Int32) _ hc H.size) ⟨q_cB hts gw_1774 gw_18 gw_1772 hdm_0 ⟨by decide, by decide⟩, hts _ gw_1773⟩ (q_pre (hP.sub [] rfl) (hD.sub [] (by decide) rfl) hK hSt hS (va_free hD hS hA [] rfl) _) rfl rfl hl.1 rfl (lv_room (Nat.le_of_ble_eq_true rfl)) d_M_sha_422 ⟨Nat.le_of_ble_eq_true rfl, Nat.le_of_ble_eq_true rfl⟩) hP hD hS hA [] [0, 1, 2, 3, 4, 5] rfl rfl (by decide) (by decide) (fun H locs hP hD hS => ?_)
    clear hc
    have hP : va_P D classes [(o, .inr (12, mo q z)), ((q 34), .inl (cy 1, 8, .inl u0)), ((q 35), .inl (cy 1, 64, .inl u1)), ((q 36), .inl (cy 0, 32, .inl u2)), ((q 37), .inl (cy 0, 100200, .inl u3)), (b1, .inl (cy 0, n1, .inl h1))] H := hP
    have hD : va_D A [(o, .inr (12, mo q z)), ((q 34), .inl (cy 1, 8, .inl u0)), ((q 35), .inl (cy 1, 64, .inl u1)), ((q 36), .inl (cy 0, 32, .inl u2)), ((q 37), .inl (cy 0, 100200, .inl u3)), (b1, .inl (cy 0, n1, .inl h1))] := hD
    refine lv_ixor hx hb d_M_sha_425 ?_
    refine lv_topi (fun v40 ev => ?_)
    have hf := bn ev hf
    clear ev
    refine lv_iload hx hb d_M_sha_426 (lv_at hl 4 rfl) ?_
    refine lv_bipush (v := 22) hx hb d_M_sha_428 (by decide) ?_
    obtain ⟨v41, hc, hf⟩ := bdp1 hf
    refine q_ai (wr := [(o, .inr (12, mo q z)), ((q 34), .inl (cy 1, 8, .inl u0)), ((q 35), .inl (cy 1, 64, .inl u1)), ((q 36), .inl (cy 0, 32, .inl u2)), ((q 37), .inl (cy 0, 100200, .inl u3)), (b1, .inl (cy 0, n1, .inl h1))]) (va_runS (As := [.int x7, .int (22 : Int32)]) (rest := [.int v40]) ⟨hx, hb, hml, hown, hts⟩ (c_M_turn l D cy ad fu x7 (22 : Int32) _ hc H.size) ⟨q_cB hts gw_1774 gw_18 gw_1772 hdm_0 ⟨by decide, by decide⟩, hts _ gw_1773⟩ (q_pre (hP.sub [] rfl) (hD.sub [] (by decide) rfl) hK hSt hS (va_free hD hS hA [] rfl) _) rfl rfl hl.1 rfl (lv_room (Nat.le_of_ble_eq_true rfl)) d_M_sha_430 ⟨Nat.le_of_ble_eq_true rfl, Nat.le_of_ble_eq_true rfl⟩) hP hD hS hA [] [0, 1, 2, 3, 4, 5] rfl rfl (by decide) (by decide) (fun H locs hP hD hS => ?_)
    clear hc
    have hP : va_P D classes [(o, .inr (12, mo q z)), ((q 34), .inl (cy 1, 8, .inl u0)), ((q 35), .inl (cy 1, 64, .inl u1)), ((q 36), .inl (cy 0, 32, .inl u2)), ((q 37), .inl (cy 0, 100200, .inl u3)), (b1, .inl (cy 0, n1, .inl h1))] H := hP
    have hD : va_D A [(o, .inr (12, mo q z)), ((q 34), .inl (cy 1, 8, .inl u0)), ((q 35), .inl (cy 1, 64, .inl u1)), ((q 36), .inl (cy 0, 32, .inl u2)), ((q 37), .inl (cy 0, 100200, .inl u3)), (b1, .inl (cy 0, n1, .inl h1))] := hD
    refine lv_ixor hx hb d_M_sha_433 ?_
    refine lv_topi (fun v42 ev => ?_)
    have hf := bn ev hf
    clear ev
    refine lv_iload hx hb d_M_sha_434 (lv_at hl 4 rfl) ?_
    refine lv_iload hx hb d_M_sha_436 (lv_at hl 5 rfl) ?_
    refine lv_iand hx hb d_M_sha_438 ?_
    refine lv_topi (fun v43 ev => ?_)
    have hf := bn ev hf
    clear ev
    refine lv_iload hx hb d_M_sha_439 (lv_at hl 4 rfl) ?_
    refine lv_iload hx hb d_M_sha_441 (lv_at hl 6 rfl) ?_
    refine lv_iand hx hb d_M_sha_443 ?_
    refine lv_ixor hx hb d_M_sha_444 ?_
    refine lv_topi (fun v44 ev => ?_)
    have hf := bn ev hf
    clear ev
    refine lv_iload hx hb d_M_sha_445 (lv_at hl 5 rfl) ?_
    refine lv_iload hx hb d_M_sha_447 (lv_at hl 6 rfl) ?_
    refine lv_iand hx hb d_M_sha_449 ?_
    refine lv_ixor hx hb d_M_sha_450 ?_
    refine lv_iadd hx hb d_M_sha_451 ?_
    refine lv_topi (fun v45 ev => ?_)
    have hf := bn ev hf
    clear ev
    refine lv_istore (lv' := [(17, .int v45), (16, .int v37), (0, .ref o), (4, .int x4), (6, .int x6), (7, .int x7), (8, .int x8), (9, .int x9), (10, .int x10), (11, .int x11), (12, .int x12), (13, .int x13), (14, .int x14), (15, .int x15)]) hx hb d_M_sha_452 hl (by decide) rfl (fun ls hl => ?_)
    refine lv_iload hx hb d_M_sha_454 (lv_at hl 11 rfl) ?_
    refine lv_istore (lv' := [(14, .int x13), (17, .int v45), (16, .int v37), (0, .ref o), (4, .int x4), (6, .int x6), (7, .int x7), (8, .int x8), (9, .int x9), (10, .int x10), (11, .int x11), (12, .int x12), (13, .int x13), (15, .int x15)]) hx hb d_M_sha_456 hl (by decide) rfl (fun ls hl => ?_)
    refine lv_iload hx hb d_M_sha_458 (lv_at hl 11 rfl) ?_
    refine lv_istore (lv' := [(13, .int x12), (14, .int x13), (17, .int v45), (16, .int v37), (0, .ref o), (4, .int x4), (6, .int x6), (7, .int x7), (8, .int x8), (9, .int x9), (10, .int x10), (11, .int x11), (12, .int x12), (15, .int x15)]) hx hb d_M_sha_460 hl (by decide) rfl (fun ls hl => ?_)
    refine lv_iload hx hb d_M_sha_462 (lv_at hl 11 rfl) ?_
    refine lv_istore (lv' := [(12, .int x11), (13, .int x12), (14, .int x13), (17, .int v45), (16, .int v37), (0, .ref o), (4, .int x4), (6, .int x6), (7, .int x7), (8, .int x8), (9, .int x9), (10, .int x10), (11, .int x11), (15, .int x15)]) hx hb d_M_sha_464 hl (by decide) rfl (fun ls hl => ?_)
    refine lv_iload hx hb d_M_sha_466 (lv_at hl 11 rfl) ?_
    refine lv_iload hx hb d_M_sha_468 (lv_at hl 4 rfl) ?_
    refine lv_iadd hx hb d_M_sha_470 ?_
    refine lv_topi (fun v46 ev => ?_)
    have hf := bn ev hf
    clear ev
    refine lv_istore (lv' := [(11, .int v46), (12, .int x11), (13, .int x12), (14, .int x13), (17, .int v45), (16, .int v37), (0, .ref o), (4, .int x4), (6, .int x6), (7, .int x7), (8, .int x8), (9, .int x9), (10, .int x10), (15, .int x15)]) hx hb d_M_sha_471 hl (by decide) rfl (fun ls hl => ?_)
    refine lv_iload hx hb d_M_sha_473 (lv_at hl 11 rfl) ?_
    refine lv_istore (lv' := [(10, .int x9), (11, .int v46), (12, .int x11), (13, .int x12), (14, .int x13), (17, .int v45), (16, .int v37), (0, .ref o), (4, .int x4), (6, .int x6), (7, .int x7), (8, .int x8), (9, .int x9), (15, .int x15)]) hx hb d_M_sha_475 hl (by decide) rfl (fun ls hl => ?_)
    refine lv_iload hx hb d_M_sha_477 (lv_at hl 11 rfl) ?_
    refine lv_istore (lv' := [(9, .int x8), (10, .int x9), (11, .int v46), (12, .int x11), (13, .int x12), (14, .int x13), (17, .int v45), (16, .int v37), (0, .ref o), (4, .int x4), (6, .int x6), (7, .int x7), (8, .int x8), (15, .int x15)]) hx hb d_M_sha_479 hl (by decide) rfl (fun ls hl => ?_)
    refine lv_iload hx hb d_M_sha_481 (lv_at hl 11 rfl) ?_
    refine lv_istore (lv' := [(8, .int x7), (9, .int x8), (10, .int x9), (11, .int v46), (12, .int x11), (13, .int x12), (14, .int x13), (17, .int v45), (16, .int v37), (0, .ref o), (4, .int x4), (6, .int x6), (7, .int x7), (15, .int x15)]) hx hb d_M_sha_483 hl (by decide) rfl (fun ls hl => ?_)
    refine lv_iload hx hb d_M_sha_485 (lv_at hl 8 rfl) ?_
    refine lv_iload hx hb d_M_sha_487 (lv_at hl 7 rfl) ?_
    refine lv_iadd hx hb d_M_sha_489 ?_
    refine lv_topi (fun v47 ev => ?_)
    have hf := bn ev hf
    clear ev
    refine lv_istore (lv' := [(7, .int v47), (8, .int x7), (9, .int x8), (10, .int x9), (11, .int v46), (12, .int x11), (13, .int x12), (14, .int x13), (17, .int v45), (16, .int v37), (0, .ref o), (4, .int x4), (6, .int x6), (15, .int x15)]) hx hb d_M_sha_490 hl (by decide) rfl (fun ls hl => ?_)
    obtain ⟨v48, ev, hf⟩ := bne hf
    refine lv_iinc (v := v48) (lv' := [(15, .int v48), (7, .int v47), (8, .int x7), (9, .int x8), (10, .int x9), (11, .int v46), (12, .int x11), (13, .int x12), (14, .int x13), (17, .int v45), (16, .int v37), (0, .ref o), (4, .int x4), (6, .int x6)]) hx hb d_M_sha_492 hl (k := 13) rfl (by rw [ev]; rfl) (by decide) rfl (fun ls hl => ?_)
    clear ev
    refine lv_goto (tgt := 348) hx hb d_M_sha_495 (by decide) ?_
    exact hk_348 _ _ _ _ _ _ _ _ _ _ _ _ _ _ _ _ hf _ _ _ hP hD hS (lv_sub hl [11, 12, 13, 1, 2, 3, 4, 5, 6, 7, 8, 0] rfl)
theorem w_M_sha_348 {p : Program} {l : Launch} {e : Env} {s : State} {m : MethodId} {args : Array Value} {below : List Frame} {meth : Method} {c : Code} {D : va_G} {cy : Nat → ClassId} {A : Nat → Prop} {ad : Nat → Nat} {o : Nat} {q : Nat → Nat} {b1 : Nat} {z : Nat → Int32} {n1 : Nat} {h1 : Nat → Int32} {fu : Nat} {k_121 : Int32 → Int32 → (Nat → Int32) → (Nat → Int32) → (Nat → Int32) → (Nat → Int32) → Option ((Nat → Int32) × (Nat → Int32) × (Nat → Int32) × (Nat → Int32))} (F : Fx p s m args meth c b_M_sha 18 "CoinKeeperModel" "sha" none D cy ad A) (hk_121 : I_M_sha_121 p l e s m args below meth c D cy A ad o q b1 z n1 h1 k_121) : ∀ n : Nat, I_M_sha_348 p l e s m args below meth c D cy A ad o q b1 z n1 h1 (x_M_sha_348 fu z n1 h1 k_121 n)
  | 0 => fun _ _ _ _ _ _ _ _ _ _ _ _ _ _ _ _ hf => nomatch (show (none : Option ((Nat → Int32) × (Nat → Int32) × (Nat → Int32) × (Nat → Int32))) = some _ from hf)
  | n + 1 => wb_M_sha_348 F hk_121 (w_M_sha_348 F hk_121 n)
set_option maxHeartbeats 8000000 in
set_option maxRecDepth 100000 in
theorem wb_M_sha_172 {p : Program} {l : Launch} {e : Env} {s : State} {m : MethodId} {args : Array Value} {below : List Frame} {meth : Method} {c : Code} {D : va_G} {cy : Nat → ClassId} {A : Nat → Prop} {ad : Nat → Nat} {o : Nat} {q : Nat → Nat} {b1 : Nat} {z : Nat → Int32} {n1 : Nat} {h1 : Nat → Int32} {fu : Nat} {k_121 : Int32 → Int32 → (Nat → Int32) → (Nat → Int32) → (Nat → Int32) → (Nat → Int32) → Option ((Nat → Int32) × (Nat → Int32) × (Nat → Int32) × (Nat → Int32))} {k_172 : Int32 → Int32 → Int32 → (Nat → Int32) → (Nat → Int32) → (Nat → Int32) → (Nat → Int32) → Option ((Nat → Int32) × (Nat → Int32) × (Nat → Int32) × (Nat → Int32))} (F : Fx p s m args meth c b_M_sha 18 "CoinKeeperModel" "sha" none D cy ad A) (hk_121 : I_M_sha_121 p l e s m args below meth c D cy A ad o q b1 z n1 h1 k_121) (hk_172 : I_M_sha_172 p l e s m args below meth c D cy A ad o q b1 z n1 h1 k_172) : I_M_sha_172 p l e s m args below meth c D cy A ad o q b1 z n1 h1 (xb_M_sha_172 fu z n1 h1 k_121 k_172) := by
  obtain ⟨hx, hb, hr, hml, hown, hts, hlocks, hK, hA, hSt, hnm, hex⟩ := id F
  intro x4 x6 x7 u0 u1 u2 u3 res hf H locs ls hP hD hS hl
  unfold xb_M_sha_172 at hf
  refine lv_iload hx hb d_M_sha_172 (lv_at hl 3 rfl) ?_
  refine lv_bipush (v := 64) hx hb d_M_sha_174 (by decide) ?_
  refine lv_icmp_ge (tgt := 279) hx hb d_M_sha_176 (by decide) (fun cx => ?_) (fun cx => ?_)
  · have hf := ifp cx hf
    refine lv_aload_n hx hb d_M_sha_279 rfl (lv_at hl 0 rfl) ?_
    refine va_get (D := D) (ci := 12) (v := .ref (q 34)) (C := "CoinKeeperModel") (T := F_12) (N := 98) hx hb hts i_12 hown hK hP 0 rfl rfl 42 (by decide) (hts _ gw_1461) (fun _ h9 => h9) rfl d_M_sha_280 ?_
    refine lv_iconst (v := 0) hx hb d_M_sha_283 (by decide) ?_
    refine va_iald hx hb hK hP 1 1 rfl rfl (inb_in (by decide)) d_M_sha_284 ?_
    refine lv_topi (fun v1 ev => ?_)
    have hf := bn ev hf
    clear ev
    refine lv_istore (lv' := [(7, .int v1), (0, .ref o), (4, .int x4), (6, .int x6)]) hx hb d_M_sha_285 hl (by decide) rfl (fun ls hl => ?_)
    refine lv_aload_n hx hb d_M_sha_287 rfl (lv_at hl 1 rfl) ?_
    refine va_get (D := D) (ci := 12) (v := .ref (q 34)) (C := "CoinKeeperModel") (T := F_12) (N := 98) hx hb hts i_12 hown hK hP 0 rfl rfl 42 (by decide) (hts _ gw_1461) (fun _ h9 => h9) rfl d_M_sha_288 ?_
    refine lv_iconst (v := 1) hx hb d_M_sha_291 (by decide) ?_
    refine va_iald hx hb hK hP 1 1 rfl rfl (inb_in (by decide)) d_M_sha_292 ?_
    refine lv_topi (fun v2 ev => ?_)
    have hf := bn ev hf
    clear ev
    refine lv_istore (lv' := [(8, .int v2), (7, .int v1), (0, .ref o), (4, .int x4), (6, .int x6)]) hx hb d_M_sha_293 hl (by decide) rfl (fun ls hl => ?_)
    refine lv_aload_n hx hb d_M_sha_295 rfl (lv_at hl 2 rfl) ?_
    refine va_get (D := D) (ci := 12) (v := .ref (q 34)) (C := "CoinKeeperModel") (T := F_12) (N := 98) hx hb hts i_12 hown hK hP 0 rfl rfl 42 (by decide) (hts _ gw_1461) (fun _ h9 => h9) rfl d_M_sha_296 ?_
    refine lv_iconst (v := 2) hx hb d_M_sha_299 (by decide) ?_
    refine va_iald hx hb hK hP 1 1 rfl rfl (inb_in (by decide)) d_M_sha_300 ?_
    refine lv_topi (fun v3 ev => ?_)
    have hf := bn ev hf
    clear ev
    refine lv_istore (lv' := [(9, .int v3), (8, .int v2), (7, .int v1), (0, .ref o), (4, .int x4), (6, .int x6)]) hx hb d_M_sha_301 hl (by decide) rfl (fun ls hl => ?_)
    refine lv_aload_n hx hb d_M_sha_303 rfl (lv_at hl 3 rfl) ?_
    refine va_get (D := D) (ci := 12) (v := .ref (q 34)) (C := "CoinKeeperModel") (T := F_12) (N := 98) hx hb hts i_12 hown hK hP 0 rfl rfl 42 (by decide) (hts _ gw_1461) (fun _ h9 => h9) rfl d_M_sha_304 ?_
    refine lv_iconst (v := 3) hx hb d_M_sha_307 (by decide) ?_
    refine va_iald hx hb hK hP 1 1 rfl rfl (inb_in (by decide)) d_M_sha_308 ?_
    refine lv_topi (fun v4 ev => ?_)
    have hf := bn ev hf
    clear ev
    refine lv_istore (lv' := [(10, .int v4), (9, .int v3), (8, .int v2), (7, .int v1), (0, .ref o), (4, .int x4), (6, .int x6)]) hx hb d_M_sha_309 hl (by decide) rfl (fun ls hl => ?_)
    refine lv_aload_n hx hb d_M_sha_311 rfl (lv_at hl 4 rfl) ?_
    refine va_get (D := D) (ci := 12) (v := .ref (q 34)) (C := "CoinKeeperModel") (T := F_12) (N := 98) hx hb hts i_12 hown hK hP 0 rfl rfl 42 (by decide) (hts _ gw_1461) (fun _ h9 => h9) rfl d_M_sha_312 ?_
    refine lv_iconst (v := 4) hx hb d_M_sha_315 (by decide) ?_
    refine va_iald hx hb hK hP 1 1 rfl rfl (inb_in (by decide)) d_M_sha_316 ?_
    refine lv_topi (fun v5 ev => ?_)
    have hf := bn ev hf
    clear ev
    refine lv_istore (lv' := [(11, .int v5), (10, .int v4), (9, .int v3), (8, .int v2), (7, .int v1), (0, .ref o), (4, .int x4), (6, .int x6)]) hx hb d_M_sha_317 hl (by decide) rfl (fun ls hl => ?_)
    refine lv_aload_n hx hb d_M_sha_319 rfl (lv_at hl 5 rfl) ?_
    refine va_get (D := D) (ci := 12) (v := .ref (q 34)) (C := "CoinKeeperModel") (T := F_12) (N := 98) hx hb hts i_12 hown hK hP 0 rfl rfl 42 (by decide) (hts _ gw_1461) (fun _ h9 => h9) rfl d_M_sha_320 ?_
    refine lv_iconst (v := 5) hx hb d_M_sha_323 (by decide) ?_
    refine va_iald hx hb hK hP 1 1 rfl rfl (inb_in (by decide)) d_M_sha_324 ?_
    refine lv_topi (fun v6 ev => ?_)
    have hf := bn ev hf
    clear ev
    refine lv_istore (lv' := [(12, .int v6), (11, .int v5), (10, .int v4), (9, .int v3), (8, .int v2), (7, .int v1), (0, .ref o), (4, .int x4), (6, .int x6)]) hx hb d_M_sha_325 hl (by decide) rfl (fun ls hl => ?_)
    refine lv_aload_n hx hb d_M_sha_327 rfl (lv_at hl 6 rfl) ?_
    refine va_get (D := D) (ci := 12) (v := .ref (q 34)) (C := "CoinKeeperModel") (T := F_12) (N := 98) hx hb hts i_12 hown hK hP 0 rfl rfl 42 (by decide) (hts _ gw_1461) (fun _ h9 => h9) rfl d_M_sha_328 ?_
    refine lv_bipush (v := 6) hx hb d_M_sha_331 (by decide) ?_
    refine va_iald hx hb hK hP 1 1 rfl rfl (inb_in (by decide)) d_M_sha_333 ?_
    refine lv_topi (fun v7 ev => ?_)
    have hf := bn ev hf
    clear ev
    refine lv_istore (lv' := [(13, .int v7), (12, .int v6), (11, .int v5), (10, .int v4), (9, .int v3), (8, .int v2), (7, .int v1), (0, .ref o), (4, .int x4), (6, .int x6)]) hx hb d_M_sha_334 hl (by decide) rfl (fun ls hl => ?_)
    refine lv_aload_n hx hb d_M_sha_336 rfl (lv_at hl 7 rfl) ?_
    refine va_get (D := D) (ci := 12) (v := .ref (q 34)) (C := "CoinKeeperModel") (T := F_12) (N := 98) hx hb hts i_12 hown hK hP 0 rfl rfl 42 (by decide) (hts _ gw_1461) (fun _ h9 => h9) rfl d_M_sha_337 ?_
    refine lv_bipush (v := 7) hx hb d_M_sha_340 (by decide) ?_
    refine va_iald hx hb hK hP 1 1 rfl rfl (inb_in (by decide)) d_M_sha_342 ?_
    refine lv_topi (fun v8 ev => ?_)
    have hf := bn ev hf
    clear ev
    refine lv_istore (lv' := [(14, .int v8), (13, .int v7), (12, .int v6), (11, .int v5), (10, .int v4), (9, .int v3), (8, .int v2), (7, .int v1), (0, .ref o), (4, .int x4), (6, .int x6)]) hx hb d_M_sha_343 hl (by decide) rfl (fun ls hl => ?_)
    refine lv_iconst (v := 0) hx hb d_M_sha_345 (by decide) ?_
    refine lv_istore (lv' := [(15, .int (0 : Int32)), (14, .int v8), (13, .int v7), (12, .int v6), (11, .int v5), (10, .int v4), (9, .int v3), (8, .int v2), (7, .int v1), (0, .ref o), (4, .int x4), (6, .int x6)]) hx hb d_M_sha_346 hl (by decide) rfl (fun ls hl => ?_)
    exact w_M_sha_348 F hk_121 fu _ _ _ _ _ _ _ _ _ _ _ _ _ _ _ _ hf _ _ _ hP hD hS (lv_sub hl [9, 10, 11, 8, 7, 6, 5, 4, 3, 2, 1, 0] rfl)
  · have hf := ifn cx hf
    refine lv_aload_n hx hb d_M_sha_179 rfl (lv_at hl 0 rfl) ?_
    refine va_get (D := D) (ci := 12) (v := .ref (q 35)) (C := "CoinKeeperModel") (T := F_12) (N := 98) hx hb hts i_12 hown hK hP 0 rfl rfl 43 (by decide) (hts _ gw_1462) (fun _ h9 => h9) rfl d_M_sha_180 ?_
    refine lv_iload hx hb d_M_sha_183 (lv_at hl 3 rfl) ?_
    refine lv_bipush (v := 15) hx hb d_M_sha_185 (by decide) ?_
    refine lv_isub hx hb d_M_sha_187 ?_
    refine lv_topi (fun v9 ev => ?_)
    have hf := bn ev hf
    clear ev
    obtain ⟨hg, hf⟩ := gdp hf
    refine va_iald hx hb hK hP 2 1 rfl rfl (inb_in hg) d_M_sha_188 ?_
    refine lv_topi (fun v10 ev => ?_)
    have hf := bn ev hf
    clear ev
    refine lv_istore (lv' := [(8, .int v10), (0, .ref o), (4, .int x4), (6, .int x6), (7, .int x7)]) hx hb d_M_sha_189 hl (by decide) rfl (fun ls hl => ?_)
    refine lv_aload_n hx hb d_M_sha_191 rfl (lv_at hl 1 rfl) ?_
    refine va_get (D := D) (ci := 12) (v := .ref (q 35)) (C := "CoinKeeperModel") (T := F_12) (N := 98) hx hb hts i_12 hown hK hP 0 rfl rfl 43 (by decide) (hts _ gw_1462) (fun _ h9 => h9) rfl d_M_sha_192 ?_
    refine lv_iload hx hb d_M_sha_195 (lv_at hl 4 rfl) ?_
    refine lv_iconst (v := 2) hx hb d_M_sha_197 (by decide) ?_
    refine lv_isub hx hb d_M_sha_198 ?_
    refine lv_topi (fun v11 ev => ?_)
    have hf := bn ev hf
    clear ev
    obtain ⟨hg, hf⟩ := gdp hf
    refine va_iald hx hb hK hP 2 1 rfl rfl (inb_in hg) d_M_sha_199 ?_
    refine lv_topi (fun v12 ev => ?_)
    have hf := bn ev hf
    clear ev
    refine lv_istore (lv' := [(9, .int v12), (8, .int v10), (0, .ref o), (4, .int x4), (6, .int x6), (7, .int x7)]) hx hb d_M_sha_200 hl (by decide) rfl (fun ls hl => ?_)
    refine lv_aload_n hx hb d_M_sha_202 rfl (lv_at hl 2 rfl) ?_
    refine va_get (D := D) (ci := 12) (v := .ref (q 35)) (C := "CoinKeeperModel") (T := F_12) (N := 98) hx hb hts i_12 hown hK hP 0 rfl rfl 43 (by decide) (hts _ gw_1462) (fun _ h9 => h9) rfl d_M_sha_203 ?_
    refine lv_iload hx hb d_M_sha_206 (lv_at hl 5 rfl) ?_
    refine lv_aload_n hx hb d_M_sha_208 rfl (lv_at hl 2 rfl) ?_
    refine va_get (D := D) (ci := 12) (v := .ref (q 35)) (C := "CoinKeeperModel") (T := F_12) (N := 98) hx hb hts i_12 hown hK hP 0 rfl rfl 43 (by decide) (hts _ gw_1462) (fun _ h9 => h9) rfl d_M_sha_209 ?_
    refine lv_iload hx hb d_M_sha_212 (lv_at hl 5 rfl) ?_
    refine lv_bipush (v := 16) hx hb d_M_sha_214 (by decide) ?_
    refine lv_isub hx hb d_M_sha_216 ?_
    refine lv_topi (fun v13 ev => ?_)
    have hf := bn ev hf
    clear ev
    obtain ⟨hg, hf⟩ := gdp hf
    refine va_iald hx hb hK hP 2 1 rfl rfl (inb_in hg) d_M_sha_217 ?_
    refine lv_topi (fun v14 ev => ?_)
    have hf := bn ev hf
    clear ev
    refine lv_iload hx hb d_M_sha_218 (lv_at hl 1 rfl) ?_
    refine lv_bipush (v := 7) hx hb d_M_sha_220 (by decide) ?_
    obtain ⟨v15, hc, hf⟩ := bdp1 hf
    refine q_ai (wr := [(o, .inr (12, mo q z)), ((q 34), .inl (cy 1, 8, .inl u0)), ((q 35), .inl (cy 1, 64, .inl u1)), ((q 36), .inl (cy 0, 32, .inl u2)), ((q 37), .inl (cy 0, 100200, .inl u3)), (b1, .inl (cy 0, n1, .inl h1))]) (va_runS (As := [.int v10, .int (7 : Int32)]) (rest := [.int v14, .int x7, .ref (q 35)]) ⟨hx, hb, hml, hown, hts⟩ (c_M_turn l D cy ad fu v10 (7 : Int32) _ hc H.size) ⟨q_cB hts gw_1774 gw_18 gw_1772 hdm_0 ⟨by decide, by decide⟩, hts _ gw_1773⟩ (q_pre (hP.sub [] rfl) (hD.sub [] (by decide) rfl) hK hSt hS (va_free hD hS hA [] rfl) _) rfl rfl hl.1 rfl (lv_room (Nat.le_of_ble_eq_true rfl)) d_M_sha_222 ⟨Nat.le_of_ble_eq_true rfl, Nat.le_of_ble_eq_true rfl⟩) hP hD hS hA [] [0, 1, 2, 3, 4, 5] rfl rfl (by decide) (by decide) (fun H locs hP hD hS => ?_)
    clear hc
    have hP : va_P D classes [(o, .inr (12, mo q z)), ((q 34), .inl (cy 1, 8, .inl u0)), ((q 35), .inl (cy 1, 64, .inl u1)), ((q 36), .inl (cy 0, 32, .inl u2)), ((q 37), .inl (cy 0, 100200, .inl u3)), (b1, .inl (cy 0, n1, .inl h1))] H := hP
    have hD : va_D A [(o, .inr (12, mo q z)), ((q 34), .inl (cy 1, 8, .inl u0)), ((q 35), .inl (cy 1, 64, .inl u1)), ((q 36), .inl (cy 0, 32, .inl u2)), ((q 37), .inl (cy 0, 100200, .inl u3)), (b1, .inl (cy 0, n1, .inl h1))] := hD
    refine lv_iload hx hb d_M_sha_225 (lv_at hl 1 rfl) ?_
    refine lv_bipush (v := 18) hx hb d_M_sha_227 (by decide) ?_
    obtain ⟨v16, hc, hf⟩ := bdp1 hf
    refine q_ai (wr := [(o, .inr (12, mo q z)), ((q 34), .inl (cy 1, 8, .inl u0)), ((q 35), .inl (cy 1, 64, .inl u1)), ((q 36), .inl (cy 0, 32, .inl u2)), ((q 37), .inl (cy 0, 100200, .inl u3)), (b1, .inl (cy 0, n1, .inl h1))]) (va_runS (As := [.int v10, .int (18 : Int32)]) (rest := [.int v15, .int v14, .int x7, .ref (q 35)]) ⟨hx, hb, hml, hown, hts⟩ (c_M_turn l D cy ad fu v10 (18 : Int32) _ hc H.size) ⟨q_cB hts gw_1774 gw_18 gw_1772 hdm_0 ⟨by decide, by decide⟩, hts _ gw_1773⟩ (q_pre (hP.sub [] rfl) (hD.sub [] (by decide) rfl) hK hSt hS (va_free hD hS hA [] rfl) _) rfl rfl hl.1 rfl (lv_room (Nat.le_of_ble_eq_true rfl)) d_M_sha_229 ⟨Nat.le_of_ble_eq_true rfl, Nat.le_of_ble_eq_true rfl⟩) hP hD hS hA [] [0, 1, 2, 3, 4, 5] rfl rfl (by decide) (by decide) (fun H locs hP hD hS => ?_)
    clear hc
    have hP : va_P D classes [(o, .inr (12, mo q z)), ((q 34), .inl (cy 1, 8, .inl u0)), ((q 35), .inl (cy 1, 64, .inl u1)), ((q 36), .inl (cy 0, 32, .inl u2)), ((q 37), .inl (cy 0, 100200, .inl u3)), (b1, .inl (cy 0, n1, .inl h1))] H := hP
    have hD : va_D A [(o, .inr (12, mo q z)), ((q 34), .inl (cy 1, 8, .inl u0)), ((q 35), .inl (cy 1, 64, .inl u1)), ((q 36), .inl (cy 0, 32, .inl u2)), ((q 37), .inl (cy 0, 100200, .inl u3)), (b1, .inl (cy 0, n1, .inl h1))] := hD
    refine lv_ixor hx hb d_M_sha_232 ?_
    refine lv_topi (fun v17 ev => ?_)
    have hf := bn ev hf
    clear ev
    refine lv_iload hx hb d_M_sha_233 (lv_at hl 1 rfl) ?_
    refine lv_iconst (v := 3) hx hb d_M_sha_235 (by decide) ?_
    refine lv_iushr hx hb d_M_sha_236 rfl ?_
    refine lv_ixor hx hb d_M_sha_237 ?_
    refine lv_iadd hx hb d_M_sha_238 ?_
    refine lv_topi (fun v18 ev => ?_)
    have hf := bn ev hf
    clear ev
    refine lv_aload_n hx hb d_M_sha_239 rfl (lv_at hl 2 rfl) ?_
    refine va_get (D := D) (ci := 12) (v := .ref (q 35)) (C := "CoinKeeperModel") (T := F_12) (N := 98) hx hb hts i_12 hown hK hP 0 rfl rfl 43 (by decide) (hts _ gw_1462) (fun _ h9 => h9) rfl d_M_sha_240 ?_
    refine lv_iload hx hb d_M_sha_243 (lv_at hl 5 rfl) ?_
    refine lv_bipush (v := 7) hx hb d_M_sha_245 (by decide) ?_
    refine lv_isub hx hb d_M_sha_247 ?_
    refine lv_topi (fun v19 ev => ?_)
    have hf := bn ev hf
    clear ev
    obtain ⟨hg, hf⟩ := gdp hf
    refine va_iald hx hb hK hP 2 1 rfl rfl (inb_in hg) d_M_sha_248 ?_
    refine lv_topi (fun v20 ev => ?_)
    have hf := bn ev hf
    clear ev
    refine lv_iadd hx hb d_M_sha_249 ?_
    refine lv_topi (fun v21 ev => ?_)
    have hf := bn ev hf
    clear ev
    refine lv_iload hx hb d_M_sha_250 (lv_at hl 0 rfl) ?_
    refine lv_bipush (v := 17) hx hb d_M_sha_252 (by decide) ?_
    obtain ⟨v22, hc, hf⟩ := bdp1 hf
    refine q_ai (wr := [(o, .inr (12, mo q z)), ((q 34), .inl (cy 1, 8, .inl u0)), ((q 35), .inl (cy 1, 64, .inl u1)), ((q 36), .inl (cy 0, 32, .inl u2)), ((q 37), .inl (cy 0, 100200, .inl u3)), (b1, .inl (cy 0, n1, .inl h1))]) (va_runS (As := [.int v12, .int (17 : Int32)]) (rest := [.int v21, .int x7, .ref (q 35)]) ⟨hx, hb, hml, hown, hts⟩ (c_M_turn l D cy ad fu v12 (17 : Int32) _ hc H.size) ⟨q_cB hts gw_1774 gw_18 gw_1772 hdm_0 ⟨by decide, by decide⟩, hts _ gw_1773⟩ (q_pre (hP.sub [] rfl) (hD.sub [] (by decide) rfl) hK hSt hS (va_free hD hS hA [] rfl) _) rfl rfl hl.1 rfl (lv_room (Nat.le_of_ble_eq_true rfl)) d_M_sha_254 ⟨Nat.le_of_ble_eq_true rfl, Nat.le_of_ble_eq_true rfl⟩) hP hD hS hA [] [0, 1, 2, 3, 4, 5] rfl rfl (by decide) (by decide) (fun H locs hP hD hS => ?_)
    clear hc
    have hP : va_P D classes [(o, .inr (12, mo q z)), ((q 34), .inl (cy 1, 8, .inl u0)), ((q 35), .inl (cy 1, 64, .inl u1)), ((q 36), .inl (cy 0, 32, .inl u2)), ((q 37), .inl (cy 0, 100200, .inl u3)), (b1, .inl (cy 0, n1, .inl h1))] H := hP
    have hD : va_D A [(o, .inr (12, mo q z)), ((q 34), .inl (cy 1, 8, .inl u0)), ((q 35), .inl (cy 1, 64, .inl u1)), ((q 36), .inl (cy 0, 32, .inl u2)), ((q 37), .inl (cy 0, 100200, .inl u3)), (b1, .inl (cy 0, n1, .inl h1))] := hD
    refine lv_iload hx hb d_M_sha_257 (lv_at hl 0 rfl) ?_
    refine lv_bipush (v := 19) hx hb d_M_sha_259 (by decide) ?_
    obtain ⟨v23, hc, hf⟩ := bdp1 hf
    refine q_ai (wr := [(o, .inr (12, mo q z)), ((q 34), .inl (cy 1, 8, .inl u0)), ((q 35), .inl (cy 1, 64, .inl u1)), ((q 36), .inl (cy 0, 32, .inl u2)), ((q 37), .inl (cy 0, 100200, .inl u3)), (b1, .inl (cy 0, n1, .inl h1))]) (va_runS (As := [.int v12, .int (19 : Int32)]) (rest := [.int v22, .int v21, .int x7, .ref (q 35)]) ⟨hx, hb, hml, hown, hts⟩ (c_M_turn l D cy ad fu v12 (19 : Int32) _ hc H.size) ⟨q_cB hts gw_1774 gw_18 gw_1772 hdm_0 ⟨by decide, by decide⟩, hts _ gw_1773⟩ (q_pre (hP.sub [] rfl) (hD.sub [] (by decide) rfl) hK hSt hS (va_free hD hS hA [] rfl) _) rfl rfl hl.1 rfl (lv_room (Nat.le_of_ble_eq_true rfl)) d_M_sha_261 ⟨Nat.le_of_ble_eq_true rfl, Nat.le_of_ble_eq_true rfl⟩) hP hD hS hA [] [0, 1, 2, 3, 4, 5] rfl rfl (by decide) (by decide) (fun H locs hP hD hS => ?_)
    clear hc
    have hP : va_P D classes [(o, .inr (12, mo q z)), ((q 34), .inl (cy 1, 8, .inl u0)), ((q 35), .inl (cy 1, 64, .inl u1)), ((q 36), .inl (cy 0, 32, .inl u2)), ((q 37), .inl (cy 0, 100200, .inl u3)), (b1, .inl (cy 0, n1, .inl h1))] H := hP
    have hD : va_D A [(o, .inr (12, mo q z)), ((q 34), .inl (cy 1, 8, .inl u0)), ((q 35), .inl (cy 1, 64, .inl u1)), ((q 36), .inl (cy 0, 32, .inl u2)), ((q 37), .inl (cy 0, 100200, .inl u3)), (b1, .inl (cy 0, n1, .inl h1))] := hD
    refine lv_ixor hx hb d_M_sha_264 ?_
    refine lv_topi (fun v24 ev => ?_)
    have hf := bn ev hf
    clear ev
    refine lv_iload hx hb d_M_sha_265 (lv_at hl 0 rfl) ?_
    refine lv_bipush (v := 10) hx hb d_M_sha_267 (by decide) ?_
    refine lv_iushr hx hb d_M_sha_269 rfl ?_
    refine lv_ixor hx hb d_M_sha_270 ?_
    refine lv_iadd hx hb d_M_sha_271 ?_
    refine lv_topi (fun v25 ev => ?_)
    have hf := bn ev hf
    clear ev
    obtain ⟨hg, hf⟩ := gdp hf
    refine va_iast hx hb hK hP hD hS 2 1 rfl rfl (inb_in hg) d_M_sha_272 (fun H locs hP hD hS => ?_)
    obtain ⟨f26, ev, hf⟩ := bne hf
    have hP : va_P D classes [(o, .inr (12, mo q z)), ((q 34), .inl (cy 1, 8, .inl u0)), ((q 35), .inl (cy 1, 64, .inl f26)), ((q 36), .inl (cy 0, 32, .inl u2)), ((q 37), .inl (cy 0, 100200, .inl u3)), (b1, .inl (cy 0, n1, .inl h1))] H := by rw [ev]; exact hP
    have hD : va_D A [(o, .inr (12, mo q z)), ((q 34), .inl (cy 1, 8, .inl u0)), ((q 35), .inl (cy 1, 64, .inl f26)), ((q 36), .inl (cy 0, 32, .inl u2)), ((q 37), .inl (cy 0, 100200, .inl u3)), (b1, .inl (cy 0, n1, .inl h1))] := by rw [ev]; exact hD
    clear ev
    obtain ⟨v27, ev, hf⟩ := bne hf
    refine lv_iinc (v := v27) (lv' := [(7, .int v27), (9, .int v12), (8, .int v10), (0, .ref o), (4, .int x4), (6, .int x6)]) hx hb d_M_sha_273 hl (k := 5) rfl (by rw [ev]; rfl) (by decide) rfl (fun ls hl => ?_)
    clear ev
    refine lv_goto (tgt := 172) hx hb d_M_sha_276 (by decide) ?_
    exact hk_172 _ _ _ _ _ _ _ _ hf _ _ _ hP hD hS (lv_sub hl [3, 4, 5, 0] rfl)
theorem w_M_sha_172 {p : Program} {l : Launch} {e : Env} {s : State} {m : MethodId} {args : Array Value} {below : List Frame} {meth : Method} {c : Code} {D : va_G} {cy : Nat → ClassId} {A : Nat → Prop} {ad : Nat → Nat} {o : Nat} {q : Nat → Nat} {b1 : Nat} {z : Nat → Int32} {n1 : Nat} {h1 : Nat → Int32} {fu : Nat} {k_121 : Int32 → Int32 → (Nat → Int32) → (Nat → Int32) → (Nat → Int32) → (Nat → Int32) → Option ((Nat → Int32) × (Nat → Int32) × (Nat → Int32) × (Nat → Int32))} (F : Fx p s m args meth c b_M_sha 18 "CoinKeeperModel" "sha" none D cy ad A) (hk_121 : I_M_sha_121 p l e s m args below meth c D cy A ad o q b1 z n1 h1 k_121) : ∀ n : Nat, I_M_sha_172 p l e s m args below meth c D cy A ad o q b1 z n1 h1 (x_M_sha_172 fu z n1 h1 k_121 n)
  | 0 => fun _ _ _ _ _ _ _ _ hf => nomatch (show (none : Option ((Nat → Int32) × (Nat → Int32) × (Nat → Int32) × (Nat → Int32))) = some _ from hf)
  | n + 1 => wb_M_sha_172 F hk_121 (w_M_sha_172 F hk_121 n)
theorem hdm_1 : ({ cls := "CoinKeeperModel", name := "big", desc := "([BI)I" } : Jvm.MethodName).cls ≠ "java/lang/invoke/MethodHandle" ∧ ({ cls := "CoinKeeperModel", name := "big", desc := "([BI)I" } : Jvm.MethodName).cls ≠ "java/lang/invoke/VarHandle" ∧ (parseMethodDescriptor ({ cls := "CoinKeeperModel", name := "big", desc := "([BI)I" } : Jvm.MethodName).desc).map (fun d => d.parameters.length) = some 2 := by decide +kernel
set_option maxHeartbeats 8000000 in
set_option maxRecDepth 100000 in
theorem wb_M_sha_131 {p : Program} {l : Launch} {e : Env} {s : State} {m : MethodId} {args : Array Value} {below : List Frame} {meth : Method} {c : Code} {D : va_G} {cy : Nat → ClassId} {A : Nat → Prop} {ad : Nat → Nat} {o : Nat} {q : Nat → Nat} {b1 : Nat} {z : Nat → Int32} {n1 : Nat} {h1 : Nat → Int32} {fu : Nat} {k_121 : Int32 → Int32 → (Nat → Int32) → (Nat → Int32) → (Nat → Int32) → (Nat → Int32) → Option ((Nat → Int32) × (Nat → Int32) × (Nat → Int32) × (Nat → Int32))} {k_131 : Int32 → Int32 → Int32 → (Nat → Int32) → (Nat → Int32) → (Nat → Int32) → (Nat → Int32) → Option ((Nat → Int32) × (Nat → Int32) × (Nat → Int32) × (Nat → Int32))} (F : Fx p s m args meth c b_M_sha 18 "CoinKeeperModel" "sha" none D cy ad A) (hk_121 : I_M_sha_121 p l e s m args below meth c D cy A ad o q b1 z n1 h1 k_121) (hk_131 : I_M_sha_131 p l e s m args below meth c D cy A ad o q b1 z n1 h1 k_131) : I_M_sha_131 p l e s m args below meth c D cy A ad o q b1 z n1 h1 (xb_M_sha_131 fu z n1 h1 k_121 k_131) := by
  obtain ⟨hx, hb, hr, hml, hown, hts, hlocks, hK, hA, hSt, hnm, hex⟩ := id F
  intro x4 x6 x7 u0 u1 u2 u3 res hf H locs ls hP hD hS hl
  unfold xb_M_sha_131 at hf
  refine lv_iload hx hb d_M_sha_131 (lv_at hl 3 rfl) ?_
  refine lv_bipush (v := 16) hx hb d_M_sha_133 (by decide) ?_
  refine lv_icmp_ge (tgt := 168) hx hb d_M_sha_135 (by decide) (fun cx => ?_) (fun cx => ?_)
  · have hf := ifp cx hf
    refine lv_bipush (v := 16) hx hb d_M_sha_168 (by decide) ?_
    refine lv_istore (lv' := [(7, .int (16 : Int32)), (0, .ref o), (4, .int x4), (6, .int x6)]) hx hb d_M_sha_170 hl (by decide) rfl (fun ls hl => ?_)
    exact w_M_sha_172 F hk_121 fu _ _ _ _ _ _ _ _ hf _ _ _ hP hD hS (lv_sub hl [1, 2, 3, 0] rfl)
  · have hf := ifn cx hf
    refine lv_aload_n hx hb d_M_sha_138 rfl (lv_at hl 0 rfl) ?_
    refine va_get (D := D) (ci := 12) (v := .ref (q 35)) (C := "CoinKeeperModel") (T := F_12) (N := 98) hx hb hts i_12 hown hK hP 0 rfl rfl 43 (by decide) (hts _ gw_1462) (fun _ h9 => h9) rfl d_M_sha_139 ?_
    refine lv_iload hx hb d_M_sha_142 (lv_at hl 3 rfl) ?_
    refine lv_aload_n hx hb d_M_sha_144 rfl (lv_at hl 0 rfl) ?_
    refine va_get (D := D) (ci := 12) (v := .ref (q 37)) (C := "CoinKeeperModel") (T := F_12) (N := 98) hx hb hts i_12 hown hK hP 0 rfl rfl 45 (by decide) (hts _ gw_1464) (fun _ h9 => h9) rfl d_M_sha_145 ?_
    refine lv_bipush (v := 64) hx hb d_M_sha_148 (by decide) ?_
    refine lv_iload hx hb d_M_sha_150 (lv_at hl 2 rfl) ?_
    refine lv_imul hx hb d_M_sha_152 ?_
    refine lv_topi (fun v1 ev => ?_)
    have hf := bn ev hf
    clear ev
    refine lv_iconst (v := 4) hx hb d_M_sha_153 (by decide) ?_
    refine lv_iload hx hb d_M_sha_154 (lv_at hl 3 rfl) ?_
    refine lv_imul hx hb d_M_sha_156 ?_
    refine lv_iadd hx hb d_M_sha_157 ?_
    refine lv_topi (fun v2 ev => ?_)
    have hf := bn ev hf
    clear ev
    obtain ⟨v3, hc, hf⟩ := bdp1 hf
    refine q_ai (wr := [(o, .inr (12, mo q z)), ((q 34), .inl (cy 1, 8, .inl u0)), ((q 35), .inl (cy 1, 64, .inl u1)), ((q 36), .inl (cy 0, 32, .inl u2)), (b1, .inl (cy 0, n1, .inl h1))]) (va_runS (As := [.ref (q 37), .int v2]) (rest := [.int x7, .ref (q 35)]) ⟨hx, hb, hml, hown, hts⟩ (c_M_big l D cy ad fu (q 37) 100200 u3 v2 _ hc H.size) ⟨q_cB hts gw_1771 gw_18 gw_1769 hdm_1 ⟨by decide, by decide⟩, hts _ gw_1770⟩ (q_pre (hP.sub [4] rfl) (hD.sub [4] (by decide) rfl) hK hSt hS (va_free hD hS hA [4] rfl) _) rfl rfl hl.1 rfl (lv_room (Nat.le_of_ble_eq_true rfl)) d_M_sha_158 ⟨Nat.le_of_ble_eq_true rfl, Nat.le_of_ble_eq_true rfl⟩) hP hD hS hA [4] [0, 1, 2, 3, 5] rfl rfl (by decide) (by decide) (fun H locs hP hD hS => ?_)
    clear hc
    have hP : va_P D classes [(o, .inr (12, mo q z)), ((q 34), .inl (cy 1, 8, .inl u0)), ((q 35), .inl (cy 1, 64, .inl u1)), ((q 36), .inl (cy 0, 32, .inl u2)), (b1, .inl (cy 0, n1, .inl h1)), ((q 37), .inl (cy 0, 100200, .inl u3))] H := hP
    have hD : va_D A [(o, .inr (12, mo q z)), ((q 34), .inl (cy 1, 8, .inl u0)), ((q 35), .inl (cy 1, 64, .inl u1)), ((q 36), .inl (cy 0, 32, .inl u2)), (b1, .inl (cy 0, n1, .inl h1)), ((q 37), .inl (cy 0, 100200, .inl u3))] := hD
    obtain ⟨hg, hf⟩ := gdp hf
    refine va_iast hx hb hK hP hD hS 2 1 rfl rfl (inb_in hg) d_M_sha_161 (fun H locs hP hD hS => ?_)
    obtain ⟨f4, ev, hf⟩ := bne hf
    have hP : va_P D classes [(o, .inr (12, mo q z)), ((q 34), .inl (cy 1, 8, .inl u0)), ((q 35), .inl (cy 1, 64, .inl f4)), ((q 36), .inl (cy 0, 32, .inl u2)), (b1, .inl (cy 0, n1, .inl h1)), ((q 37), .inl (cy 0, 100200, .inl u3))] H := by rw [ev]; exact hP
    have hD : va_D A [(o, .inr (12, mo q z)), ((q 34), .inl (cy 1, 8, .inl u0)), ((q 35), .inl (cy 1, 64, .inl f4)), ((q 36), .inl (cy 0, 32, .inl u2)), (b1, .inl (cy 0, n1, .inl h1)), ((q 37), .inl (cy 0, 100200, .inl u3))] := by rw [ev]; exact hD
    clear ev
    obtain ⟨v5, ev, hf⟩ := bne hf
    refine lv_iinc (v := v5) (lv' := [(7, .int v5), (0, .ref o), (4, .int x4), (6, .int x6)]) hx hb d_M_sha_162 hl (k := 3) rfl (by rw [ev]; rfl) (by decide) rfl (fun ls hl => ?_)
    clear ev
    refine lv_goto (tgt := 131) hx hb d_M_sha_165 (by decide) ?_
    exact hk_131 _ _ _ _ _ _ _ _ hf _ _ _ (hP.sub (ws' := [(o, .inr (12, mo q z)), ((q 34), .inl (cy 1, 8, .inl u0)), ((q 35), .inl (cy 1, 64, .inl f4)), ((q 36), .inl (cy 0, 32, .inl u2)), ((q 37), .inl (cy 0, 100200, .inl u3)), (b1, .inl (cy 0, n1, .inl h1))]) [0, 1, 2, 3, 5, 4] rfl) (hD.sub (ws' := [(o, .inr (12, mo q z)), ((q 34), .inl (cy 1, 8, .inl u0)), ((q 35), .inl (cy 1, 64, .inl f4)), ((q 36), .inl (cy 0, 32, .inl u2)), ((q 37), .inl (cy 0, 100200, .inl u3)), (b1, .inl (cy 0, n1, .inl h1))]) [0, 1, 2, 3, 5, 4] (by decide) rfl) hS (lv_sub hl [1, 2, 3, 0] rfl)
theorem w_M_sha_131 {p : Program} {l : Launch} {e : Env} {s : State} {m : MethodId} {args : Array Value} {below : List Frame} {meth : Method} {c : Code} {D : va_G} {cy : Nat → ClassId} {A : Nat → Prop} {ad : Nat → Nat} {o : Nat} {q : Nat → Nat} {b1 : Nat} {z : Nat → Int32} {n1 : Nat} {h1 : Nat → Int32} {fu : Nat} {k_121 : Int32 → Int32 → (Nat → Int32) → (Nat → Int32) → (Nat → Int32) → (Nat → Int32) → Option ((Nat → Int32) × (Nat → Int32) × (Nat → Int32) × (Nat → Int32))} (F : Fx p s m args meth c b_M_sha 18 "CoinKeeperModel" "sha" none D cy ad A) (hk_121 : I_M_sha_121 p l e s m args below meth c D cy A ad o q b1 z n1 h1 k_121) : ∀ n : Nat, I_M_sha_131 p l e s m args below meth c D cy A ad o q b1 z n1 h1 (x_M_sha_131 fu z n1 h1 k_121 n)
  | 0 => fun _ _ _ _ _ _ _ _ hf => nomatch (show (none : Option ((Nat → Int32) × (Nat → Int32) × (Nat → Int32) × (Nat → Int32))) = some _ from hf)
  | n + 1 => wb_M_sha_131 F hk_121 (w_M_sha_131 F hk_121 n)
set_option maxHeartbeats 8000000 in
set_option maxRecDepth 100000 in
theorem wb_M_sha_121 {p : Program} {l : Launch} {e : Env} {s : State} {m : MethodId} {args : Array Value} {below : List Frame} {meth : Method} {c : Code} {D : va_G} {cy : Nat → ClassId} {A : Nat → Prop} {ad : Nat → Nat} {o : Nat} {q : Nat → Nat} {b1 : Nat} {z : Nat → Int32} {n1 : Nat} {h1 : Nat → Int32} {fu : Nat} {k_121 : Int32 → Int32 → (Nat → Int32) → (Nat → Int32) → (Nat → Int32) → (Nat → Int32) → Option ((Nat → Int32) × (Nat → Int32) × (Nat → Int32) × (Nat → Int32))} (F : Fx p s m args meth c b_M_sha 18 "CoinKeeperModel" "sha" none D cy ad A) (hk_121 : I_M_sha_121 p l e s m args below meth c D cy A ad o q b1 z n1 h1 k_121) : I_M_sha_121 p l e s m args below meth c D cy A ad o q b1 z n1 h1 (xb_M_sha_121 fu z n1 h1 k_121) := by
  obtain ⟨hx, hb, hr, hml, hown, hts, hlocks, hK, hA, hSt, hnm, hex⟩ := id F
  intro x4 x6 u0 u1 u2 u3 res hf H locs ls hP hD hS hl
  unfold xb_M_sha_121 at hf
  refine lv_iload hx hb d_M_sha_121 (lv_at hl 2 rfl) ?_
  refine lv_iload hx hb d_M_sha_123 (lv_at hl 1 rfl) ?_
  refine lv_icmp_ge (tgt := 594) hx hb d_M_sha_125 (by decide) (fun cx => ?_) (fun cx => ?_)
  · have hf := ifp cx hf
    refine lv_iconst (v := 0) hx hb d_M_sha_594 (by decide) ?_
    refine lv_istore (lv' := [(6, .int (0 : Int32)), (0, .ref o), (4, .int x4)]) hx hb d_M_sha_595 hl (by decide) rfl (fun ls hl => ?_)
    exact w_M_sha_597 F fu _ _ _ _ _ _ hf _ _ _ hP hD hS (lv_sub hl [1, 0] rfl)
  · have hf := ifn cx hf
    refine lv_iconst (v := 0) hx hb d_M_sha_128 (by decide) ?_
    refine lv_istore (lv' := [(7, .int (0 : Int32)), (0, .ref o), (4, .int x4), (6, .int x6)]) hx hb d_M_sha_129 hl (by decide) rfl (fun ls hl => ?_)
    exact w_M_sha_131 F hk_121 fu _ _ _ _ _ _ _ _ hf _ _ _ hP hD hS (lv_sub hl [1, 2, 3, 0] rfl)
theorem w_M_sha_121 {p : Program} {l : Launch} {e : Env} {s : State} {m : MethodId} {args : Array Value} {below : List Frame} {meth : Method} {c : Code} {D : va_G} {cy : Nat → ClassId} {A : Nat → Prop} {ad : Nat → Nat} {o : Nat} {q : Nat → Nat} {b1 : Nat} {z : Nat → Int32} {n1 : Nat} {h1 : Nat → Int32} {fu : Nat} (F : Fx p s m args meth c b_M_sha 18 "CoinKeeperModel" "sha" none D cy ad A) : ∀ n : Nat, I_M_sha_121 p l e s m args below meth c D cy A ad o q b1 z n1 h1 (x_M_sha_121 fu z n1 h1 n)
  | 0 => fun _ _ _ _ _ _ _ hf => nomatch (show (none : Option ((Nat → Int32) × (Nat → Int32) × (Nat → Int32) × (Nat → Int32))) = some _ from hf)
  | n + 1 => wb_M_sha_121 F (w_M_sha_121 F n)
set_option maxHeartbeats 8000000 in
set_option maxRecDepth 100000 in
theorem wb_M_sha_65 {p : Program} {l : Launch} {e : Env} {s : State} {m : MethodId} {args : Array Value} {below : List Frame} {meth : Method} {c : Code} {D : va_G} {cy : Nat → ClassId} {A : Nat → Prop} {ad : Nat → Nat} {o : Nat} {q : Nat → Nat} {b1 : Nat} {z : Nat → Int32} {n1 : Nat} {h1 : Nat → Int32} {fu : Nat} {k_65 : Int32 → Int32 → Int32 → Int32 → (Nat → Int32) → (Nat → Int32) → (Nat → Int32) → (Nat → Int32) → Option ((Nat → Int32) × (Nat → Int32) × (Nat → Int32) × (Nat → Int32))} (F : Fx p s m args meth c b_M_sha 18 "CoinKeeperModel" "sha" none D cy ad A) (hk_65 : I_M_sha_65 p l e s m args below meth c D cy A ad o q b1 z n1 h1 k_65) : I_M_sha_65 p l e s m args below meth c D cy A ad o q b1 z n1 h1 (xb_M_sha_65 fu z n1 h1 k_65) := by
  obtain ⟨hx, hb, hr, hml, hown, hts, hlocks, hK, hA, hSt, hnm, hex⟩ := id F
  intro x3 x4 x5 x6 u0 u1 u2 u3 res hf H locs ls hP hD hS hl
  unfold xb_M_sha_65 at hf
  refine lv_iload hx hb d_M_sha_65 (lv_at hl 4 rfl) ?_
  refine lv_bipush (v := 8) hx hb d_M_sha_67 (by decide) ?_
  refine lv_icmp_ge (tgt := 104) hx hb d_M_sha_69 (by decide) (fun cx => ?_) (fun cx => ?_)
  · have hf := ifp cx hf
    refine va_gets hx hb (hSt.1 14 _ rfl).1 hS hown (hts _ gw_1767) (fun _ h9 => h9) d_M_sha_104 ?_
    refine lv_iconst (v := 0) hx hb d_M_sha_107 (by decide) ?_
    refine lv_aload_n hx hb d_M_sha_108 rfl (lv_at hl 0 rfl) ?_
    refine va_get (D := D) (ci := 12) (v := .ref (q 34)) (C := "CoinKeeperModel") (T := F_12) (N := 98) hx hb hts i_12 hown hK hP 0 rfl rfl 42 (by decide) (hts _ gw_1461) (fun _ h9 => h9) rfl d_M_sha_109 ?_
    refine lv_iconst (v := 0) hx hb d_M_sha_112 (by decide) ?_
    refine lv_bipush (v := 8) hx hb d_M_sha_113 (by decide) ?_
    obtain ⟨hg, hf⟩ := gdp hf
    refine q_copyt (rest := []) hx hb (hml.trans hl.1.symm) hown (hts _ gw_1398) (hts _ gw_497) (hts _ gw_496) (hts _ gw_17) hK hP hD hS (hSt.1 14 _ rfl).2 1 1 rfl rfl (cpk_p hg).1 (cpk_p hg).2.1 (cpk_p hg).2.2.1 (cpk_p hg).2.2.2.1 (cpk_p hg).2.2.2.2 (by decide) (by decide) d_M_sha_115 (fun H locs hP hD hS => ?_)
    obtain ⟨f1, ev, hf⟩ := bne hf
    have hP : va_P D classes [(o, .inr (12, mo q z)), ((q 34), .inl (cy 1, 8, .inl f1)), ((q 35), .inl (cy 1, 64, .inl u1)), ((q 36), .inl (cy 0, 32, .inl u2)), ((q 37), .inl (cy 0, 100200, .inl u3)), (b1, .inl (cy 0, n1, .inl h1))] H := by rw [ev]; exact hP
    have hD : va_D A [(o, .inr (12, mo q z)), ((q 34), .inl (cy 1, 8, .inl f1)), ((q 35), .inl (cy 1, 64, .inl u1)), ((q 36), .inl (cy 0, 32, .inl u2)), ((q 37), .inl (cy 0, 100200, .inl u3)), (b1, .inl (cy 0, n1, .inl h1))] := by rw [ev]; exact hD
    clear ev
    refine lv_iconst (v := 0) hx hb d_M_sha_118 (by decide) ?_
    refine lv_istore (lv' := [(6, .int (0 : Int32)), (0, .ref o), (3, .int x3), (4, .int x4), (5, .int x5)]) hx hb d_M_sha_119 hl (by decide) rfl (fun ls hl => ?_)
    exact w_M_sha_121 F fu _ _ _ _ _ _ _ hf _ _ _ hP hD hS (lv_sub hl [1, 3, 0] rfl)
  · have hf := ifn cx hf
    refine lv_aload_n hx hb d_M_sha_72 rfl (lv_at hl 0 rfl) ?_
    refine va_get (D := D) (ci := 12) (v := .ref (q 37)) (C := "CoinKeeperModel") (T := F_12) (N := 98) hx hb hts i_12 hown hK hP 0 rfl rfl 45 (by decide) (hts _ gw_1464) (fun _ h9 => h9) rfl d_M_sha_73 ?_
    refine lv_iload hx hb d_M_sha_76 (lv_at hl 3 rfl) ?_
    refine lv_iconst (v := 1) hx hb d_M_sha_78 (by decide) ?_
    refine lv_isub hx hb d_M_sha_79 ?_
    refine lv_topi (fun v2 ev => ?_)
    have hf := bn ev hf
    clear ev
    refine lv_iload hx hb d_M_sha_80 (lv_at hl 4 rfl) ?_
    refine lv_isub hx hb d_M_sha_82 ?_
    refine lv_topi (fun v3 ev => ?_)
    have hf := bn ev hf
    clear ev
    refine lv_ldc2 (v := 8) hx hb hown (hts _ gw_1766) d_M_sha_83 ?_
    refine lv_iload_n hx hb d_M_sha_86 rfl (lv_at hl 1 rfl) ?_
    refine lv_i2l hx hb d_M_sha_87 rfl ?_
    refine lv_lmul hx hb d_M_sha_88 ?_
    refine lv_topl (fun v4 ev => ?_)
    have hf := bn ev hf
    clear ev
    refine lv_bipush (v := 8) hx hb d_M_sha_89 (by decide) ?_
    refine lv_iload hx hb d_M_sha_91 (lv_at hl 4 rfl) ?_
    refine lv_imul hx hb d_M_sha_93 ?_
    refine lv_lshr hx hb d_M_sha_94 rfl ?_
    refine lv_l2i hx hb d_M_sha_95 rfl ?_
    refine lv_i2b hx hb d_M_sha_96 rfl ?_
    refine lv_topi (fun v5 ev => ?_)
    have hf := bn ev hf
    clear ev
    obtain ⟨hg, hf⟩ := gdp hf
    refine va_bast hx hb hK hP hD hS 4 0 rfl rfl (inb_in hg) d_M_sha_97 (fun H locs hP hD hS => ?_)
    obtain ⟨f6, ev, hf⟩ := bne hf
    have hP : va_P D classes [(o, .inr (12, mo q z)), ((q 34), .inl (cy 1, 8, .inl u0)), ((q 35), .inl (cy 1, 64, .inl u1)), ((q 36), .inl (cy 0, 32, .inl u2)), ((q 37), .inl (cy 0, 100200, .inl f6)), (b1, .inl (cy 0, n1, .inl h1))] H := by rw [ev]; exact hP
    have hD : va_D A [(o, .inr (12, mo q z)), ((q 34), .inl (cy 1, 8, .inl u0)), ((q 35), .inl (cy 1, 64, .inl u1)), ((q 36), .inl (cy 0, 32, .inl u2)), ((q 37), .inl (cy 0, 100200, .inl f6)), (b1, .inl (cy 0, n1, .inl h1))] := by rw [ev]; exact hD
    clear ev
    obtain ⟨v7, ev, hf⟩ := bne hf
    refine lv_iinc (v := v7) (lv' := [(6, .int v7), (0, .ref o), (3, .int x3), (4, .int x4), (5, .int x5)]) hx hb d_M_sha_98 hl (k := 4) rfl (by rw [ev]; rfl) (by decide) rfl (fun ls hl => ?_)
    clear ev
    refine lv_goto (tgt := 65) hx hb d_M_sha_101 (by decide) ?_
    exact hk_65 _ _ _ _ _ _ _ _ _ hf _ _ _ hP hD hS (lv_sub hl [1, 2, 3, 4, 0] rfl)
theorem w_M_sha_65 {p : Program} {l : Launch} {e : Env} {s : State} {m : MethodId} {args : Array Value} {below : List Frame} {meth : Method} {c : Code} {D : va_G} {cy : Nat → ClassId} {A : Nat → Prop} {ad : Nat → Nat} {o : Nat} {q : Nat → Nat} {b1 : Nat} {z : Nat → Int32} {n1 : Nat} {h1 : Nat → Int32} {fu : Nat} (F : Fx p s m args meth c b_M_sha 18 "CoinKeeperModel" "sha" none D cy ad A) : ∀ n : Nat, I_M_sha_65 p l e s m args below meth c D cy A ad o q b1 z n1 h1 (x_M_sha_65 fu z n1 h1 n)
  | 0 => fun _ _ _ _ _ _ _ _ _ hf => nomatch (show (none : Option ((Nat → Int32) × (Nat → Int32) × (Nat → Int32) × (Nat → Int32))) = some _ from hf)
  | n + 1 => wb_M_sha_65 F (w_M_sha_65 F n)
set_option maxHeartbeats 8000000 in
set_option maxRecDepth 100000 in
theorem wb_M_sha_33 {p : Program} {l : Launch} {e : Env} {s : State} {m : MethodId} {args : Array Value} {below : List Frame} {meth : Method} {c : Code} {D : va_G} {cy : Nat → ClassId} {A : Nat → Prop} {ad : Nat → Nat} {o : Nat} {q : Nat → Nat} {b1 : Nat} {z : Nat → Int32} {n1 : Nat} {h1 : Nat → Int32} {fu : Nat} {k_33 : Int32 → Int32 → Int32 → Int32 → (Nat → Int32) → (Nat → Int32) → (Nat → Int32) → (Nat → Int32) → Option ((Nat → Int32) × (Nat → Int32) × (Nat → Int32) × (Nat → Int32))} (F : Fx p s m args meth c b_M_sha 18 "CoinKeeperModel" "sha" none D cy ad A) (hk_33 : I_M_sha_33 p l e s m args below meth c D cy A ad o q b1 z n1 h1 k_33) : I_M_sha_33 p l e s m args below meth c D cy A ad o q b1 z n1 h1 (xb_M_sha_33 fu z n1 h1 k_33) := by
  obtain ⟨hx, hb, hr, hml, hown, hts, hlocks, hK, hA, hSt, hnm, hex⟩ := id F
  intro x3 x4 x5 x6 u0 u1 u2 u3 res hf H locs ls hP hD hS hl
  unfold xb_M_sha_33 at hf
  refine lv_iload hx hb d_M_sha_33 (lv_at hl 4 rfl) ?_
  refine lv_iload hx hb d_M_sha_35 (lv_at hl 3 rfl) ?_
  refine lv_icmp_ge (tgt := 54) hx hb d_M_sha_37 (by decide) (fun cx => ?_) (fun cx => ?_)
  · have hf := ifp cx hf
    refine lv_aload_n hx hb d_M_sha_54 rfl (lv_at hl 0 rfl) ?_
    refine va_get (D := D) (ci := 12) (v := .ref (q 37)) (C := "CoinKeeperModel") (T := F_12) (N := 98) hx hb hts i_12 hown hK hP 0 rfl rfl 45 (by decide) (hts _ gw_1464) (fun _ h9 => h9) rfl d_M_sha_55 ?_
    refine lv_iload_n hx hb d_M_sha_58 rfl (lv_at hl 1 rfl) ?_
    refine lv_bipush (v := (-128)) hx hb d_M_sha_59 (by decide) ?_
    obtain ⟨hg, hf⟩ := gdp hf
    refine va_bast hx hb hK hP hD hS 4 0 rfl rfl (inb_in hg) d_M_sha_61 (fun H locs hP hD hS => ?_)
    obtain ⟨f1, ev, hf⟩ := bne hf
    have hP : va_P D classes [(o, .inr (12, mo q z)), ((q 34), .inl (cy 1, 8, .inl u0)), ((q 35), .inl (cy 1, 64, .inl u1)), ((q 36), .inl (cy 0, 32, .inl u2)), ((q 37), .inl (cy 0, 100200, .inl f1)), (b1, .inl (cy 0, n1, .inl h1))] H := by rw [ev]; exact hP
    have hD : va_D A [(o, .inr (12, mo q z)), ((q 34), .inl (cy 1, 8, .inl u0)), ((q 35), .inl (cy 1, 64, .inl u1)), ((q 36), .inl (cy 0, 32, .inl u2)), ((q 37), .inl (cy 0, 100200, .inl f1)), (b1, .inl (cy 0, n1, .inl h1))] := by rw [ev]; exact hD
    clear ev
    refine lv_iconst (v := 0) hx hb d_M_sha_62 (by decide) ?_
    refine lv_istore (lv' := [(6, .int (0 : Int32)), (0, .ref o), (3, .int x3), (4, .int x4), (5, .int x5)]) hx hb d_M_sha_63 hl (by decide) rfl (fun ls hl => ?_)
    exact w_M_sha_65 F fu _ _ _ _ _ _ _ _ _ hf _ _ _ hP hD hS (lv_sub hl [1, 2, 3, 4, 0] rfl)
  · have hf := ifn cx hf
    refine lv_aload_n hx hb d_M_sha_40 rfl (lv_at hl 0 rfl) ?_
    refine va_get (D := D) (ci := 12) (v := .ref (q 37)) (C := "CoinKeeperModel") (T := F_12) (N := 98) hx hb hts i_12 hown hK hP 0 rfl rfl 45 (by decide) (hts _ gw_1464) (fun _ h9 => h9) rfl d_M_sha_41 ?_
    refine lv_iload hx hb d_M_sha_44 (lv_at hl 4 rfl) ?_
    refine lv_iconst (v := 0) hx hb d_M_sha_46 (by decide) ?_
    obtain ⟨hg, hf⟩ := gdp hf
    refine va_bast hx hb hK hP hD hS 4 0 rfl rfl (inb_in hg) d_M_sha_47 (fun H locs hP hD hS => ?_)
    obtain ⟨f2, ev, hf⟩ := bne hf
    have hP : va_P D classes [(o, .inr (12, mo q z)), ((q 34), .inl (cy 1, 8, .inl u0)), ((q 35), .inl (cy 1, 64, .inl u1)), ((q 36), .inl (cy 0, 32, .inl u2)), ((q 37), .inl (cy 0, 100200, .inl f2)), (b1, .inl (cy 0, n1, .inl h1))] H := by rw [ev]; exact hP
    have hD : va_D A [(o, .inr (12, mo q z)), ((q 34), .inl (cy 1, 8, .inl u0)), ((q 35), .inl (cy 1, 64, .inl u1)), ((q 36), .inl (cy 0, 32, .inl u2)), ((q 37), .inl (cy 0, 100200, .inl f2)), (b1, .inl (cy 0, n1, .inl h1))] := by rw [ev]; exact hD
    clear ev
    obtain ⟨v3, ev, hf⟩ := bne hf
    refine lv_iinc (v := v3) (lv' := [(6, .int v3), (0, .ref o), (3, .int x3), (4, .int x4), (5, .int x5)]) hx hb d_M_sha_48 hl (k := 4) rfl (by rw [ev]; rfl) (by decide) rfl (fun ls hl => ?_)
    clear ev
    refine lv_goto (tgt := 33) hx hb d_M_sha_51 (by decide) ?_
    exact hk_33 _ _ _ _ _ _ _ _ _ hf _ _ _ hP hD hS (lv_sub hl [1, 2, 3, 4, 0] rfl)
theorem w_M_sha_33 {p : Program} {l : Launch} {e : Env} {s : State} {m : MethodId} {args : Array Value} {below : List Frame} {meth : Method} {c : Code} {D : va_G} {cy : Nat → ClassId} {A : Nat → Prop} {ad : Nat → Nat} {o : Nat} {q : Nat → Nat} {b1 : Nat} {z : Nat → Int32} {n1 : Nat} {h1 : Nat → Int32} {fu : Nat} (F : Fx p s m args meth c b_M_sha 18 "CoinKeeperModel" "sha" none D cy ad A) : ∀ n : Nat, I_M_sha_33 p l e s m args below meth c D cy A ad o q b1 z n1 h1 (x_M_sha_33 fu z n1 h1 n)
  | 0 => fun _ _ _ _ _ _ _ _ _ hf => nomatch (show (none : Option ((Nat → Int32) × (Nat → Int32) × (Nat → Int32) × (Nat → Int32))) = some _ from hf)
  | n + 1 => wb_M_sha_33 F (w_M_sha_33 F n)
set_option maxHeartbeats 8000000 in
set_option maxRecDepth 100000 in
theorem we_M_sha {p : Program} {l : Launch} {e : Env} {s : State} {m : MethodId} {args : Array Value} {below : List Frame} {meth : Method} {c : Code} {D : va_G} {cy : Nat → ClassId} {A : Nat → Prop} {ad : Nat → Nat} {o : Nat} {q : Nat → Nat} {b1 : Nat} {z : Nat → Int32} {n1 : Nat} {h1 : Nat → Int32} {fu : Nat} (F : Fx p s m args meth c b_M_sha 18 "CoinKeeperModel" "sha" none D cy ad A) : I_M_sha_e p l e s m args below meth c D cy A ad o q b1 z n1 h1 (x_M_sha fu z n1 h1) := by
  obtain ⟨hx, hb, hr, hml, hown, hts, hlocks, hK, hA, hSt, hnm, hex⟩ := id F
  intro a2 a3 u0 u1 u2 u3 res hf H locs ls hP hD hS hl
  unfold x_M_sha at hf
  refine lv_iload_n hx hb d_M_sha_0 rfl (lv_at hl 3 rfl) ?_
  refine lv_bipush (v := 9) hx hb d_M_sha_1 (by decide) ?_
  refine lv_iadd hx hb d_M_sha_3 ?_
  refine lv_topi (fun v1 ev => ?_)
  have hf := bn ev hf
  clear ev
  refine lv_bipush (v := 63) hx hb d_M_sha_4 (by decide) ?_
  refine lv_iadd hx hb d_M_sha_6 ?_
  refine lv_topi (fun v2 ev => ?_)
  have hf := bn ev hf
  clear ev
  refine lv_bipush (v := 64) hx hb d_M_sha_7 (by decide) ?_
  refine lv_idiv hx hb d_M_sha_9 (by decide) ?_
  refine lv_topi (fun v3 ev => ?_)
  have hf := bn ev hf
  clear ev
  refine lv_istore (lv' := [(4, .int v3), (0, .ref o), (1, .ref b1), (2, .int a2), (3, .int a3)]) hx hb d_M_sha_10 hl (by decide) rfl (fun ls hl => ?_)
  refine lv_bipush (v := 64) hx hb d_M_sha_12 (by decide) ?_
  refine lv_iload hx hb d_M_sha_14 (lv_at hl 0 rfl) ?_
  refine lv_imul hx hb d_M_sha_16 ?_
  refine lv_topi (fun v4 ev => ?_)
  have hf := bn ev hf
  clear ev
  refine lv_istore (lv' := [(5, .int v4), (4, .int v3), (0, .ref o), (1, .ref b1), (2, .int a2), (3, .int a3)]) hx hb d_M_sha_17 hl (by decide) rfl (fun ls hl => ?_)
  refine lv_aload_n hx hb d_M_sha_19 rfl (lv_at hl 3 rfl) ?_
  refine lv_iload_n hx hb d_M_sha_20 rfl (lv_at hl 4 rfl) ?_
  refine lv_aload_n hx hb d_M_sha_21 rfl (lv_at hl 2 rfl) ?_
  refine va_get (D := D) (ci := 12) (v := .ref (q 37)) (C := "CoinKeeperModel") (T := F_12) (N := 98) hx hb hts i_12 hown hK hP 0 rfl rfl 45 (by decide) (hts _ gw_1464) (fun _ h9 => h9) rfl d_M_sha_22 ?_
  refine lv_iconst (v := 0) hx hb d_M_sha_25 (by decide) ?_
  refine lv_iload_n hx hb d_M_sha_26 rfl (lv_at hl 5 rfl) ?_
  obtain ⟨hg, hf⟩ := gdp hf
  obtain ⟨hg2, hf⟩ := gdp hf
  refine va_copyi (rest := []) hx hb (hml.trans hl.1.symm) hown (hts _ gw_1398) (hts _ gw_497) (hts _ gw_496) (hts _ gw_17) hK hP hD hS 5 4 0 0 rfl rfl rfl rfl rfl (cpk_p hg).1 (cpk_p hg).2.1 (cpk_p hg).2.2.1 (cpk_p hg).2.2.2.1 (cpk_p hg).2.2.2.2 (bfit_p hg2) (by decide) (by decide) d_M_sha_27 (fun H locs hP hD hS => ?_)
  obtain ⟨f5, ev, hf⟩ := bne hf
  have hP : va_P D classes [(o, .inr (12, mo q z)), ((q 34), .inl (cy 1, 8, .inl u0)), ((q 35), .inl (cy 1, 64, .inl u1)), ((q 36), .inl (cy 0, 32, .inl u2)), ((q 37), .inl (cy 0, 100200, .inl f5)), (b1, .inl (cy 0, n1, .inl h1))] H := by rw [ev]; exact hP
  have hD : va_D A [(o, .inr (12, mo q z)), ((q 34), .inl (cy 1, 8, .inl u0)), ((q 35), .inl (cy 1, 64, .inl u1)), ((q 36), .inl (cy 0, 32, .inl u2)), ((q 37), .inl (cy 0, 100200, .inl f5)), (b1, .inl (cy 0, n1, .inl h1))] := by rw [ev]; exact hD
  clear ev
  refine lv_iload_n hx hb d_M_sha_30 rfl (lv_at hl 5 rfl) ?_
  refine lv_istore (lv' := [(6, .int a3), (5, .int v4), (4, .int v3), (0, .ref o), (1, .ref b1), (2, .int a2), (3, .int a3)]) hx hb d_M_sha_31 hl (by decide) rfl (fun ls hl => ?_)
  exact w_M_sha_33 F fu _ _ _ _ _ _ _ _ _ hf _ _ _ hP hD hS (lv_sub hl [3, 6, 2, 1, 0] rfl)
theorem c_M_sha (l : Launch) (D : va_G) (cy : Nat → ClassId) (ad : Nat → Nat) (fu : Nat) (o : Nat) (q : Nat → Nat) (b1 : Nat) (z : Nat → Int32) (n1 : Nat) (h1 : Nat → Int32) (a2 : Int32) (a3 : Int32) (u0 : Nat → Int32) (u1 : Nat → Int32) (u2 : Nat → Int32) (u3 : Nat → Int32) (res : (Nat → Int32) × (Nat → Int32) × (Nat → Int32) × (Nat → Int32)) (hf : x_M_sha fu z n1 h1 a2 a3 u0 u1 u2 u3 = some res) (sz : Nat) : Met l ({ cls := "CoinKeeperModel", name := "sha", desc := "([BII)V" } : Jvm.MethodName) (.code ({ cls := "CoinKeeperModel", name := "sha", desc := "([BII)V" } : Jvm.MethodName) b_M_sha 18 none :: gw) rm_M_sha (va_Pc [.ref o, .ref b1, .int a2, .int a3] (Pr D cy ad [(o, .inr (12, mo q z)), ((q 34), .inl (cy 1, 8, .inl u0)), ((q 35), .inl (cy 1, 64, .inl u1)), ((q 36), .inl (cy 0, 32, .inl u2)), ((q 37), .inl (cy 0, 100200, .inl u3)), (b1, .inl (cy 0, n1, .inl h1))] sz)) (q_M_sha D cy (va_A [(o, .inr (12, mo q z)), ((q 34), .inl (cy 1, 8, .inl u0)), ((q 35), .inl (cy 1, 64, .inl u1)), ((q 36), .inl (cy 0, 32, .inl u2)), ((q 37), .inl (cy 0, 100200, .inl u3)), (b1, .inl (cy 0, n1, .inl h1))] sz) o q b1 z n1 h1 res) 0 0 (va_A [(o, .inr (12, mo q z)), ((q 34), .inl (cy 1, 8, .inl u0)), ((q 35), .inl (cy 1, 64, .inl u1)), ((q 36), .inl (cy 0, 32, .inl u2)), ((q 37), .inl (cy 0, 100200, .inl u3)), (b1, .inl (cy 0, n1, .inl h1))] sz) :=
  q_met (Qc := fun A => q_M_sha D cy A o q b1 z n1 h1 res) (by decide) rfl rfl (Nat.le_of_ble_eq_true rfl) (fun p e s m below meth c ls F hP hD hS hl => we_M_sha (fu := fu) F a2 a3 u0 u1 u2 u3 res hf _ _ _ hP hD hS hl) sz
