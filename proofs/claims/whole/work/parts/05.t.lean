def mo (q : Nat → Nat) (z : Nat → Int32) : List Value := [.ref (q 0), .ref (q 1), .int (z 0), .int (z 1), .int (z 2), .ref (q 2), .ref (q 3), .ref (q 4), .ref (q 5), .ref (q 6), .ref (q 7), .ref (q 8), .ref (q 9), .ref (q 10), .ref (q 11), .int (z 3), .int (z 4), .ref (q 12), .ref (q 13), .ref (q 14), .ref (q 15), .ref (q 16), .ref (q 17), .ref (q 18), .ref (q 19), .int (z 5), .ref (q 20), .ref (q 21), .ref (q 22), .ref (q 23), .ref (q 24), .int (z 6), .ref (q 25), .ref (q 26), .ref (q 27), .ref (q 28), .int (z 7), .ref (q 29), .ref (q 30), .ref (q 31), .ref (q 32), .ref (q 33), .ref (q 34), .ref (q 35), .ref (q 36), .ref (q 37), .ref (q 38), .ref (q 39), .ref (q 40), .ref (q 41), .ref (q 42), .ref (q 43), .ref (q 44), .ref (q 45), .ref (q 46), .ref (q 47), .ref (q 48), .ref (q 49), .ref (q 50), .ref (q 51), .ref (q 52), .ref (q 53), .ref (q 54), .ref (q 55), .ref (q 56), .ref (q 57), .ref (q 58), .ref (q 59), .ref (q 60), .ref (q 61), .ref (q 62), .ref (q 63), .ref (q 64), .ref (q 65), .int (z 8), .ref (q 66), .ref (q 67), .ref (q 68), .ref (q 69), .int (z 9), .int (z 10), .int (z 11), .ref (q 70), .int (z 12), .int (z 13), .int (z 14), .int (z 15), .ref (q 71), .ref (q 72), .int (z 16), .int (z 17), .int (z 18), .ref (q 73), .ref (q 74), .ref (q 75), .int (z 19), .ref (q 76), .ref (q 77)]
abbrev b_M_turn : ByteArray := prog_14_method_3_code
theorem d_M_turn_0 : decode b_M_turn 0 = .ok (.iload_n 0, 1) := by decide +kernel
theorem d_M_turn_1 : decode b_M_turn 1 = .ok (.iload_n 1, 1) := by decide +kernel
theorem d_M_turn_2 : decode b_M_turn 2 = .ok (.iushr, 1) := by decide +kernel
theorem d_M_turn_3 : decode b_M_turn 3 = .ok (.iload_n 0, 1) := by decide +kernel
theorem d_M_turn_4 : decode b_M_turn 4 = .ok (.bipush 32, 2) := by decide +kernel
theorem d_M_turn_6 : decode b_M_turn 6 = .ok (.iload_n 1, 1) := by decide +kernel
theorem d_M_turn_7 : decode b_M_turn 7 = .ok (.isub, 1) := by decide +kernel
theorem d_M_turn_8 : decode b_M_turn 8 = .ok (.ishl, 1) := by decide +kernel
theorem d_M_turn_9 : decode b_M_turn 9 = .ok (.ior, 1) := by decide +kernel
theorem d_M_turn_10 : decode b_M_turn 10 = .ok (.ireturn, 1) := by decide +kernel
abbrev rm_M_turn : Room := { frames := 0, cells := 0, slots := 0, locals := 0 }
abbrev q_M_turn (D : va_G) (cy : Nat → ClassId) (A : Nat → Prop) (res : Int32) : Array Value → State → Outcome → State → Prop := va_Qi (fun r' (_ : Unit) => r' = res) (fun _ t => Po D cy A [] t) A
def x_M_turn (fu : Nat) (a0 : Int32) (a1 : Int32) : Option (Int32) :=
  bnd ((a0.toUInt32 >>> (a1.toUInt32 &&& Int32.toUInt32 31)).toInt32) fun v1 => bnd (v1 ||| (a0 <<< (((32 : Int32) - a1) &&& 31))) fun v2 => some (v2)
def I_M_turn_e (p : Program) (l : Launch) (e : Env) (s : State) (m : MethodId) (args : Array Value) (below : List Frame) (meth : Method) (c : Code) (D : va_G) (cy : Nat → ClassId) (A : Nat → Prop) (k : Int32 → Int32 → Option (Int32)) : Prop :=
  ∀ (a0 : Int32) (a1 : Int32) (res : Int32), k a0 a1 = some res → ∀ (H : Heap) (locs : List Loc) (ls : Array Slot), va_P D classes [] H → va_D A [] → va_S A s.heap H locs → lv_has ls 2 [(0, .int a0), (1, .int a1)] → W p l e rm_M_turn s m args below meth c H locs 0 0 (MQ below (q_M_turn D cy A res) args s 0 0 A) (F0 m 0 ls [])
set_option maxHeartbeats 8000000 in
set_option maxRecDepth 100000 in
theorem we_M_turn {p : Program} {l : Launch} {e : Env} {s : State} {m : MethodId} {args : Array Value} {below : List Frame} {meth : Method} {c : Code} {D : va_G} {cy : Nat → ClassId} {A : Nat → Prop} {ad : Nat → Nat} {fu : Nat} (F : Fx p s m args meth c b_M_turn 2 "CoinKeeperModel" (some .int) D cy ad A) : I_M_turn_e p l e s m args below meth c D cy A (x_M_turn fu) := by
  obtain ⟨hx, hb, hr, hml, hown, hts, hlocks, hK, hA, hSt⟩ := id F
  intro a0 a1 res hf H locs ls hP hD hS hl
  unfold x_M_turn at hf
  refine lv_iload_n hx hb d_M_turn_0 rfl (lv_at hl 0 rfl) ?_
  refine lv_iload_n hx hb d_M_turn_1 rfl (lv_at hl 1 rfl) ?_
  refine lv_iushr hx hb d_M_turn_2 rfl ?_
  refine lv_topi (fun v1 ev => ?_)
  have hf := bn ev hf
  clear ev
  refine lv_iload_n hx hb d_M_turn_3 rfl (lv_at hl 0 rfl) ?_
  refine lv_bipush (v := 32) hx hb d_M_turn_4 (by decide) ?_
  refine lv_iload_n hx hb d_M_turn_6 rfl (lv_at hl 1 rfl) ?_
  refine lv_isub hx hb d_M_turn_7 ?_
  refine lv_ishl hx hb d_M_turn_8 ?_
  refine lv_ior hx hb d_M_turn_9 ?_
  refine lv_topi (fun v2 ev => ?_)
  have hf := bn ev hf
  clear ev
  obtain rfl := Option.some.inj hf
  exact q_ri hx hb hr hlocks hK hP hD hS d_M_turn_10
theorem c_M_turn (l : Launch) (D : va_G) (cy : Nat → ClassId) (ad : Nat → Nat) (fu : Nat) (a0 : Int32) (a1 : Int32) (res : Int32) (hf : x_M_turn fu a0 a1 = some res) (sz : Nat) : Met l ({ cls := "CoinKeeperModel", name := "turn", desc := "(II)I" } : Jvm.MethodName) (.code ({ cls := "CoinKeeperModel", name := "turn", desc := "(II)I" } : Jvm.MethodName) b_M_turn 2 (some .int) :: gw) rm_M_turn (va_Pc [.int a0, .int a1] (Pr D cy ad [] sz)) (q_M_turn D cy (va_A [] sz) res) 0 0 (va_A [] sz) :=
  q_met (Qc := fun A => q_M_turn D cy A res) (by decide) rfl (Nat.le_of_ble_eq_true rfl) (fun p e s m below meth c ls F hP hD hS hl => we_M_turn (fu := fu) F a0 a1 res hf _ _ _ hP hD hS hl) sz
abbrev b_M_big : ByteArray := prog_14_method_6_code
theorem d_M_big_0 : decode b_M_big 0 = .ok (.aload_n 0, 1) := by decide +kernel
theorem d_M_big_1 : decode b_M_big 1 = .ok (.iload_n 1, 1) := by decide +kernel
theorem d_M_big_2 : decode b_M_big 2 = .ok (.baload, 1) := by decide +kernel
theorem d_M_big_3 : decode b_M_big 3 = .ok (.sipush 255, 3) := by decide +kernel
theorem d_M_big_6 : decode b_M_big 6 = .ok (.iand, 1) := by decide +kernel
theorem d_M_big_7 : decode b_M_big 7 = .ok (.bipush 24, 2) := by decide +kernel
theorem d_M_big_9 : decode b_M_big 9 = .ok (.ishl, 1) := by decide +kernel
theorem d_M_big_10 : decode b_M_big 10 = .ok (.aload_n 0, 1) := by decide +kernel
theorem d_M_big_11 : decode b_M_big 11 = .ok (.iload_n 1, 1) := by decide +kernel
theorem d_M_big_12 : decode b_M_big 12 = .ok (.iconst 1, 1) := by decide +kernel
theorem d_M_big_13 : decode b_M_big 13 = .ok (.iadd, 1) := by decide +kernel
theorem d_M_big_14 : decode b_M_big 14 = .ok (.baload, 1) := by decide +kernel
theorem d_M_big_15 : decode b_M_big 15 = .ok (.sipush 255, 3) := by decide +kernel
theorem d_M_big_18 : decode b_M_big 18 = .ok (.iand, 1) := by decide +kernel
theorem d_M_big_19 : decode b_M_big 19 = .ok (.bipush 16, 2) := by decide +kernel
theorem d_M_big_21 : decode b_M_big 21 = .ok (.ishl, 1) := by decide +kernel
theorem d_M_big_22 : decode b_M_big 22 = .ok (.ior, 1) := by decide +kernel
theorem d_M_big_23 : decode b_M_big 23 = .ok (.aload_n 0, 1) := by decide +kernel
theorem d_M_big_24 : decode b_M_big 24 = .ok (.iload_n 1, 1) := by decide +kernel
theorem d_M_big_25 : decode b_M_big 25 = .ok (.iconst 2, 1) := by decide +kernel
theorem d_M_big_26 : decode b_M_big 26 = .ok (.iadd, 1) := by decide +kernel
theorem d_M_big_27 : decode b_M_big 27 = .ok (.baload, 1) := by decide +kernel
theorem d_M_big_28 : decode b_M_big 28 = .ok (.sipush 255, 3) := by decide +kernel
theorem d_M_big_31 : decode b_M_big 31 = .ok (.iand, 1) := by decide +kernel
theorem d_M_big_32 : decode b_M_big 32 = .ok (.bipush 8, 2) := by decide +kernel
theorem d_M_big_34 : decode b_M_big 34 = .ok (.ishl, 1) := by decide +kernel
theorem d_M_big_35 : decode b_M_big 35 = .ok (.ior, 1) := by decide +kernel
theorem d_M_big_36 : decode b_M_big 36 = .ok (.aload_n 0, 1) := by decide +kernel
theorem d_M_big_37 : decode b_M_big 37 = .ok (.iload_n 1, 1) := by decide +kernel
theorem d_M_big_38 : decode b_M_big 38 = .ok (.iconst 3, 1) := by decide +kernel
theorem d_M_big_39 : decode b_M_big 39 = .ok (.iadd, 1) := by decide +kernel
theorem d_M_big_40 : decode b_M_big 40 = .ok (.baload, 1) := by decide +kernel
theorem d_M_big_41 : decode b_M_big 41 = .ok (.sipush 255, 3) := by decide +kernel
theorem d_M_big_44 : decode b_M_big 44 = .ok (.iand, 1) := by decide +kernel
theorem d_M_big_45 : decode b_M_big 45 = .ok (.ior, 1) := by decide +kernel
theorem d_M_big_46 : decode b_M_big 46 = .ok (.ireturn, 1) := by decide +kernel
abbrev rm_M_big : Room := { frames := 0, cells := 0, slots := 0, locals := 0 }
abbrev q_M_big (D : va_G) (cy : Nat → ClassId) (A : Nat → Prop) (b0 : Nat) (n0 : Nat) (h0 : Nat → Int32) (res : Int32) : Array Value → State → Outcome → State → Prop := va_Qi (fun r' (_ : Unit) => r' = res) (fun _ t => Po D cy A [(b0, .inl (cy 0, n0, .inl h0))] t) A
def x_M_big (fu : Nat) (n0 : Nat) (h0 : Nat → Int32) (a1 : Int32) : Option (Int32) :=
  gd (inb a1 n0) <| bnd (h0 a1.toNatClampNeg) fun v1 => bnd (v1 &&& (255 : Int32)) fun v2 => bnd (v2 <<< ((24 : Int32) &&& 31)) fun v3 => bnd (a1 + (1 : Int32)) fun v4 => gd (inb v4 n0) <| bnd (h0 v4.toNatClampNeg) fun v5 => bnd (v5 &&& (255 : Int32)) fun v6 => bnd (v3 ||| (v6 <<< ((16 : Int32) &&& 31))) fun v7 => bnd (a1 + (2 : Int32)) fun v8 => gd (inb v8 n0) <| bnd (h0 v8.toNatClampNeg) fun v9 => bnd (v9 &&& (255 : Int32)) fun v10 => bnd (v7 ||| (v10 <<< ((8 : Int32) &&& 31))) fun v11 => bnd (a1 + (3 : Int32)) fun v12 => gd (inb v12 n0) <| bnd (h0 v12.toNatClampNeg) fun v13 => bnd (v11 ||| (v13 &&& (255 : Int32))) fun v14 => some (v14)
def I_M_big_e (p : Program) (l : Launch) (e : Env) (s : State) (m : MethodId) (args : Array Value) (below : List Frame) (meth : Method) (c : Code) (D : va_G) (cy : Nat → ClassId) (A : Nat → Prop) (b0 : Nat) (n0 : Nat) (h0 : Nat → Int32) (k : Int32 → Option (Int32)) : Prop :=
  ∀ (a1 : Int32) (res : Int32), k a1 = some res → ∀ (H : Heap) (locs : List Loc) (ls : Array Slot), va_P D classes [(b0, .inl (cy 0, n0, .inl h0))] H → va_D A [(b0, .inl (cy 0, n0, .inl h0))] → va_S A s.heap H locs → lv_has ls 2 [(0, .ref b0), (1, .int a1)] → W p l e rm_M_big s m args below meth c H locs 0 0 (MQ below (q_M_big D cy A b0 n0 h0 res) args s 0 0 A) (F0 m 0 ls [])
set_option maxHeartbeats 8000000 in
set_option maxRecDepth 100000 in
theorem we_M_big {p : Program} {l : Launch} {e : Env} {s : State} {m : MethodId} {args : Array Value} {below : List Frame} {meth : Method} {c : Code} {D : va_G} {cy : Nat → ClassId} {A : Nat → Prop} {ad : Nat → Nat} {b0 : Nat} {n0 : Nat} {h0 : Nat → Int32} {fu : Nat} (F : Fx p s m args meth c b_M_big 2 "CoinKeeperModel" (some .int) D cy ad A) : I_M_big_e p l e s m args below meth c D cy A b0 n0 h0 (x_M_big fu n0 h0) := by
  obtain ⟨hx, hb, hr, hml, hown, hts, hlocks, hK, hA, hSt⟩ := id F
  intro a1 res hf H locs ls hP hD hS hl
  unfold x_M_big at hf
  refine lv_aload_n hx hb d_M_big_0 rfl (lv_at hl 0 rfl) ?_
  refine lv_iload_n hx hb d_M_big_1 rfl (lv_at hl 1 rfl) ?_
  obtain ⟨hg, hf⟩ := gdp hf
  refine va_bald hx hb hK hP 0 0 rfl rfl (inb_in hg) d_M_big_2 ?_
  refine lv_topi (fun v1 ev => ?_)
  have hf := bn ev hf
  clear ev
  refine lv_sipush (v := 255) hx hb d_M_big_3 (by decide) ?_
  refine lv_iand hx hb d_M_big_6 ?_
  refine lv_topi (fun v2 ev => ?_)
  have hf := bn ev hf
  clear ev
  refine lv_bipush (v := 24) hx hb d_M_big_7 (by decide) ?_
  refine lv_ishl hx hb d_M_big_9 ?_
  refine lv_topi (fun v3 ev => ?_)
  have hf := bn ev hf
  clear ev
  refine lv_aload_n hx hb d_M_big_10 rfl (lv_at hl 0 rfl) ?_
  refine lv_iload_n hx hb d_M_big_11 rfl (lv_at hl 1 rfl) ?_
  refine lv_iconst (v := 1) hx hb d_M_big_12 (by decide) ?_
  refine lv_iadd hx hb d_M_big_13 ?_
  refine lv_topi (fun v4 ev => ?_)
  have hf := bn ev hf
  clear ev
  obtain ⟨hg, hf⟩ := gdp hf
  refine va_bald hx hb hK hP 0 0 rfl rfl (inb_in hg) d_M_big_14 ?_
  refine lv_topi (fun v5 ev => ?_)
  have hf := bn ev hf
  clear ev
  refine lv_sipush (v := 255) hx hb d_M_big_15 (by decide) ?_
  refine lv_iand hx hb d_M_big_18 ?_
  refine lv_topi (fun v6 ev => ?_)
  have hf := bn ev hf
  clear ev
  refine lv_bipush (v := 16) hx hb d_M_big_19 (by decide) ?_
  refine lv_ishl hx hb d_M_big_21 ?_
  refine lv_ior hx hb d_M_big_22 ?_
  refine lv_topi (fun v7 ev => ?_)
  have hf := bn ev hf
  clear ev
  refine lv_aload_n hx hb d_M_big_23 rfl (lv_at hl 0 rfl) ?_
  refine lv_iload_n hx hb d_M_big_24 rfl (lv_at hl 1 rfl) ?_
  refine lv_iconst (v := 2) hx hb d_M_big_25 (by decide) ?_
  refine lv_iadd hx hb d_M_big_26 ?_
  refine lv_topi (fun v8 ev => ?_)
  have hf := bn ev hf
  clear ev
  obtain ⟨hg, hf⟩ := gdp hf
  refine va_bald hx hb hK hP 0 0 rfl rfl (inb_in hg) d_M_big_27 ?_
  refine lv_topi (fun v9 ev => ?_)
  have hf := bn ev hf
  clear ev
  refine lv_sipush (v := 255) hx hb d_M_big_28 (by decide) ?_
  refine lv_iand hx hb d_M_big_31 ?_
  refine lv_topi (fun v10 ev => ?_)
  have hf := bn ev hf
  clear ev
  refine lv_bipush (v := 8) hx hb d_M_big_32 (by decide) ?_
  refine lv_ishl hx hb d_M_big_34 ?_
  refine lv_ior hx hb d_M_big_35 ?_
  refine lv_topi (fun v11 ev => ?_)
  have hf := bn ev hf
  clear ev
  refine lv_aload_n hx hb d_M_big_36 rfl (lv_at hl 0 rfl) ?_
  refine lv_iload_n hx hb d_M_big_37 rfl (lv_at hl 1 rfl) ?_
  refine lv_iconst (v := 3) hx hb d_M_big_38 (by decide) ?_
  refine lv_iadd hx hb d_M_big_39 ?_
  refine lv_topi (fun v12 ev => ?_)
  have hf := bn ev hf
  clear ev
  obtain ⟨hg, hf⟩ := gdp hf
  refine va_bald hx hb hK hP 0 0 rfl rfl (inb_in hg) d_M_big_40 ?_
  refine lv_topi (fun v13 ev => ?_)
  have hf := bn ev hf
  clear ev
  refine lv_sipush (v := 255) hx hb d_M_big_41 (by decide) ?_
  refine lv_iand hx hb d_M_big_44 ?_
  refine lv_ior hx hb d_M_big_45 ?_
  refine lv_topi (fun v14 ev => ?_)
  have hf := bn ev hf
  clear ev
  obtain rfl := Option.some.inj hf
  exact q_ri hx hb hr hlocks hK hP hD hS d_M_big_46
theorem c_M_big (l : Launch) (D : va_G) (cy : Nat → ClassId) (ad : Nat → Nat) (fu : Nat) (b0 : Nat) (n0 : Nat) (h0 : Nat → Int32) (a1 : Int32) (res : Int32) (hf : x_M_big fu n0 h0 a1 = some res) (sz : Nat) : Met l ({ cls := "CoinKeeperModel", name := "big", desc := "([BI)I" } : Jvm.MethodName) (.code ({ cls := "CoinKeeperModel", name := "big", desc := "([BI)I" } : Jvm.MethodName) b_M_big 2 (some .int) :: gw) rm_M_big (va_Pc [.ref b0, .int a1] (Pr D cy ad [(b0, .inl (cy 0, n0, .inl h0))] sz)) (q_M_big D cy (va_A [(b0, .inl (cy 0, n0, .inl h0))] sz) b0 n0 h0 res) 0 0 (va_A [(b0, .inl (cy 0, n0, .inl h0))] sz) :=
  q_met (Qc := fun A => q_M_big D cy A b0 n0 h0 res) (by decide) rfl (Nat.le_of_ble_eq_true rfl) (fun p e s m below meth c ls F hP hD hS hl => we_M_big (fu := fu) F a1 res hf _ _ _ hP hD hS hl) sz
abbrev b_M_add : ByteArray := prog_14_method_12_code
theorem d_M_add_0 : decode b_M_add 0 = .ok (.lconst 0, 1) := by decide +kernel
theorem d_M_add_1 : decode b_M_add 1 = .ok (.lstore_n 3, 1) := by decide +kernel
theorem d_M_add_2 : decode b_M_add 2 = .ok (.iconst 0, 1) := by decide +kernel
theorem d_M_add_3 : decode b_M_add 3 = .ok (.istore 5, 2) := by decide +kernel
theorem d_M_add_5 : decode b_M_add 5 = .ok (.iload 5, 2) := by decide +kernel
theorem d_M_add_7 : decode b_M_add 7 = .ok (.bipush 8, 2) := by decide +kernel
theorem d_M_add_9 : decode b_M_add 9 = .ok (.if_icmp .ge 42, 3) := by decide +kernel
theorem d_M_add_12 : decode b_M_add 12 = .ok (.lload_n 3, 1) := by decide +kernel
theorem d_M_add_13 : decode b_M_add 13 = .ok (.aload_n 1, 1) := by decide +kernel
theorem d_M_add_14 : decode b_M_add 14 = .ok (.iload 5, 2) := by decide +kernel
theorem d_M_add_16 : decode b_M_add 16 = .ok (.iaload, 1) := by decide +kernel
theorem d_M_add_17 : decode b_M_add 17 = .ok (.i2l, 1) := by decide +kernel
theorem d_M_add_18 : decode b_M_add 18 = .ok (.ldc2_w 332, 3) := by decide +kernel
theorem d_M_add_21 : decode b_M_add 21 = .ok (.land, 1) := by decide +kernel
theorem d_M_add_22 : decode b_M_add 22 = .ok (.aload_n 2, 1) := by decide +kernel
theorem d_M_add_23 : decode b_M_add 23 = .ok (.iload 5, 2) := by decide +kernel
theorem d_M_add_25 : decode b_M_add 25 = .ok (.iaload, 1) := by decide +kernel
theorem d_M_add_26 : decode b_M_add 26 = .ok (.i2l, 1) := by decide +kernel
theorem d_M_add_27 : decode b_M_add 27 = .ok (.ldc2_w 332, 3) := by decide +kernel
theorem d_M_add_30 : decode b_M_add 30 = .ok (.land, 1) := by decide +kernel
theorem d_M_add_31 : decode b_M_add 31 = .ok (.ladd, 1) := by decide +kernel
theorem d_M_add_32 : decode b_M_add 32 = .ok (.ladd, 1) := by decide +kernel
theorem d_M_add_33 : decode b_M_add 33 = .ok (.lstore_n 3, 1) := by decide +kernel
theorem d_M_add_34 : decode b_M_add 34 = .ok (.aload_n 0, 1) := by decide +kernel
theorem d_M_add_35 : decode b_M_add 35 = .ok (.iload 5, 2) := by decide +kernel
theorem d_M_add_37 : decode b_M_add 37 = .ok (.lload_n 3, 1) := by decide +kernel
theorem d_M_add_38 : decode b_M_add 38 = .ok (.l2i, 1) := by decide +kernel
theorem d_M_add_39 : decode b_M_add 39 = .ok (.iastore, 1) := by decide +kernel
theorem d_M_add_40 : decode b_M_add 40 = .ok (.lload_n 3, 1) := by decide +kernel
theorem d_M_add_41 : decode b_M_add 41 = .ok (.bipush 32, 2) := by decide +kernel
theorem d_M_add_43 : decode b_M_add 43 = .ok (.lushr, 1) := by decide +kernel
theorem d_M_add_44 : decode b_M_add 44 = .ok (.lstore_n 3, 1) := by decide +kernel
theorem d_M_add_45 : decode b_M_add 45 = .ok (.iinc 5 1, 3) := by decide +kernel
theorem d_M_add_48 : decode b_M_add 48 = .ok (.goto (-43), 3) := by decide +kernel
theorem d_M_add_51 : decode b_M_add 51 = .ok (.lload_n 3, 1) := by decide +kernel
theorem d_M_add_52 : decode b_M_add 52 = .ok (.l2i, 1) := by decide +kernel
theorem d_M_add_53 : decode b_M_add 53 = .ok (.ireturn, 1) := by decide +kernel
abbrev rm_M_add : Room := { frames := 0, cells := 0, slots := 0, locals := 0 }
abbrev q_M_add (D : va_G) (cy : Nat → ClassId) (A : Nat → Prop) (b0 : Nat) (b1 : Nat) (b2 : Nat) (h1 : Nat → Int32) (h2 : Nat → Int32) (res : Int32 × (Nat → Int32)) : Array Value → State → Outcome → State → Prop := va_Qi (fun r' (_ : Unit) => r' = res.1) (fun _ t => Po D cy A [(b0, .inl (cy 1, 8, .inl res.2)), (b1, .inl (cy 1, 8, .inl h1)), (b2, .inl (cy 1, 8, .inl h2))] t) A
def xb_M_add_5 (fu : Nat) (h1 : Nat → Int32) (h2 : Nat → Int32) (k_5 : Int64 → Int32 → (Nat → Int32) → Option (Int32 × (Nat → Int32))) (x3 : Int64) (x5 : Int32) (u0 : Nat → Int32) : Option (Int32 × (Nat → Int32)) :=
  if (8 : Int32) ≤ x5 then (bnd (x3.toInt32) fun v1 => some (v1, u0)) else (gd (inb x5 8) <| bnd (h1 x5.toNatClampNeg) fun v2 => bnd (v2.toInt64) fun v3 => bnd (v3 &&& (4294967295 : Int64)) fun v4 => gd (inb x5 8) <| bnd (h2 x5.toNatClampNeg) fun v5 => bnd (v5.toInt64) fun v6 => bnd (x3 + (v4 + (v6 &&& (4294967295 : Int64)))) fun v7 => bnd (v7.toInt32) fun v8 => gd (inb x5 8) <| bnd (upd u0 x5.toNatClampNeg v8) fun f9 => bnd ((v7.toUInt64 >>> ((32 : Int32).toInt64.toUInt64 &&& Int64.toUInt64 63)).toInt64) fun v10 => bnd (x5 + (1 : Int32)) fun v11 => k_5 v10 v11 f9)
def I_M_add_5 (p : Program) (l : Launch) (e : Env) (s : State) (m : MethodId) (args : Array Value) (below : List Frame) (meth : Method) (c : Code) (D : va_G) (cy : Nat → ClassId) (A : Nat → Prop) (b0 : Nat) (b1 : Nat) (b2 : Nat) (h1 : Nat → Int32) (h2 : Nat → Int32) (k : Int64 → Int32 → (Nat → Int32) → Option (Int32 × (Nat → Int32))) : Prop :=
  ∀ (x3 : Int64) (x5 : Int32) (u0 : Nat → Int32) (res : Int32 × (Nat → Int32)), k x3 x5 u0 = some res → ∀ (H : Heap) (locs : List Loc) (ls : Array Slot), va_P D classes [(b0, .inl (cy 1, 8, .inl u0)), (b1, .inl (cy 1, 8, .inl h1)), (b2, .inl (cy 1, 8, .inl h2))] H → va_D A [(b0, .inl (cy 1, 8, .inl u0)), (b1, .inl (cy 1, 8, .inl h1)), (b2, .inl (cy 1, 8, .inl h2))] → va_S A s.heap H locs → lv_has ls 6 [(0, .ref b0), (1, .ref b1), (2, .ref b2), (3, .long x3), (5, .int x5)] → W p l e rm_M_add s m args below meth c H locs 0 0 (MQ below (q_M_add D cy A b0 b1 b2 h1 h2 res) args s 0 0 A) (F0 m 5 ls [])
set_option maxHeartbeats 8000000 in
set_option maxRecDepth 100000 in
theorem wb_M_add_5 {p : Program} {l : Launch} {e : Env} {s : State} {m : MethodId} {args : Array Value} {below : List Frame} {meth : Method} {c : Code} {D : va_G} {cy : Nat → ClassId} {A : Nat → Prop} {ad : Nat → Nat} {b0 : Nat} {b1 : Nat} {b2 : Nat} {h1 : Nat → Int32} {h2 : Nat → Int32} {fu : Nat} {k_5 : Int64 → Int32 → (Nat → Int32) → Option (Int32 × (Nat → Int32))} (F : Fx p s m args meth c b_M_add 6 "CoinKeeperModel" (some .int) D cy ad A) (hk_5 : I_M_add_5 p l e s m args below meth c D cy A b0 b1 b2 h1 h2 k_5) : I_M_add_5 p l e s m args below meth c D cy A b0 b1 b2 h1 h2 (xb_M_add_5 fu h1 h2 k_5) := by
  obtain ⟨hx, hb, hr, hml, hown, hts, hlocks, hK, hA, hSt⟩ := id F
  intro x3 x5 u0 res hf H locs ls hP hD hS hl
  unfold xb_M_add_5 at hf
  refine lv_iload hx hb d_M_add_5 (lv_at hl 4 rfl) ?_
  refine lv_bipush (v := 8) hx hb d_M_add_7 (by decide) ?_
  refine lv_icmp_ge (tgt := 51) hx hb d_M_add_9 (by decide) (fun cx => ?_) (fun cx => ?_)
  · have hf := ifp cx hf
    refine lv_lload_n hx hb d_M_add_51 rfl (lv_at hl 3 rfl) ?_
    refine lv_l2i hx hb d_M_add_52 rfl ?_
    refine lv_topi (fun v1 ev => ?_)
    have hf := bn ev hf
    clear ev
    obtain rfl := Option.some.inj hf
    exact q_ri hx hb hr hlocks hK hP hD hS d_M_add_53
  · have hf := ifn cx hf
    refine lv_lload_n hx hb d_M_add_12 rfl (lv_at hl 3 rfl) ?_
    refine lv_aload_n hx hb d_M_add_13 rfl (lv_at hl 1 rfl) ?_
    refine lv_iload hx hb d_M_add_14 (lv_at hl 4 rfl) ?_
    obtain ⟨hg, hf⟩ := gdp hf
    refine va_iald hx hb hK hP 1 1 rfl rfl (inb_in hg) d_M_add_16 ?_
    refine lv_topi (fun v2 ev => ?_)
    have hf := bn ev hf
    clear ev
    refine lv_i2l hx hb d_M_add_17 rfl ?_
    refine lv_topl (fun v3 ev => ?_)
    have hf := bn ev hf
    clear ev
    refine lv_ldc2 (v := 4294967295) hx hb hown (hts _ gw_1390) d_M_add_18 ?_
    refine lv_land hx hb d_M_add_21 ?_
    refine lv_topl (fun v4 ev => ?_)
    have hf := bn ev hf
    clear ev
    refine lv_aload_n hx hb d_M_add_22 rfl (lv_at hl 2 rfl) ?_
    refine lv_iload hx hb d_M_add_23 (lv_at hl 4 rfl) ?_
    obtain ⟨hg, hf⟩ := gdp hf
    refine va_iald hx hb hK hP 2 1 rfl rfl (inb_in hg) d_M_add_25 ?_
    refine lv_topi (fun v5 ev => ?_)
    have hf := bn ev hf
    clear ev
    refine lv_i2l hx hb d_M_add_26 rfl ?_
    refine lv_topl (fun v6 ev => ?_)
    have hf := bn ev hf
    clear ev
    refine lv_ldc2 (v := 4294967295) hx hb hown (hts _ gw_1390) d_M_add_27 ?_
    refine lv_land hx hb d_M_add_30 ?_
    refine lv_ladd hx hb d_M_add_31 ?_
    refine lv_ladd hx hb d_M_add_32 ?_
    refine lv_topl (fun v7 ev => ?_)
    have hf := bn ev hf
    clear ev
    refine lv_lstore_n (lv' := [(3, .long v7), (0, .ref b0), (1, .ref b1), (2, .ref b2), (5, .int x5)]) hx hb d_M_add_33 rfl hl (by decide) rfl (fun ls hl => ?_)
    refine lv_aload_n hx hb d_M_add_34 rfl (lv_at hl 1 rfl) ?_
    refine lv_iload hx hb d_M_add_35 (lv_at hl 4 rfl) ?_
    refine lv_lload_n hx hb d_M_add_37 rfl (lv_at hl 0 rfl) ?_
    refine lv_l2i hx hb d_M_add_38 rfl ?_
    refine lv_topi (fun v8 ev => ?_)
    have hf := bn ev hf
    clear ev
    obtain ⟨hg, hf⟩ := gdp hf
    refine va_iast hx hb hK hP hD hS 0 1 rfl rfl (inb_in hg) d_M_add_39 (fun H locs hP hD hS => ?_)
    obtain ⟨f9, ev, hf⟩ := bne hf
    have hP : va_P D classes [(b0, .inl (cy 1, 8, .inl f9)), (b1, .inl (cy 1, 8, .inl h1)), (b2, .inl (cy 1, 8, .inl h2))] H := by rw [ev]; exact hP
    have hD : va_D A [(b0, .inl (cy 1, 8, .inl f9)), (b1, .inl (cy 1, 8, .inl h1)), (b2, .inl (cy 1, 8, .inl h2))] := by rw [ev]; exact hD
    clear ev
    refine lv_lload_n hx hb d_M_add_40 rfl (lv_at hl 0 rfl) ?_
    refine lv_bipush (v := 32) hx hb d_M_add_41 (by decide) ?_
    refine lv_lushr hx hb d_M_add_43 rfl ?_
    refine lv_topl (fun v10 ev => ?_)
    have hf := bn ev hf
    clear ev
    refine lv_lstore_n (lv' := [(3, .long v10), (0, .ref b0), (1, .ref b1), (2, .ref b2), (5, .int x5)]) hx hb d_M_add_44 rfl hl (by decide) rfl (fun ls hl => ?_)
    obtain ⟨v11, ev, hf⟩ := bne hf
    refine lv_iinc (v := v11) (lv' := [(5, .int v11), (3, .long v10), (0, .ref b0), (1, .ref b1), (2, .ref b2)]) hx hb d_M_add_45 hl (k := 4) rfl (by rw [ev]; rfl) (by decide) rfl (fun ls hl => ?_)
    clear ev
    refine lv_goto (tgt := 5) hx hb d_M_add_48 (by decide) ?_
    exact hk_5 _ _ _ _ hf _ _ _ hP hD hS (lv_sub hl [2, 3, 4, 1, 0] rfl)
def x_M_add_5 (fu : Nat) (h1 : Nat → Int32) (h2 : Nat → Int32) : Nat → Int64 → Int32 → (Nat → Int32) → Option (Int32 × (Nat → Int32))
  | 0 => fun _ _ _ => none
  | n + 1 => xb_M_add_5 fu h1 h2 (x_M_add_5 fu h1 h2 n)
theorem w_M_add_5 {p : Program} {l : Launch} {e : Env} {s : State} {m : MethodId} {args : Array Value} {below : List Frame} {meth : Method} {c : Code} {D : va_G} {cy : Nat → ClassId} {A : Nat → Prop} {ad : Nat → Nat} {b0 : Nat} {b1 : Nat} {b2 : Nat} {h1 : Nat → Int32} {h2 : Nat → Int32} {fu : Nat} (F : Fx p s m args meth c b_M_add 6 "CoinKeeperModel" (some .int) D cy ad A) : ∀ n : Nat, I_M_add_5 p l e s m args below meth c D cy A b0 b1 b2 h1 h2 (x_M_add_5 fu h1 h2 n)
  | 0 => fun _ _ _ _ hf => nomatch (show (none : Option (Int32 × (Nat → Int32))) = some _ from hf)
  | n + 1 => wb_M_add_5 F (w_M_add_5 F n)
def x_M_add (fu : Nat) (h1 : Nat → Int32) (h2 : Nat → Int32) (u0 : Nat → Int32) : Option (Int32 × (Nat → Int32)) :=
  x_M_add_5 fu h1 h2 fu (0 : Int64) (0 : Int32) u0
def I_M_add_e (p : Program) (l : Launch) (e : Env) (s : State) (m : MethodId) (args : Array Value) (below : List Frame) (meth : Method) (c : Code) (D : va_G) (cy : Nat → ClassId) (A : Nat → Prop) (b0 : Nat) (b1 : Nat) (b2 : Nat) (h1 : Nat → Int32) (h2 : Nat → Int32) (k : (Nat → Int32) → Option (Int32 × (Nat → Int32))) : Prop :=
  ∀ (u0 : Nat → Int32) (res : Int32 × (Nat → Int32)), k u0 = some res → ∀ (H : Heap) (locs : List Loc) (ls : Array Slot), va_P D classes [(b0, .inl (cy 1, 8, .inl u0)), (b1, .inl (cy 1, 8, .inl h1)), (b2, .inl (cy 1, 8, .inl h2))] H → va_D A [(b0, .inl (cy 1, 8, .inl u0)), (b1, .inl (cy 1, 8, .inl h1)), (b2, .inl (cy 1, 8, .inl h2))] → va_S A s.heap H locs → lv_has ls 6 [(0, .ref b0), (1, .ref b1), (2, .ref b2)] → W p l e rm_M_add s m args below meth c H locs 0 0 (MQ below (q_M_add D cy A b0 b1 b2 h1 h2 res) args s 0 0 A) (F0 m 0 ls [])
set_option maxHeartbeats 8000000 in
set_option maxRecDepth 100000 in
theorem we_M_add {p : Program} {l : Launch} {e : Env} {s : State} {m : MethodId} {args : Array Value} {below : List Frame} {meth : Method} {c : Code} {D : va_G} {cy : Nat → ClassId} {A : Nat → Prop} {ad : Nat → Nat} {b0 : Nat} {b1 : Nat} {b2 : Nat} {h1 : Nat → Int32} {h2 : Nat → Int32} {fu : Nat} (F : Fx p s m args meth c b_M_add 6 "CoinKeeperModel" (some .int) D cy ad A) : I_M_add_e p l e s m args below meth c D cy A b0 b1 b2 h1 h2 (x_M_add fu h1 h2) := by
  obtain ⟨hx, hb, hr, hml, hown, hts, hlocks, hK, hA, hSt⟩ := id F
  intro u0 res hf H locs ls hP hD hS hl
  unfold x_M_add at hf
  refine lv_lconst (v := 0) hx hb d_M_add_0 (by decide) ?_
  refine lv_lstore_n (lv' := [(3, .long (0 : Int64)), (0, .ref b0), (1, .ref b1), (2, .ref b2)]) hx hb d_M_add_1 rfl hl (by decide) rfl (fun ls hl => ?_)
  refine lv_iconst (v := 0) hx hb d_M_add_2 (by decide) ?_
  refine lv_istore (lv' := [(5, .int (0 : Int32)), (3, .long (0 : Int64)), (0, .ref b0), (1, .ref b1), (2, .ref b2)]) hx hb d_M_add_3 hl (by decide) rfl (fun ls hl => ?_)
  exact w_M_add_5 F fu _ _ _ _ hf _ _ _ hP hD hS (lv_sub hl [2, 3, 4, 1, 0] rfl)
theorem c_M_add (l : Launch) (D : va_G) (cy : Nat → ClassId) (ad : Nat → Nat) (fu : Nat) (b0 : Nat) (b1 : Nat) (b2 : Nat) (h1 : Nat → Int32) (h2 : Nat → Int32) (u0 : Nat → Int32) (res : Int32 × (Nat → Int32)) (hf : x_M_add fu h1 h2 u0 = some res) (sz : Nat) : Met l ({ cls := "CoinKeeperModel", name := "add", desc := "([I[I[I)I" } : Jvm.MethodName) (.code ({ cls := "CoinKeeperModel", name := "add", desc := "([I[I[I)I" } : Jvm.MethodName) b_M_add 6 (some .int) :: gw) rm_M_add (va_Pc [.ref b0, .ref b1, .ref b2] (Pr D cy ad [(b0, .inl (cy 1, 8, .inl u0)), (b1, .inl (cy 1, 8, .inl h1)), (b2, .inl (cy 1, 8, .inl h2))] sz)) (q_M_add D cy (va_A [(b0, .inl (cy 1, 8, .inl u0)), (b1, .inl (cy 1, 8, .inl h1)), (b2, .inl (cy 1, 8, .inl h2))] sz) b0 b1 b2 h1 h2 res) 0 0 (va_A [(b0, .inl (cy 1, 8, .inl u0)), (b1, .inl (cy 1, 8, .inl h1)), (b2, .inl (cy 1, 8, .inl h2))] sz) :=
  q_met (Qc := fun A => q_M_add D cy A b0 b1 b2 h1 h2 res) (by decide) rfl (Nat.le_of_ble_eq_true rfl) (fun p e s m below meth c ls F hP hD hS hl => we_M_add (fu := fu) F u0 res hf _ _ _ hP hD hS hl) sz
abbrev b_M_isZero : ByteArray := prog_14_method_11_code
theorem d_M_isZero_0 : decode b_M_isZero 0 = .ok (.iconst 0, 1) := by decide +kernel
theorem d_M_isZero_1 : decode b_M_isZero 1 = .ok (.istore_n 1, 1) := by decide +kernel
theorem d_M_isZero_2 : decode b_M_isZero 2 = .ok (.iload_n 1, 1) := by decide +kernel
theorem d_M_isZero_3 : decode b_M_isZero 3 = .ok (.bipush 8, 2) := by decide +kernel
theorem d_M_isZero_5 : decode b_M_isZero 5 = .ok (.if_icmp .ge 17, 3) := by decide +kernel
theorem d_M_isZero_8 : decode b_M_isZero 8 = .ok (.aload_n 0, 1) := by decide +kernel
theorem d_M_isZero_9 : decode b_M_isZero 9 = .ok (.iload_n 1, 1) := by decide +kernel
theorem d_M_isZero_10 : decode b_M_isZero 10 = .ok (.iaload, 1) := by decide +kernel
theorem d_M_isZero_11 : decode b_M_isZero 11 = .ok (.ifCond .eq 5, 3) := by decide +kernel
theorem d_M_isZero_14 : decode b_M_isZero 14 = .ok (.iconst 0, 1) := by decide +kernel
theorem d_M_isZero_15 : decode b_M_isZero 15 = .ok (.ireturn, 1) := by decide +kernel
theorem d_M_isZero_16 : decode b_M_isZero 16 = .ok (.iinc 1 1, 3) := by decide +kernel
theorem d_M_isZero_19 : decode b_M_isZero 19 = .ok (.goto (-17), 3) := by decide +kernel
theorem d_M_isZero_22 : decode b_M_isZero 22 = .ok (.iconst 1, 1) := by decide +kernel
theorem d_M_isZero_23 : decode b_M_isZero 23 = .ok (.ireturn, 1) := by decide +kernel
abbrev rm_M_isZero : Room := { frames := 0, cells := 0, slots := 0, locals := 0 }
abbrev q_M_isZero (D : va_G) (cy : Nat → ClassId) (A : Nat → Prop) (b0 : Nat) (h0 : Nat → Int32) (res : Int32) : Array Value → State → Outcome → State → Prop := va_Qi (fun r' (_ : Unit) => r' = res) (fun _ t => Po D cy A [(b0, .inl (cy 1, 8, .inl h0))] t) A
def xb_M_isZero_2 (fu : Nat) (h0 : Nat → Int32) (k_2 : Int32 → Option (Int32)) (x1 : Int32) : Option (Int32) :=
  if (8 : Int32) ≤ x1 then (some ((1 : Int32))) else (gd (inb x1 8) <| bnd (h0 x1.toNatClampNeg) fun v1 => if v1 = 0 then (bnd (x1 + (1 : Int32)) fun v2 => k_2 v2) else (some ((0 : Int32))))
def I_M_isZero_2 (p : Program) (l : Launch) (e : Env) (s : State) (m : MethodId) (args : Array Value) (below : List Frame) (meth : Method) (c : Code) (D : va_G) (cy : Nat → ClassId) (A : Nat → Prop) (b0 : Nat) (h0 : Nat → Int32) (k : Int32 → Option (Int32)) : Prop :=
  ∀ (x1 : Int32) (res : Int32), k x1 = some res → ∀ (H : Heap) (locs : List Loc) (ls : Array Slot), va_P D classes [(b0, .inl (cy 1, 8, .inl h0))] H → va_D A [(b0, .inl (cy 1, 8, .inl h0))] → va_S A s.heap H locs → lv_has ls 2 [(0, .ref b0), (1, .int x1)] → W p l e rm_M_isZero s m args below meth c H locs 0 0 (MQ below (q_M_isZero D cy A b0 h0 res) args s 0 0 A) (F0 m 2 ls [])
set_option maxHeartbeats 8000000 in
set_option maxRecDepth 100000 in
theorem wb_M_isZero_2 {p : Program} {l : Launch} {e : Env} {s : State} {m : MethodId} {args : Array Value} {below : List Frame} {meth : Method} {c : Code} {D : va_G} {cy : Nat → ClassId} {A : Nat → Prop} {ad : Nat → Nat} {b0 : Nat} {h0 : Nat → Int32} {fu : Nat} {k_2 : Int32 → Option (Int32)} (F : Fx p s m args meth c b_M_isZero 2 "CoinKeeperModel" (some .boolean) D cy ad A) (hk_2 : I_M_isZero_2 p l e s m args below meth c D cy A b0 h0 k_2) : I_M_isZero_2 p l e s m args below meth c D cy A b0 h0 (xb_M_isZero_2 fu h0 k_2) := by
  obtain ⟨hx, hb, hr, hml, hown, hts, hlocks, hK, hA, hSt⟩ := id F
  intro x1 res hf H locs ls hP hD hS hl
  unfold xb_M_isZero_2 at hf
  refine lv_iload_n hx hb d_M_isZero_2 rfl (lv_at hl 1 rfl) ?_
  refine lv_bipush (v := 8) hx hb d_M_isZero_3 (by decide) ?_
  refine lv_icmp_ge (tgt := 22) hx hb d_M_isZero_5 (by decide) (fun cx => ?_) (fun cx => ?_)
  · have hf := ifp cx hf
    refine lv_iconst (v := 1) hx hb d_M_isZero_22 (by decide) ?_
    obtain rfl := Option.some.inj hf
    exact q_rz hx hb hr hlocks hK hP hD hS rfl d_M_isZero_23
  · have hf := ifn cx hf
    refine lv_aload_n hx hb d_M_isZero_8 rfl (lv_at hl 0 rfl) ?_
    refine lv_iload_n hx hb d_M_isZero_9 rfl (lv_at hl 1 rfl) ?_
    obtain ⟨hg, hf⟩ := gdp hf
    refine va_iald hx hb hK hP 0 1 rfl rfl (inb_in hg) d_M_isZero_10 ?_
    refine lv_topi (fun v1 ev => ?_)
    have hf := bn ev hf
    clear ev
    refine lv_if_eq (tgt := 16) hx hb d_M_isZero_11 (by decide) (fun cx => ?_) (fun cx => ?_)
    · have hf := ifp cx hf
      obtain ⟨v2, ev, hf⟩ := bne hf
      refine lv_iinc (v := v2) (lv' := [(1, .int v2), (0, .ref b0)]) hx hb d_M_isZero_16 hl (k := 1) rfl (by rw [ev]; rfl) (by decide) rfl (fun ls hl => ?_)
      clear ev
      refine lv_goto (tgt := 2) hx hb d_M_isZero_19 (by decide) ?_
      exact hk_2 _ _ hf _ _ _ hP hD hS (lv_sub hl [1, 0] rfl)
    · have hf := ifn cx hf
      refine lv_iconst (v := 0) hx hb d_M_isZero_14 (by decide) ?_
      obtain rfl := Option.some.inj hf
      exact q_rz hx hb hr hlocks hK hP hD hS rfl d_M_isZero_15
def x_M_isZero_2 (fu : Nat) (h0 : Nat → Int32) : Nat → Int32 → Option (Int32)
  | 0 => fun _ => none
  | n + 1 => xb_M_isZero_2 fu h0 (x_M_isZero_2 fu h0 n)
theorem w_M_isZero_2 {p : Program} {l : Launch} {e : Env} {s : State} {m : MethodId} {args : Array Value} {below : List Frame} {meth : Method} {c : Code} {D : va_G} {cy : Nat → ClassId} {A : Nat → Prop} {ad : Nat → Nat} {b0 : Nat} {h0 : Nat → Int32} {fu : Nat} (F : Fx p s m args meth c b_M_isZero 2 "CoinKeeperModel" (some .boolean) D cy ad A) : ∀ n : Nat, I_M_isZero_2 p l e s m args below meth c D cy A b0 h0 (x_M_isZero_2 fu h0 n)
  | 0 => fun _ _ hf => nomatch (show (none : Option (Int32)) = some _ from hf)
  | n + 1 => wb_M_isZero_2 F (w_M_isZero_2 F n)
def x_M_isZero (fu : Nat) (h0 : Nat → Int32) : Option (Int32) :=
  x_M_isZero_2 fu h0 fu (0 : Int32)
def I_M_isZero_e (p : Program) (l : Launch) (e : Env) (s : State) (m : MethodId) (args : Array Value) (below : List Frame) (meth : Method) (c : Code) (D : va_G) (cy : Nat → ClassId) (A : Nat → Prop) (b0 : Nat) (h0 : Nat → Int32) (k : Option (Int32)) : Prop :=
  ∀ (res : Int32), k  = some res → ∀ (H : Heap) (locs : List Loc) (ls : Array Slot), va_P D classes [(b0, .inl (cy 1, 8, .inl h0))] H → va_D A [(b0, .inl (cy 1, 8, .inl h0))] → va_S A s.heap H locs → lv_has ls 2 [(0, .ref b0)] → W p l e rm_M_isZero s m args below meth c H locs 0 0 (MQ below (q_M_isZero D cy A b0 h0 res) args s 0 0 A) (F0 m 0 ls [])
set_option maxHeartbeats 8000000 in
set_option maxRecDepth 100000 in
theorem we_M_isZero {p : Program} {l : Launch} {e : Env} {s : State} {m : MethodId} {args : Array Value} {below : List Frame} {meth : Method} {c : Code} {D : va_G} {cy : Nat → ClassId} {A : Nat → Prop} {ad : Nat → Nat} {b0 : Nat} {h0 : Nat → Int32} {fu : Nat} (F : Fx p s m args meth c b_M_isZero 2 "CoinKeeperModel" (some .boolean) D cy ad A) : I_M_isZero_e p l e s m args below meth c D cy A b0 h0 (x_M_isZero fu h0) := by
  obtain ⟨hx, hb, hr, hml, hown, hts, hlocks, hK, hA, hSt⟩ := id F
  intro  res hf H locs ls hP hD hS hl
  unfold x_M_isZero at hf
  refine lv_iconst (v := 0) hx hb d_M_isZero_0 (by decide) ?_
  refine lv_istore_n (lv' := [(1, .int (0 : Int32)), (0, .ref b0)]) hx hb d_M_isZero_1 rfl hl (by decide) rfl (fun ls hl => ?_)
  exact w_M_isZero_2 F fu _ _ hf _ _ _ hP hD hS (lv_sub hl [1, 0] rfl)
theorem c_M_isZero (l : Launch) (D : va_G) (cy : Nat → ClassId) (ad : Nat → Nat) (fu : Nat) (b0 : Nat) (h0 : Nat → Int32) (res : Int32) (hf : x_M_isZero fu h0 = some res) (sz : Nat) : Met l ({ cls := "CoinKeeperModel", name := "isZero", desc := "([I)Z" } : Jvm.MethodName) (.code ({ cls := "CoinKeeperModel", name := "isZero", desc := "([I)Z" } : Jvm.MethodName) b_M_isZero 2 (some .boolean) :: gw) rm_M_isZero (va_Pc [.ref b0] (Pr D cy ad [(b0, .inl (cy 1, 8, .inl h0))] sz)) (q_M_isZero D cy (va_A [(b0, .inl (cy 1, 8, .inl h0))] sz) b0 h0 res) 0 0 (va_A [(b0, .inl (cy 1, 8, .inl h0))] sz) :=
  q_met (Qc := fun A => q_M_isZero D cy A b0 h0 res) (by decide) rfl (Nat.le_of_ble_eq_true rfl) (fun p e s m below meth c ls F hP hD hS hl => we_M_isZero (fu := fu) F  res hf _ _ _ hP hD hS hl) sz
