abbrev b_M_bitsOf : ByteArray := prog_14_method_19_code
theorem d_M_bitsOf_0 : decode b_M_bitsOf 0 = .ok (.bipush 32, 2) := by decide +kernel
theorem d_M_bitsOf_2 : decode b_M_bitsOf 2 = .ok (.istore_n 1, 1) := by decide +kernel
theorem d_M_bitsOf_3 : decode b_M_bitsOf 3 = .ok (.iload_n 1, 1) := by decide +kernel
theorem d_M_bitsOf_4 : decode b_M_bitsOf 4 = .ok (.ifCond .le 19, 3) := by decide +kernel
theorem d_M_bitsOf_7 : decode b_M_bitsOf 7 = .ok (.aload_n 0, 1) := by decide +kernel
theorem d_M_bitsOf_8 : decode b_M_bitsOf 8 = .ok (.iload_n 1, 1) := by decide +kernel
theorem d_M_bitsOf_9 : decode b_M_bitsOf 9 = .ok (.iconst 1, 1) := by decide +kernel
theorem d_M_bitsOf_10 : decode b_M_bitsOf 10 = .ok (.isub, 1) := by decide +kernel
theorem d_M_bitsOf_11 : decode b_M_bitsOf 11 = .ok (.invokestatic 364, 3) := by decide +kernel
theorem d_M_bitsOf_14 : decode b_M_bitsOf 14 = .ok (.ifCond .ne 9, 3) := by decide +kernel
theorem d_M_bitsOf_17 : decode b_M_bitsOf 17 = .ok (.iinc 1 (-1), 3) := by decide +kernel
theorem d_M_bitsOf_20 : decode b_M_bitsOf 20 = .ok (.goto (-17), 3) := by decide +kernel
theorem d_M_bitsOf_23 : decode b_M_bitsOf 23 = .ok (.aload_n 0, 1) := by decide +kernel
theorem d_M_bitsOf_24 : decode b_M_bitsOf 24 = .ok (.iload_n 1, 1) := by decide +kernel
theorem d_M_bitsOf_25 : decode b_M_bitsOf 25 = .ok (.iconst 1, 1) := by decide +kernel
theorem d_M_bitsOf_26 : decode b_M_bitsOf 26 = .ok (.isub, 1) := by decide +kernel
theorem d_M_bitsOf_27 : decode b_M_bitsOf 27 = .ok (.invokestatic 364, 3) := by decide +kernel
theorem d_M_bitsOf_30 : decode b_M_bitsOf 30 = .ok (.bipush 16, 2) := by decide +kernel
theorem d_M_bitsOf_32 : decode b_M_bitsOf 32 = .ok (.ishl, 1) := by decide +kernel
theorem d_M_bitsOf_33 : decode b_M_bitsOf 33 = .ok (.aload_n 0, 1) := by decide +kernel
theorem d_M_bitsOf_34 : decode b_M_bitsOf 34 = .ok (.iload_n 1, 1) := by decide +kernel
theorem d_M_bitsOf_35 : decode b_M_bitsOf 35 = .ok (.iconst 2, 1) := by decide +kernel
theorem d_M_bitsOf_36 : decode b_M_bitsOf 36 = .ok (.isub, 1) := by decide +kernel
theorem d_M_bitsOf_37 : decode b_M_bitsOf 37 = .ok (.invokestatic 364, 3) := by decide +kernel
theorem d_M_bitsOf_40 : decode b_M_bitsOf 40 = .ok (.bipush 8, 2) := by decide +kernel
theorem d_M_bitsOf_42 : decode b_M_bitsOf 42 = .ok (.ishl, 1) := by decide +kernel
theorem d_M_bitsOf_43 : decode b_M_bitsOf 43 = .ok (.ior, 1) := by decide +kernel
theorem d_M_bitsOf_44 : decode b_M_bitsOf 44 = .ok (.aload_n 0, 1) := by decide +kernel
theorem d_M_bitsOf_45 : decode b_M_bitsOf 45 = .ok (.iload_n 1, 1) := by decide +kernel
theorem d_M_bitsOf_46 : decode b_M_bitsOf 46 = .ok (.iconst 3, 1) := by decide +kernel
theorem d_M_bitsOf_47 : decode b_M_bitsOf 47 = .ok (.isub, 1) := by decide +kernel
theorem d_M_bitsOf_48 : decode b_M_bitsOf 48 = .ok (.invokestatic 364, 3) := by decide +kernel
theorem d_M_bitsOf_51 : decode b_M_bitsOf 51 = .ok (.ior, 1) := by decide +kernel
theorem d_M_bitsOf_52 : decode b_M_bitsOf 52 = .ok (.istore_n 2, 1) := by decide +kernel
theorem d_M_bitsOf_53 : decode b_M_bitsOf 53 = .ok (.iload_n 2, 1) := by decide +kernel
theorem d_M_bitsOf_54 : decode b_M_bitsOf 54 = .ok (.ldc_w 354, 3) := by decide +kernel
theorem d_M_bitsOf_57 : decode b_M_bitsOf 57 = .ok (.iand, 1) := by decide +kernel
theorem d_M_bitsOf_58 : decode b_M_bitsOf 58 = .ok (.ifCond .eq 11, 3) := by decide +kernel
theorem d_M_bitsOf_61 : decode b_M_bitsOf 61 = .ok (.iload_n 2, 1) := by decide +kernel
theorem d_M_bitsOf_62 : decode b_M_bitsOf 62 = .ok (.bipush 8, 2) := by decide +kernel
theorem d_M_bitsOf_64 : decode b_M_bitsOf 64 = .ok (.ishr, 1) := by decide +kernel
theorem d_M_bitsOf_65 : decode b_M_bitsOf 65 = .ok (.istore_n 2, 1) := by decide +kernel
theorem d_M_bitsOf_66 : decode b_M_bitsOf 66 = .ok (.iinc 1 1, 3) := by decide +kernel
theorem d_M_bitsOf_69 : decode b_M_bitsOf 69 = .ok (.iload_n 1, 1) := by decide +kernel
theorem d_M_bitsOf_70 : decode b_M_bitsOf 70 = .ok (.bipush 24, 2) := by decide +kernel
theorem d_M_bitsOf_72 : decode b_M_bitsOf 72 = .ok (.ishl, 1) := by decide +kernel
theorem d_M_bitsOf_73 : decode b_M_bitsOf 73 = .ok (.iload_n 2, 1) := by decide +kernel
theorem d_M_bitsOf_74 : decode b_M_bitsOf 74 = .ok (.ior, 1) := by decide +kernel
theorem d_M_bitsOf_75 : decode b_M_bitsOf 75 = .ok (.ireturn, 1) := by decide +kernel
abbrev rm_M_bitsOf : Room := { frames := 1, cells := 0, slots := 0, locals := 21 }
abbrev q_M_bitsOf (D : va_G) (cy : Nat → ClassId) (A : Nat → Prop) (b0 : Nat) (h0 : Nat → Int32) (res : Int32) : Array Value → State → Outcome → State → Prop := va_Qi (fun r' (_ : Unit) => r' = res) (fun _ t => Po D cy A [(b0, .inl (cy 1, 8, .inl h0))] t) A
def I_M_bitsOf_23 (p : Program) (l : Launch) (e : Env) (s : State) (m : MethodId) (args : Array Value) (below : List Frame) (meth : Method) (c : Code) (D : va_G) (cy : Nat → ClassId) (A : Nat → Prop) (ad : Nat → Nat) (b0 : Nat) (h0 : Nat → Int32) (k : Int32 → Option (Int32)) : Prop :=
  ∀ (x1 : Int32) (res : Int32), k x1 = some res → ∀ (H : Heap) (locs : List Loc) (ls : Array Slot), va_P D classes [(b0, .inl (cy 1, 8, .inl h0))] H → va_D A [(b0, .inl (cy 1, 8, .inl h0))] → va_S A s.heap H locs → lv_has ls 3 [(0, .ref b0), (1, .int x1)] → W p l e rm_M_bitsOf s m args below meth c H locs 0 0 (MQ below (q_M_bitsOf D cy A b0 h0 res) args s 0 0 A) (F0 m 23 ls [])
def I_M_bitsOf_3 (p : Program) (l : Launch) (e : Env) (s : State) (m : MethodId) (args : Array Value) (below : List Frame) (meth : Method) (c : Code) (D : va_G) (cy : Nat → ClassId) (A : Nat → Prop) (ad : Nat → Nat) (b0 : Nat) (h0 : Nat → Int32) (k : Int32 → Option (Int32)) : Prop :=
  ∀ (x1 : Int32) (res : Int32), k x1 = some res → ∀ (H : Heap) (locs : List Loc) (ls : Array Slot), va_P D classes [(b0, .inl (cy 1, 8, .inl h0))] H → va_D A [(b0, .inl (cy 1, 8, .inl h0))] → va_S A s.heap H locs → lv_has ls 3 [(0, .ref b0), (1, .int x1)] → W p l e rm_M_bitsOf s m args below meth c H locs 0 0 (MQ below (q_M_bitsOf D cy A b0 h0 res) args s 0 0 A) (F0 m 3 ls [])
def I_M_bitsOf_e (p : Program) (l : Launch) (e : Env) (s : State) (m : MethodId) (args : Array Value) (below : List Frame) (meth : Method) (c : Code) (D : va_G) (cy : Nat → ClassId) (A : Nat → Prop) (ad : Nat → Nat) (b0 : Nat) (h0 : Nat → Int32) (k : Option (Int32)) : Prop :=
  ∀ (res : Int32), k  = some res → ∀ (H : Heap) (locs : List Loc) (ls : Array Slot), va_P D classes [(b0, .inl (cy 1, 8, .inl h0))] H → va_D A [(b0, .inl (cy 1, 8, .inl h0))] → va_S A s.heap H locs → lv_has ls 3 [(0, .ref b0)] → W p l e rm_M_bitsOf s m args below meth c H locs 0 0 (MQ below (q_M_bitsOf D cy A b0 h0 res) args s 0 0 A) (F0 m 0 ls [])
theorem hdm_8 : ({ cls := "CoinKeeperModel", name := "byteOf", desc := "([II)I" } : Jvm.MethodName).cls ≠ "java/lang/invoke/MethodHandle" ∧ ({ cls := "CoinKeeperModel", name := "byteOf", desc := "([II)I" } : Jvm.MethodName).cls ≠ "java/lang/invoke/VarHandle" ∧ (parseMethodDescriptor ({ cls := "CoinKeeperModel", name := "byteOf", desc := "([II)I" } : Jvm.MethodName).desc).map (fun d => d.parameters.length) = some 2 := by decide +kernel
set_option maxHeartbeats 8000000 in
set_option maxRecDepth 100000 in
theorem wb_M_bitsOf_23 {p : Program} {l : Launch} {e : Env} {s : State} {m : MethodId} {args : Array Value} {below : List Frame} {meth : Method} {c : Code} {D : va_G} {cy : Nat → ClassId} {A : Nat → Prop} {ad : Nat → Nat} {b0 : Nat} {h0 : Nat → Int32} {fu : Nat} (F : Fx p s m args meth c b_M_bitsOf 3 "CoinKeeperModel" "bitsOf" (some .int) D cy ad A) : I_M_bitsOf_23 p l e s m args below meth c D cy A ad b0 h0 (xb_M_bitsOf_23 fu h0) := by
  obtain ⟨hx, hb, hr, hml, hown, hts, hlocks, hK, hA, hSt, hnm, hex⟩ := id F
  intro x1 res hf H locs ls hP hD hS hl
  unfold xb_M_bitsOf_23 at hf
  refine lv_aload_n hx hb d_M_bitsOf_23 rfl (lv_at hl 0 rfl) ?_
  refine lv_iload_n hx hb d_M_bitsOf_24 rfl (lv_at hl 1 rfl) ?_
  refine lv_iconst (v := 1) hx hb d_M_bitsOf_25 (by decide) ?_
  refine lv_isub hx hb d_M_bitsOf_26 ?_
  refine lv_topi (fun v1 ev => ?_)
  have hf := bn ev hf
  clear ev
  obtain ⟨v2, hc, hf⟩ := bdp1 hf
  refine q_ai (wr := []) (va_runS (As := [.ref b0, .int v1]) (rest := []) ⟨hx, hb, hml, hown, hts⟩ (c_M_byteOf l D cy ad fu b0 h0 v1 _ hc H.size) ⟨q_cB hts gw_1798 gw_18 gw_1796 hdm_8 ⟨by decide, by decide⟩, hts _ gw_1797⟩ (q_pre (hP.sub [0] rfl) (hD.sub [0] (by decide) rfl) hK hSt hS (va_free hD hS hA [0] rfl) _) rfl rfl hl.1 rfl (lv_room (Nat.le_of_ble_eq_true rfl)) d_M_bitsOf_27 ⟨Nat.le_of_ble_eq_true rfl, Nat.le_of_ble_eq_true rfl⟩) hP hD hS hA [0] [] rfl rfl (by decide) (by decide) (fun H locs hP hD hS => ?_)
  clear hc
  have hP : va_P D classes [(b0, .inl (cy 1, 8, .inl h0))] H := hP
  have hD : va_D A [(b0, .inl (cy 1, 8, .inl h0))] := hD
  refine lv_bipush (v := 16) hx hb d_M_bitsOf_30 (by decide) ?_
  refine lv_ishl hx hb d_M_bitsOf_32 ?_
  refine lv_topi (fun v3 ev => ?_)
  have hf := bn ev hf
  clear ev
  refine lv_aload_n hx hb d_M_bitsOf_33 rfl (lv_at hl 0 rfl) ?_
  refine lv_iload_n hx hb d_M_bitsOf_34 rfl (lv_at hl 1 rfl) ?_
  refine lv_iconst (v := 2) hx hb d_M_bitsOf_35 (by decide) ?_
  refine lv_isub hx hb d_M_bitsOf_36 ?_
  refine lv_topi (fun v4 ev => ?_)
  have hf := bn ev hf
  clear ev
  obtain ⟨v5, hc, hf⟩ := bdp1 hf
  refine q_ai (wr := []) (va_runS (As := [.ref b0, .int v4]) (rest := [.int v3]) ⟨hx, hb, hml, hown, hts⟩ (c_M_byteOf l D cy ad fu b0 h0 v4 _ hc H.size) ⟨q_cB hts gw_1798 gw_18 gw_1796 hdm_8 ⟨by decide, by decide⟩, hts _ gw_1797⟩ (q_pre (hP.sub [0] rfl) (hD.sub [0] (by decide) rfl) hK hSt hS (va_free hD hS hA [0] rfl) _) rfl rfl hl.1 rfl (lv_room (Nat.le_of_ble_eq_true rfl)) d_M_bitsOf_37 ⟨Nat.le_of_ble_eq_true rfl, Nat.le_of_ble_eq_true rfl⟩) hP hD hS hA [0] [] rfl rfl (by decide) (by decide) (fun H locs hP hD hS => ?_)
  clear hc
  have hP : va_P D classes [(b0, .inl (cy 1, 8, .inl h0))] H := hP
  have hD : va_D A [(b0, .inl (cy 1, 8, .inl h0))] := hD
  refine lv_bipush (v := 8) hx hb d_M_bitsOf_40 (by decide) ?_
  refine lv_ishl hx hb d_M_bitsOf_42 ?_
  refine lv_ior hx hb d_M_bitsOf_43 ?_
  refine lv_topi (fun v6 ev => ?_)
  have hf := bn ev hf
  clear ev
  refine lv_aload_n hx hb d_M_bitsOf_44 rfl (lv_at hl 0 rfl) ?_
  refine lv_iload_n hx hb d_M_bitsOf_45 rfl (lv_at hl 1 rfl) ?_
  refine lv_iconst (v := 3) hx hb d_M_bitsOf_46 (by decide) ?_
  refine lv_isub hx hb d_M_bitsOf_47 ?_
  refine lv_topi (fun v7 ev => ?_)
  have hf := bn ev hf
  clear ev
  obtain ⟨v8, hc, hf⟩ := bdp1 hf
  refine q_ai (wr := []) (va_runS (As := [.ref b0, .int v7]) (rest := [.int v6]) ⟨hx, hb, hml, hown, hts⟩ (c_M_byteOf l D cy ad fu b0 h0 v7 _ hc H.size) ⟨q_cB hts gw_1798 gw_18 gw_1796 hdm_8 ⟨by decide, by decide⟩, hts _ gw_1797⟩ (q_pre (hP.sub [0] rfl) (hD.sub [0] (by decide) rfl) hK hSt hS (va_free hD hS hA [0] rfl) _) rfl rfl hl.1 rfl (lv_room (Nat.le_of_ble_eq_true rfl)) d_M_bitsOf_48 ⟨Nat.le_of_ble_eq_true rfl, Nat.le_of_ble_eq_true rfl⟩) hP hD hS hA [0] [] rfl rfl (by decide) (by decide) (fun H locs hP hD hS => ?_)
  clear hc
  have hP : va_P D classes [(b0, .inl (cy 1, 8, .inl h0))] H := hP
  have hD : va_D A [(b0, .inl (cy 1, 8, .inl h0))] := hD
  refine lv_ior hx hb d_M_bitsOf_51 ?_
  refine lv_topi (fun v9 ev => ?_)
  have hf := bn ev hf
  clear ev
  refine lv_istore_n (lv' := [(2, .int v9), (0, .ref b0), (1, .int x1)]) hx hb d_M_bitsOf_52 rfl hl (by decide) rfl (fun ls hl => ?_)
  refine lv_iload_n hx hb d_M_bitsOf_53 rfl (lv_at hl 0 rfl) ?_
  refine lv_ldcw (v := 8388608) hx hb hown (hts _ gw_1374) d_M_bitsOf_54 ?_
  refine lv_iand hx hb d_M_bitsOf_57 ?_
  refine lv_if_eq (tgt := 69) hx hb d_M_bitsOf_58 (by decide) (fun cx => ?_) (fun cx => ?_)
  · have hf := ifp cx hf
    refine lv_iload_n hx hb d_M_bitsOf_69 rfl (lv_at hl 2 rfl) ?_
    refine lv_bipush (v := 24) hx hb d_M_bitsOf_70 (by decide) ?_
    refine lv_ishl hx hb d_M_bitsOf_72 ?_
    refine lv_topi (fun v10 ev => ?_)
    have hf := bn ev hf
    clear ev
    refine lv_iload_n hx hb d_M_bitsOf_73 rfl (lv_at hl 0 rfl) ?_
    refine lv_ior hx hb d_M_bitsOf_74 ?_
    refine lv_topi (fun v11 ev => ?_)
    have hf := bn ev hf
    clear ev
    obtain rfl := Option.some.inj hf
    exact q_ri hx hb hr hlocks hK hP hD hS d_M_bitsOf_75
  · have hf := ifn cx hf
    refine lv_iload_n hx hb d_M_bitsOf_61 rfl (lv_at hl 0 rfl) ?_
    refine lv_bipush (v := 8) hx hb d_M_bitsOf_62 (by decide) ?_
    refine lv_ishr hx hb d_M_bitsOf_64 ?_
    refine lv_topi (fun v12 ev => ?_)
    have hf := bn ev hf
    clear ev
    refine lv_istore_n (lv' := [(2, .int v12), (0, .ref b0), (1, .int x1)]) hx hb d_M_bitsOf_65 rfl hl (by decide) rfl (fun ls hl => ?_)
    obtain ⟨v13, ev, hf⟩ := bne hf
    refine lv_iinc (v := v13) (lv' := [(1, .int v13), (2, .int v12), (0, .ref b0)]) hx hb d_M_bitsOf_66 hl (k := 2) rfl (by rw [ev]; rfl) (by decide) rfl (fun ls hl => ?_)
    clear ev
    refine lv_iload_n hx hb d_M_bitsOf_69 rfl (lv_at hl 0 rfl) ?_
    refine lv_bipush (v := 24) hx hb d_M_bitsOf_70 (by decide) ?_
    refine lv_ishl hx hb d_M_bitsOf_72 ?_
    refine lv_topi (fun v14 ev => ?_)
    have hf := bn ev hf
    clear ev
    refine lv_iload_n hx hb d_M_bitsOf_73 rfl (lv_at hl 1 rfl) ?_
    refine lv_ior hx hb d_M_bitsOf_74 ?_
    refine lv_topi (fun v15 ev => ?_)
    have hf := bn ev hf
    clear ev
    obtain rfl := Option.some.inj hf
    exact q_ri hx hb hr hlocks hK hP hD hS d_M_bitsOf_75
set_option maxHeartbeats 8000000 in
set_option maxRecDepth 100000 in
theorem wb_M_bitsOf_3 {p : Program} {l : Launch} {e : Env} {s : State} {m : MethodId} {args : Array Value} {below : List Frame} {meth : Method} {c : Code} {D : va_G} {cy : Nat → ClassId} {A : Nat → Prop} {ad : Nat → Nat} {b0 : Nat} {h0 : Nat → Int32} {fu : Nat} {k_3 : Int32 → Option (Int32)} (F : Fx p s m args meth c b_M_bitsOf 3 "CoinKeeperModel" "bitsOf" (some .int) D cy ad A) (hk_3 : I_M_bitsOf_3 p l e s m args below meth c D cy A ad b0 h0 k_3) : I_M_bitsOf_3 p l e s m args below meth c D cy A ad b0 h0 (xb_M_bitsOf_3 fu h0 k_3) := by
  obtain ⟨hx, hb, hr, hml, hown, hts, hlocks, hK, hA, hSt, hnm, hex⟩ := id F
  intro x1 res hf H locs ls hP hD hS hl
  unfold xb_M_bitsOf_3 at hf
  refine lv_iload_n hx hb d_M_bitsOf_3 rfl (lv_at hl 1 rfl) ?_
  refine lv_if_le (tgt := 23) hx hb d_M_bitsOf_4 (by decide) (fun cx => ?_) (fun cx => ?_)
  · have hf := ifp cx hf
    exact wb_M_bitsOf_23 (fu := fu) F _ _ hf _ _ _ hP hD hS (lv_sub hl [0, 1] rfl)
  · have hf := ifn cx hf
    refine lv_aload_n hx hb d_M_bitsOf_7 rfl (lv_at hl 0 rfl) ?_
    refine lv_iload_n hx hb d_M_bitsOf_8 rfl (lv_at hl 1 rfl) ?_
    refine lv_iconst (v := 1) hx hb d_M_bitsOf_9 (by decide) ?_
    refine lv_isub hx hb d_M_bitsOf_10 ?_
    refine lv_topi (fun v1 ev => ?_)
    have hf := bn ev hf
    clear ev
    obtain ⟨v2, hc, hf⟩ := bdp1 hf
    refine q_ai (wr := []) (va_runS (As := [.ref b0, .int v1]) (rest := []) ⟨hx, hb, hml, hown, hts⟩ (c_M_byteOf l D cy ad fu b0 h0 v1 _ hc H.size) ⟨q_cB hts gw_1798 gw_18 gw_1796 hdm_8 ⟨by decide, by decide⟩, hts _ gw_1797⟩ (q_pre (hP.sub [0] rfl) (hD.sub [0] (by decide) rfl) hK hSt hS (va_free hD hS hA [0] rfl) _) rfl rfl hl.1 rfl (lv_room (Nat.le_of_ble_eq_true rfl)) d_M_bitsOf_11 ⟨Nat.le_of_ble_eq_true rfl, Nat.le_of_ble_eq_true rfl⟩) hP hD hS hA [0] [] rfl rfl (by decide) (by decide) (fun H locs hP hD hS => ?_)
    clear hc
    have hP : va_P D classes [(b0, .inl (cy 1, 8, .inl h0))] H := hP
    have hD : va_D A [(b0, .inl (cy 1, 8, .inl h0))] := hD
    refine lv_if_ne (tgt := 23) hx hb d_M_bitsOf_14 (by decide) (fun cx => ?_) (fun cx => ?_)
    · have hf := ifn cx hf
      exact wb_M_bitsOf_23 (fu := fu) F _ _ hf _ _ _ hP hD hS (lv_sub hl [0, 1] rfl)
    · have hf := ifp cx hf
      obtain ⟨v3, ev, hf⟩ := bne hf
      refine lv_iinc (v := v3) (lv' := [(1, .int v3), (0, .ref b0)]) hx hb d_M_bitsOf_17 hl (k := 1) rfl (by rw [ev]; rfl) (by decide) rfl (fun ls hl => ?_)
      clear ev
      refine lv_goto (tgt := 3) hx hb d_M_bitsOf_20 (by decide) ?_
      exact hk_3 _ _ hf _ _ _ hP hD hS (lv_sub hl [1, 0] rfl)
theorem w_M_bitsOf_3 {p : Program} {l : Launch} {e : Env} {s : State} {m : MethodId} {args : Array Value} {below : List Frame} {meth : Method} {c : Code} {D : va_G} {cy : Nat → ClassId} {A : Nat → Prop} {ad : Nat → Nat} {b0 : Nat} {h0 : Nat → Int32} {fu : Nat} (F : Fx p s m args meth c b_M_bitsOf 3 "CoinKeeperModel" "bitsOf" (some .int) D cy ad A) : ∀ n : Nat, I_M_bitsOf_3 p l e s m args below meth c D cy A ad b0 h0 (x_M_bitsOf_3 fu h0 n)
  | 0 => fun _ _ hf => nomatch (show (none : Option (Int32)) = some _ from hf)
  | n + 1 => wb_M_bitsOf_3 F (w_M_bitsOf_3 F n)
set_option maxHeartbeats 8000000 in
set_option maxRecDepth 100000 in
theorem we_M_bitsOf {p : Program} {l : Launch} {e : Env} {s : State} {m : MethodId} {args : Array Value} {below : List Frame} {meth : Method} {c : Code} {D : va_G} {cy : Nat → ClassId} {A : Nat → Prop} {ad : Nat → Nat} {b0 : Nat} {h0 : Nat → Int32} {fu : Nat} (F : Fx p s m args meth c b_M_bitsOf 3 "CoinKeeperModel" "bitsOf" (some .int) D cy ad A) : I_M_bitsOf_e p l e s m args below meth c D cy A ad b0 h0 (x_M_bitsOf fu h0) := by
  obtain ⟨hx, hb, hr, hml, hown, hts, hlocks, hK, hA, hSt, hnm, hex⟩ := id F
  intro  res hf H locs ls hP hD hS hl
  unfold x_M_bitsOf at hf
  refine lv_bipush (v := 32) hx hb d_M_bitsOf_0 (by decide) ?_
  refine lv_istore_n (lv' := [(1, .int (32 : Int32)), (0, .ref b0)]) hx hb d_M_bitsOf_2 rfl hl (by decide) rfl (fun ls hl => ?_)
  exact w_M_bitsOf_3 F fu _ _ hf _ _ _ hP hD hS (lv_sub hl [1, 0] rfl)
theorem c_M_bitsOf (l : Launch) (D : va_G) (cy : Nat → ClassId) (ad : Nat → Nat) (fu : Nat) (b0 : Nat) (h0 : Nat → Int32) (res : Int32) (hf : x_M_bitsOf fu h0 = some res) (sz : Nat) : Met l ({ cls := "CoinKeeperModel", name := "bitsOf", desc := "([I)I" } : Jvm.MethodName) (.code ({ cls := "CoinKeeperModel", name := "bitsOf", desc := "([I)I" } : Jvm.MethodName) b_M_bitsOf 3 (some .int) :: gw) rm_M_bitsOf (va_Pc [.ref b0] (Pr D cy ad [(b0, .inl (cy 1, 8, .inl h0))] sz)) (q_M_bitsOf D cy (va_A [(b0, .inl (cy 1, 8, .inl h0))] sz) b0 h0 res) 0 0 (va_A [(b0, .inl (cy 1, 8, .inl h0))] sz) :=
  q_met (Qc := fun A => q_M_bitsOf D cy A b0 h0 res) (by decide) rfl rfl (Nat.le_of_ble_eq_true rfl) (fun p e s m below meth c ls F hP hD hS hl => we_M_bitsOf (fu := fu) F  res hf _ _ _ hP hD hS hl) sz
abbrev b_M_wanted : ByteArray := prog_14_method_64_code
theorem d_M_wanted_0 : decode b_M_wanted 0 = .ok (.aload_n 0, 1) := by decide +kernel
theorem d_M_wanted_1 : decode b_M_wanted 1 = .ok (.getfield 24, 3) := by decide +kernel
theorem d_M_wanted_4 : decode b_M_wanted 4 = .ok (.iload_n 1, 1) := by decide +kernel
theorem d_M_wanted_5 : decode b_M_wanted 5 = .ok (.iaload, 1) := by decide +kernel
theorem d_M_wanted_6 : decode b_M_wanted 6 = .ok (.iconst 1, 1) := by decide +kernel
theorem d_M_wanted_7 : decode b_M_wanted 7 = .ok (.iadd, 1) := by decide +kernel
theorem d_M_wanted_8 : decode b_M_wanted 8 = .ok (.istore_n 2, 1) := by decide +kernel
theorem d_M_wanted_9 : decode b_M_wanted 9 = .ok (.iload_n 2, 1) := by decide +kernel
theorem d_M_wanted_10 : decode b_M_wanted 10 = .ok (.bipush 8, 2) := by decide +kernel
theorem d_M_wanted_12 : decode b_M_wanted 12 = .ok (.irem, 1) := by decide +kernel
theorem d_M_wanted_13 : decode b_M_wanted 13 = .ok (.ifCond .eq 10, 3) := by decide +kernel
theorem d_M_wanted_16 : decode b_M_wanted 16 = .ok (.aload_n 0, 1) := by decide +kernel
theorem d_M_wanted_17 : decode b_M_wanted 17 = .ok (.getfield 30, 3) := by decide +kernel
theorem d_M_wanted_20 : decode b_M_wanted 20 = .ok (.iload_n 1, 1) := by decide +kernel
theorem d_M_wanted_21 : decode b_M_wanted 21 = .ok (.iaload, 1) := by decide +kernel
theorem d_M_wanted_22 : decode b_M_wanted 22 = .ok (.ireturn, 1) := by decide +kernel
theorem d_M_wanted_23 : decode b_M_wanted 23 = .ok (.iload_n 1, 1) := by decide +kernel
theorem d_M_wanted_24 : decode b_M_wanted 24 = .ok (.istore_n 3, 1) := by decide +kernel
theorem d_M_wanted_25 : decode b_M_wanted 25 = .ok (.aload_n 0, 1) := by decide +kernel
theorem d_M_wanted_26 : decode b_M_wanted 26 = .ok (.getfield 24, 3) := by decide +kernel
theorem d_M_wanted_29 : decode b_M_wanted 29 = .ok (.iload_n 3, 1) := by decide +kernel
theorem d_M_wanted_30 : decode b_M_wanted 30 = .ok (.iaload, 1) := by decide +kernel
theorem d_M_wanted_31 : decode b_M_wanted 31 = .ok (.iload_n 2, 1) := by decide +kernel
theorem d_M_wanted_32 : decode b_M_wanted 32 = .ok (.bipush 8, 2) := by decide +kernel
theorem d_M_wanted_34 : decode b_M_wanted 34 = .ok (.isub, 1) := by decide +kernel
theorem d_M_wanted_35 : decode b_M_wanted 35 = .ok (.if_icmp .le 13, 3) := by decide +kernel
theorem d_M_wanted_38 : decode b_M_wanted 38 = .ok (.aload_n 0, 1) := by decide +kernel
theorem d_M_wanted_39 : decode b_M_wanted 39 = .ok (.getfield 21, 3) := by decide +kernel
theorem d_M_wanted_42 : decode b_M_wanted 42 = .ok (.iload_n 3, 1) := by decide +kernel
theorem d_M_wanted_43 : decode b_M_wanted 43 = .ok (.iaload, 1) := by decide +kernel
theorem d_M_wanted_44 : decode b_M_wanted 44 = .ok (.istore_n 3, 1) := by decide +kernel
theorem d_M_wanted_45 : decode b_M_wanted 45 = .ok (.goto (-20), 3) := by decide +kernel
theorem d_M_wanted_48 : decode b_M_wanted 48 = .ok (.ldc2_w 570, 3) := by decide +kernel
theorem d_M_wanted_51 : decode b_M_wanted 51 = .ok (.ldc2_w 572, 3) := by decide +kernel
theorem d_M_wanted_54 : decode b_M_wanted 54 = .ok (.aload_n 0, 1) := by decide +kernel
theorem d_M_wanted_55 : decode b_M_wanted 55 = .ok (.getfield 27, 3) := by decide +kernel
theorem d_M_wanted_58 : decode b_M_wanted 58 = .ok (.iload_n 1, 1) := by decide +kernel
theorem d_M_wanted_59 : decode b_M_wanted 59 = .ok (.iaload, 1) := by decide +kernel
theorem d_M_wanted_60 : decode b_M_wanted 60 = .ok (.i2l, 1) := by decide +kernel
theorem d_M_wanted_61 : decode b_M_wanted 61 = .ok (.ldc2_w 332, 3) := by decide +kernel
theorem d_M_wanted_64 : decode b_M_wanted 64 = .ok (.land, 1) := by decide +kernel
theorem d_M_wanted_65 : decode b_M_wanted 65 = .ok (.aload_n 0, 1) := by decide +kernel
theorem d_M_wanted_66 : decode b_M_wanted 66 = .ok (.getfield 27, 3) := by decide +kernel
theorem d_M_wanted_69 : decode b_M_wanted 69 = .ok (.iload_n 3, 1) := by decide +kernel
theorem d_M_wanted_70 : decode b_M_wanted 70 = .ok (.iaload, 1) := by decide +kernel
theorem d_M_wanted_71 : decode b_M_wanted 71 = .ok (.i2l, 1) := by decide +kernel
theorem d_M_wanted_72 : decode b_M_wanted 72 = .ok (.ldc2_w 332, 3) := by decide +kernel
theorem d_M_wanted_75 : decode b_M_wanted 75 = .ok (.land, 1) := by decide +kernel
theorem d_M_wanted_76 : decode b_M_wanted 76 = .ok (.lsub, 1) := by decide +kernel
theorem d_M_wanted_77 : decode b_M_wanted 77 = .ok (.invokestatic 574, 3) := by decide +kernel
theorem d_M_wanted_80 : decode b_M_wanted 80 = .ok (.invokestatic 580, 3) := by decide +kernel
theorem d_M_wanted_83 : decode b_M_wanted 83 = .ok (.lstore 4, 2) := by decide +kernel
theorem d_M_wanted_85 : decode b_M_wanted 85 = .ok (.lconst 0, 1) := by decide +kernel
theorem d_M_wanted_86 : decode b_M_wanted 86 = .ok (.lstore 6, 2) := by decide +kernel
theorem d_M_wanted_88 : decode b_M_wanted 88 = .ok (.aload_n 0, 1) := by decide +kernel
theorem d_M_wanted_89 : decode b_M_wanted 89 = .ok (.aload_n 0, 1) := by decide +kernel
theorem d_M_wanted_90 : decode b_M_wanted 90 = .ok (.getfield 30, 3) := by decide +kernel
theorem d_M_wanted_93 : decode b_M_wanted 93 = .ok (.iload_n 1, 1) := by decide +kernel
theorem d_M_wanted_94 : decode b_M_wanted 94 = .ok (.iaload, 1) := by decide +kernel
theorem d_M_wanted_95 : decode b_M_wanted 95 = .ok (.invokevirtual 258, 3) := by decide +kernel
theorem d_M_wanted_98 : decode b_M_wanted 98 = .ok (.pop, 1) := by decide +kernel
theorem d_M_wanted_99 : decode b_M_wanted 99 = .ok (.iconst 0, 1) := by decide +kernel
theorem d_M_wanted_100 : decode b_M_wanted 100 = .ok (.istore 8, 2) := by decide +kernel
theorem d_M_wanted_102 : decode b_M_wanted 102 = .ok (.iload 8, 2) := by decide +kernel
theorem d_M_wanted_104 : decode b_M_wanted 104 = .ok (.bipush 8, 2) := by decide +kernel
theorem d_M_wanted_106 : decode b_M_wanted 106 = .ok (.if_icmp .ge 46, 3) := by decide +kernel
theorem d_M_wanted_109 : decode b_M_wanted 109 = .ok (.lload 6, 2) := by decide +kernel
theorem d_M_wanted_111 : decode b_M_wanted 111 = .ok (.aload_n 0, 1) := by decide +kernel
theorem d_M_wanted_112 : decode b_M_wanted 112 = .ok (.getfield 130, 3) := by decide +kernel
theorem d_M_wanted_115 : decode b_M_wanted 115 = .ok (.iload 8, 2) := by decide +kernel
theorem d_M_wanted_117 : decode b_M_wanted 117 = .ok (.iaload, 1) := by decide +kernel
theorem d_M_wanted_118 : decode b_M_wanted 118 = .ok (.i2l, 1) := by decide +kernel
theorem d_M_wanted_119 : decode b_M_wanted 119 = .ok (.ldc2_w 332, 3) := by decide +kernel
theorem d_M_wanted_122 : decode b_M_wanted 122 = .ok (.land, 1) := by decide +kernel
theorem d_M_wanted_123 : decode b_M_wanted 123 = .ok (.lload 4, 2) := by decide +kernel
theorem d_M_wanted_125 : decode b_M_wanted 125 = .ok (.lmul, 1) := by decide +kernel
theorem d_M_wanted_126 : decode b_M_wanted 126 = .ok (.ladd, 1) := by decide +kernel
theorem d_M_wanted_127 : decode b_M_wanted 127 = .ok (.lstore 6, 2) := by decide +kernel
theorem d_M_wanted_129 : decode b_M_wanted 129 = .ok (.aload_n 0, 1) := by decide +kernel
theorem d_M_wanted_130 : decode b_M_wanted 130 = .ok (.getfield 148, 3) := by decide +kernel
theorem d_M_wanted_133 : decode b_M_wanted 133 = .ok (.iload 8, 2) := by decide +kernel
theorem d_M_wanted_135 : decode b_M_wanted 135 = .ok (.lload 6, 2) := by decide +kernel
theorem d_M_wanted_137 : decode b_M_wanted 137 = .ok (.l2i, 1) := by decide +kernel
theorem d_M_wanted_138 : decode b_M_wanted 138 = .ok (.iastore, 1) := by decide +kernel
theorem d_M_wanted_139 : decode b_M_wanted 139 = .ok (.lload 6, 2) := by decide +kernel
theorem d_M_wanted_141 : decode b_M_wanted 141 = .ok (.bipush 32, 2) := by decide +kernel
theorem d_M_wanted_143 : decode b_M_wanted 143 = .ok (.lushr, 1) := by decide +kernel
theorem d_M_wanted_144 : decode b_M_wanted 144 = .ok (.lstore 6, 2) := by decide +kernel
theorem d_M_wanted_146 : decode b_M_wanted 146 = .ok (.iinc 8 1, 3) := by decide +kernel
theorem d_M_wanted_149 : decode b_M_wanted 149 = .ok (.goto (-47), 3) := by decide +kernel
theorem d_M_wanted_152 : decode b_M_wanted 152 = .ok (.lload 6, 2) := by decide +kernel
theorem d_M_wanted_154 : decode b_M_wanted 154 = .ok (.lstore 8, 2) := by decide +kernel
theorem d_M_wanted_156 : decode b_M_wanted 156 = .ok (.bipush 7, 2) := by decide +kernel
theorem d_M_wanted_158 : decode b_M_wanted 158 = .ok (.istore 10, 2) := by decide +kernel
theorem d_M_wanted_160 : decode b_M_wanted 160 = .ok (.iload 10, 2) := by decide +kernel
theorem d_M_wanted_162 : decode b_M_wanted 162 = .ok (.ifCond .lt 51, 3) := by decide +kernel
theorem d_M_wanted_165 : decode b_M_wanted 165 = .ok (.lload 8, 2) := by decide +kernel
theorem d_M_wanted_167 : decode b_M_wanted 167 = .ok (.bipush 32, 2) := by decide +kernel
theorem d_M_wanted_169 : decode b_M_wanted 169 = .ok (.lshl, 1) := by decide +kernel
theorem d_M_wanted_170 : decode b_M_wanted 170 = .ok (.aload_n 0, 1) := by decide +kernel
theorem d_M_wanted_171 : decode b_M_wanted 171 = .ok (.getfield 148, 3) := by decide +kernel
theorem d_M_wanted_174 : decode b_M_wanted 174 = .ok (.iload 10, 2) := by decide +kernel
theorem d_M_wanted_176 : decode b_M_wanted 176 = .ok (.iaload, 1) := by decide +kernel
theorem d_M_wanted_177 : decode b_M_wanted 177 = .ok (.i2l, 1) := by decide +kernel
theorem d_M_wanted_178 : decode b_M_wanted 178 = .ok (.ldc2_w 332, 3) := by decide +kernel
theorem d_M_wanted_181 : decode b_M_wanted 181 = .ok (.land, 1) := by decide +kernel
theorem d_M_wanted_182 : decode b_M_wanted 182 = .ok (.lor, 1) := by decide +kernel
theorem d_M_wanted_183 : decode b_M_wanted 183 = .ok (.lstore 8, 2) := by decide +kernel
theorem d_M_wanted_185 : decode b_M_wanted 185 = .ok (.aload_n 0, 1) := by decide +kernel
theorem d_M_wanted_186 : decode b_M_wanted 186 = .ok (.getfield 148, 3) := by decide +kernel
theorem d_M_wanted_189 : decode b_M_wanted 189 = .ok (.iload 10, 2) := by decide +kernel
theorem d_M_wanted_191 : decode b_M_wanted 191 = .ok (.lload 8, 2) := by decide +kernel
theorem d_M_wanted_193 : decode b_M_wanted 193 = .ok (.ldc2_w 583, 3) := by decide +kernel
theorem d_M_wanted_196 : decode b_M_wanted 196 = .ok (.ldiv, 1) := by decide +kernel
theorem d_M_wanted_197 : decode b_M_wanted 197 = .ok (.l2i, 1) := by decide +kernel
theorem d_M_wanted_198 : decode b_M_wanted 198 = .ok (.iastore, 1) := by decide +kernel
theorem d_M_wanted_199 : decode b_M_wanted 199 = .ok (.lload 8, 2) := by decide +kernel
theorem d_M_wanted_201 : decode b_M_wanted 201 = .ok (.ldc2_w 583, 3) := by decide +kernel
theorem d_M_wanted_204 : decode b_M_wanted 204 = .ok (.lrem, 1) := by decide +kernel
theorem d_M_wanted_205 : decode b_M_wanted 205 = .ok (.lstore 8, 2) := by decide +kernel
theorem d_M_wanted_207 : decode b_M_wanted 207 = .ok (.iinc 10 (-1), 3) := by decide +kernel
theorem d_M_wanted_210 : decode b_M_wanted 210 = .ok (.goto (-50), 3) := by decide +kernel
theorem d_M_wanted_213 : decode b_M_wanted 213 = .ok (.lload 6, 2) := by decide +kernel
theorem d_M_wanted_215 : decode b_M_wanted 215 = .ok (.ldc2_w 583, 3) := by decide +kernel
theorem d_M_wanted_218 : decode b_M_wanted 218 = .ok (.lcmp, 1) := by decide +kernel
theorem d_M_wanted_219 : decode b_M_wanted 219 = .ok (.ifCond .ge 26, 3) := by decide +kernel
theorem d_M_wanted_222 : decode b_M_wanted 222 = .ok (.aload_n 0, 1) := by decide +kernel
theorem d_M_wanted_223 : decode b_M_wanted 223 = .ok (.getfield 148, 3) := by decide +kernel
theorem d_M_wanted_226 : decode b_M_wanted 226 = .ok (.bipush 7, 2) := by decide +kernel
theorem d_M_wanted_228 : decode b_M_wanted 228 = .ok (.iaload, 1) := by decide +kernel
theorem d_M_wanted_229 : decode b_M_wanted 229 = .ok (.ifCond .lt 16, 3) := by decide +kernel
theorem d_M_wanted_232 : decode b_M_wanted 232 = .ok (.aload_n 0, 1) := by decide +kernel
theorem d_M_wanted_233 : decode b_M_wanted 233 = .ok (.getfield 148, 3) := by decide +kernel
theorem d_M_wanted_236 : decode b_M_wanted 236 = .ok (.bipush 7, 2) := by decide +kernel
theorem d_M_wanted_238 : decode b_M_wanted 238 = .ok (.iaload, 1) := by decide +kernel
theorem d_M_wanted_239 : decode b_M_wanted 239 = .ok (.ldc_w 359, 3) := by decide +kernel
theorem d_M_wanted_242 : decode b_M_wanted 242 = .ok (.if_icmp .le 7, 3) := by decide +kernel
theorem d_M_wanted_245 : decode b_M_wanted 245 = .ok (.iconst 1, 1) := by decide +kernel
theorem d_M_wanted_246 : decode b_M_wanted 246 = .ok (.goto 4, 3) := by decide +kernel
theorem d_M_wanted_249 : decode b_M_wanted 249 = .ok (.iconst 0, 1) := by decide +kernel
theorem d_M_wanted_250 : decode b_M_wanted 250 = .ok (.istore 10, 2) := by decide +kernel
theorem d_M_wanted_252 : decode b_M_wanted 252 = .ok (.iload 10, 2) := by decide +kernel
theorem d_M_wanted_254 : decode b_M_wanted 254 = .ok (.ifCond .ne 52, 3) := by decide +kernel
theorem d_M_wanted_257 : decode b_M_wanted 257 = .ok (.aload_n 0, 1) := by decide +kernel
theorem d_M_wanted_258 : decode b_M_wanted 258 = .ok (.getfield 148, 3) := by decide +kernel
theorem d_M_wanted_261 : decode b_M_wanted 261 = .ok (.bipush 7, 2) := by decide +kernel
theorem d_M_wanted_263 : decode b_M_wanted 263 = .ok (.iaload, 1) := by decide +kernel
theorem d_M_wanted_264 : decode b_M_wanted 264 = .ok (.ldc_w 359, 3) := by decide +kernel
theorem d_M_wanted_267 : decode b_M_wanted 267 = .ok (.if_icmp .ne 39, 3) := by decide +kernel
theorem d_M_wanted_270 : decode b_M_wanted 270 = .ok (.iconst 0, 1) := by decide +kernel
theorem d_M_wanted_271 : decode b_M_wanted 271 = .ok (.istore 11, 2) := by decide +kernel
theorem d_M_wanted_273 : decode b_M_wanted 273 = .ok (.iload 11, 2) := by decide +kernel
theorem d_M_wanted_275 : decode b_M_wanted 275 = .ok (.bipush 7, 2) := by decide +kernel
theorem d_M_wanted_277 : decode b_M_wanted 277 = .ok (.if_icmp .ge 29, 3) := by decide +kernel
theorem d_M_wanted_280 : decode b_M_wanted 280 = .ok (.iload 10, 2) := by decide +kernel
theorem d_M_wanted_282 : decode b_M_wanted 282 = .ok (.aload_n 0, 1) := by decide +kernel
theorem d_M_wanted_283 : decode b_M_wanted 283 = .ok (.getfield 148, 3) := by decide +kernel
theorem d_M_wanted_286 : decode b_M_wanted 286 = .ok (.iload 11, 2) := by decide +kernel
theorem d_M_wanted_288 : decode b_M_wanted 288 = .ok (.iaload, 1) := by decide +kernel
theorem d_M_wanted_289 : decode b_M_wanted 289 = .ok (.ifCond .eq 7, 3) := by decide +kernel
theorem d_M_wanted_292 : decode b_M_wanted 292 = .ok (.iconst 1, 1) := by decide +kernel
theorem d_M_wanted_293 : decode b_M_wanted 293 = .ok (.goto 4, 3) := by decide +kernel
theorem d_M_wanted_296 : decode b_M_wanted 296 = .ok (.iconst 0, 1) := by decide +kernel
theorem d_M_wanted_297 : decode b_M_wanted 297 = .ok (.ior, 1) := by decide +kernel
theorem d_M_wanted_298 : decode b_M_wanted 298 = .ok (.istore 10, 2) := by decide +kernel
theorem d_M_wanted_300 : decode b_M_wanted 300 = .ok (.iinc 11 1, 3) := by decide +kernel
theorem d_M_wanted_303 : decode b_M_wanted 303 = .ok (.goto (-30), 3) := by decide +kernel
theorem d_M_wanted_306 : decode b_M_wanted 306 = .ok (.iload 10, 2) := by decide +kernel
theorem d_M_wanted_308 : decode b_M_wanted 308 = .ok (.ifCond .eq 9, 3) := by decide +kernel
theorem d_M_wanted_311 : decode b_M_wanted 311 = .ok (.ldc_w 257, 3) := by decide +kernel
theorem d_M_wanted_314 : decode b_M_wanted 314 = .ok (.goto 10, 3) := by decide +kernel
theorem d_M_wanted_317 : decode b_M_wanted 317 = .ok (.aload_n 0, 1) := by decide +kernel
theorem d_M_wanted_318 : decode b_M_wanted 318 = .ok (.getfield 148, 3) := by decide +kernel
theorem d_M_wanted_321 : decode b_M_wanted 321 = .ok (.invokestatic 585, 3) := by decide +kernel
theorem d_M_wanted_324 : decode b_M_wanted 324 = .ok (.ireturn, 1) := by decide +kernel
abbrev rm_M_wanted : Room := { frames := 2, cells := 0, slots := 0, locals := 47 }
abbrev q_M_wanted (D : va_G) (cy : Nat → ClassId) (A : Nat → Prop) (o : Nat) (q : Nat → Nat) (z : Nat → Int32) (g_parent : Nat → Int32) (g_height : Nat → Int32) (g_time : Nat → Int32) (g_bits : Nat → Int32) (res : Int32 × (Nat → Int32) × (Nat → Int32)) : Array Value → State → Outcome → State → Prop := va_Qi (fun r' (_ : Unit) => r' = res.1) (fun _ t => Po D cy A [(o, .inr (12, mo q z)), ((q 3), .inl (cy 1, 202, .inl g_parent)), ((q 4), .inl (cy 1, 202, .inl g_height)), ((q 5), .inl (cy 1, 202, .inl g_time)), ((q 6), .inl (cy 1, 202, .inl g_bits)), ((q 38), .inl (cy 1, 8, .inl res.2.1)), ((q 44), .inl (cy 1, 8, .inl res.2.2))] t) A
def I_M_wanted_306 (p : Program) (l : Launch) (e : Env) (s : State) (m : MethodId) (args : Array Value) (below : List Frame) (meth : Method) (c : Code) (D : va_G) (cy : Nat → ClassId) (A : Nat → Prop) (ad : Nat → Nat) (o : Nat) (q : Nat → Nat) (z : Nat → Int32) (g_parent : Nat → Int32) (g_height : Nat → Int32) (g_time : Nat → Int32) (g_bits : Nat → Int32) (k : Int32 → (Nat → Int32) → (Nat → Int32) → Option (Int32 × (Nat → Int32) × (Nat → Int32))) : Prop :=
  ∀ (x10 : Int32) (u0 : Nat → Int32) (u1 : Nat → Int32) (res : Int32 × (Nat → Int32) × (Nat → Int32)), k x10 u0 u1 = some res → ∀ (H : Heap) (locs : List Loc) (ls : Array Slot), va_P D classes [(o, .inr (12, mo q z)), ((q 3), .inl (cy 1, 202, .inl g_parent)), ((q 4), .inl (cy 1, 202, .inl g_height)), ((q 5), .inl (cy 1, 202, .inl g_time)), ((q 6), .inl (cy 1, 202, .inl g_bits)), ((q 38), .inl (cy 1, 8, .inl u0)), ((q 44), .inl (cy 1, 8, .inl u1))] H → va_D A [(o, .inr (12, mo q z)), ((q 3), .inl (cy 1, 202, .inl g_parent)), ((q 4), .inl (cy 1, 202, .inl g_height)), ((q 5), .inl (cy 1, 202, .inl g_time)), ((q 6), .inl (cy 1, 202, .inl g_bits)), ((q 38), .inl (cy 1, 8, .inl u0)), ((q 44), .inl (cy 1, 8, .inl u1))] → va_S A s.heap H locs → lv_has ls 12 [(0, .ref o), (10, .int x10)] → W p l e rm_M_wanted s m args below meth c H locs 0 0 (MQ below (q_M_wanted D cy A o q z g_parent g_height g_time g_bits res) args s 0 0 A) (F0 m 306 ls [])
def I_M_wanted_297 (p : Program) (l : Launch) (e : Env) (s : State) (m : MethodId) (args : Array Value) (below : List Frame) (meth : Method) (c : Code) (D : va_G) (cy : Nat → ClassId) (A : Nat → Prop) (ad : Nat → Nat) (o : Nat) (q : Nat → Nat) (z : Nat → Int32) (g_parent : Nat → Int32) (g_height : Nat → Int32) (g_time : Nat → Int32) (g_bits : Nat → Int32) (k : Int32 → Int32 → Int32 → (Nat → Int32) → (Nat → Int32) → Option (Int32 × (Nat → Int32) × (Nat → Int32))) : Prop :=
  ∀ (x11 : Int32) (y0 : Int32) (y1 : Int32) (u0 : Nat → Int32) (u1 : Nat → Int32) (res : Int32 × (Nat → Int32) × (Nat → Int32)), k x11 y0 y1 u0 u1 = some res → ∀ (H : Heap) (locs : List Loc) (ls : Array Slot), va_P D classes [(o, .inr (12, mo q z)), ((q 3), .inl (cy 1, 202, .inl g_parent)), ((q 4), .inl (cy 1, 202, .inl g_height)), ((q 5), .inl (cy 1, 202, .inl g_time)), ((q 6), .inl (cy 1, 202, .inl g_bits)), ((q 38), .inl (cy 1, 8, .inl u0)), ((q 44), .inl (cy 1, 8, .inl u1))] H → va_D A [(o, .inr (12, mo q z)), ((q 3), .inl (cy 1, 202, .inl g_parent)), ((q 4), .inl (cy 1, 202, .inl g_height)), ((q 5), .inl (cy 1, 202, .inl g_time)), ((q 6), .inl (cy 1, 202, .inl g_bits)), ((q 38), .inl (cy 1, 8, .inl u0)), ((q 44), .inl (cy 1, 8, .inl u1))] → va_S A s.heap H locs → lv_has ls 12 [(0, .ref o), (11, .int x11)] → W p l e rm_M_wanted s m args below meth c H locs 0 0 (MQ below (q_M_wanted D cy A o q z g_parent g_height g_time g_bits res) args s 0 0 A) (F0 m 297 ls [.int y0, .int y1])
def I_M_wanted_273 (p : Program) (l : Launch) (e : Env) (s : State) (m : MethodId) (args : Array Value) (below : List Frame) (meth : Method) (c : Code) (D : va_G) (cy : Nat → ClassId) (A : Nat → Prop) (ad : Nat → Nat) (o : Nat) (q : Nat → Nat) (z : Nat → Int32) (g_parent : Nat → Int32) (g_height : Nat → Int32) (g_time : Nat → Int32) (g_bits : Nat → Int32) (k : Int32 → Int32 → (Nat → Int32) → (Nat → Int32) → Option (Int32 × (Nat → Int32) × (Nat → Int32))) : Prop :=
  ∀ (x10 : Int32) (x11 : Int32) (u0 : Nat → Int32) (u1 : Nat → Int32) (res : Int32 × (Nat → Int32) × (Nat → Int32)), k x10 x11 u0 u1 = some res → ∀ (H : Heap) (locs : List Loc) (ls : Array Slot), va_P D classes [(o, .inr (12, mo q z)), ((q 3), .inl (cy 1, 202, .inl g_parent)), ((q 4), .inl (cy 1, 202, .inl g_height)), ((q 5), .inl (cy 1, 202, .inl g_time)), ((q 6), .inl (cy 1, 202, .inl g_bits)), ((q 38), .inl (cy 1, 8, .inl u0)), ((q 44), .inl (cy 1, 8, .inl u1))] H → va_D A [(o, .inr (12, mo q z)), ((q 3), .inl (cy 1, 202, .inl g_parent)), ((q 4), .inl (cy 1, 202, .inl g_height)), ((q 5), .inl (cy 1, 202, .inl g_time)), ((q 6), .inl (cy 1, 202, .inl g_bits)), ((q 38), .inl (cy 1, 8, .inl u0)), ((q 44), .inl (cy 1, 8, .inl u1))] → va_S A s.heap H locs → lv_has ls 12 [(0, .ref o), (10, .int x10), (11, .int x11)] → W p l e rm_M_wanted s m args below meth c H locs 0 0 (MQ below (q_M_wanted D cy A o q z g_parent g_height g_time g_bits res) args s 0 0 A) (F0 m 273 ls [])
def I_M_wanted_250 (p : Program) (l : Launch) (e : Env) (s : State) (m : MethodId) (args : Array Value) (below : List Frame) (meth : Method) (c : Code) (D : va_G) (cy : Nat → ClassId) (A : Nat → Prop) (ad : Nat → Nat) (o : Nat) (q : Nat → Nat) (z : Nat → Int32) (g_parent : Nat → Int32) (g_height : Nat → Int32) (g_time : Nat → Int32) (g_bits : Nat → Int32) (k : Int32 → (Nat → Int32) → (Nat → Int32) → Option (Int32 × (Nat → Int32) × (Nat → Int32))) : Prop :=
  ∀ (y0 : Int32) (u0 : Nat → Int32) (u1 : Nat → Int32) (res : Int32 × (Nat → Int32) × (Nat → Int32)), k y0 u0 u1 = some res → ∀ (H : Heap) (locs : List Loc) (ls : Array Slot), va_P D classes [(o, .inr (12, mo q z)), ((q 3), .inl (cy 1, 202, .inl g_parent)), ((q 4), .inl (cy 1, 202, .inl g_height)), ((q 5), .inl (cy 1, 202, .inl g_time)), ((q 6), .inl (cy 1, 202, .inl g_bits)), ((q 38), .inl (cy 1, 8, .inl u0)), ((q 44), .inl (cy 1, 8, .inl u1))] H → va_D A [(o, .inr (12, mo q z)), ((q 3), .inl (cy 1, 202, .inl g_parent)), ((q 4), .inl (cy 1, 202, .inl g_height)), ((q 5), .inl (cy 1, 202, .inl g_time)), ((q 6), .inl (cy 1, 202, .inl g_bits)), ((q 38), .inl (cy 1, 8, .inl u0)), ((q 44), .inl (cy 1, 8, .inl u1))] → va_S A s.heap H locs → lv_has ls 12 [(0, .ref o)] → W p l e rm_M_wanted s m args below meth c H locs 0 0 (MQ below (q_M_wanted D cy A o q z g_parent g_height g_time g_bits res) args s 0 0 A) (F0 m 250 ls [.int y0])
def I_M_wanted_245 (p : Program) (l : Launch) (e : Env) (s : State) (m : MethodId) (args : Array Value) (below : List Frame) (meth : Method) (c : Code) (D : va_G) (cy : Nat → ClassId) (A : Nat → Prop) (ad : Nat → Nat) (o : Nat) (q : Nat → Nat) (z : Nat → Int32) (g_parent : Nat → Int32) (g_height : Nat → Int32) (g_time : Nat → Int32) (g_bits : Nat → Int32) (k : (Nat → Int32) → (Nat → Int32) → Option (Int32 × (Nat → Int32) × (Nat → Int32))) : Prop :=
  ∀ (u0 : Nat → Int32) (u1 : Nat → Int32) (res : Int32 × (Nat → Int32) × (Nat → Int32)), k u0 u1 = some res → ∀ (H : Heap) (locs : List Loc) (ls : Array Slot), va_P D classes [(o, .inr (12, mo q z)), ((q 3), .inl (cy 1, 202, .inl g_parent)), ((q 4), .inl (cy 1, 202, .inl g_height)), ((q 5), .inl (cy 1, 202, .inl g_time)), ((q 6), .inl (cy 1, 202, .inl g_bits)), ((q 38), .inl (cy 1, 8, .inl u0)), ((q 44), .inl (cy 1, 8, .inl u1))] H → va_D A [(o, .inr (12, mo q z)), ((q 3), .inl (cy 1, 202, .inl g_parent)), ((q 4), .inl (cy 1, 202, .inl g_height)), ((q 5), .inl (cy 1, 202, .inl g_time)), ((q 6), .inl (cy 1, 202, .inl g_bits)), ((q 38), .inl (cy 1, 8, .inl u0)), ((q 44), .inl (cy 1, 8, .inl u1))] → va_S A s.heap H locs → lv_has ls 12 [(0, .ref o)] → W p l e rm_M_wanted s m args below meth c H locs 0 0 (MQ below (q_M_wanted D cy A o q z g_parent g_height g_time g_bits res) args s 0 0 A) (F0 m 245 ls [])
def I_M_wanted_160 (p : Program) (l : Launch) (e : Env) (s : State) (m : MethodId) (args : Array Value) (below : List Frame) (meth : Method) (c : Code) (D : va_G) (cy : Nat → ClassId) (A : Nat → Prop) (ad : Nat → Nat) (o : Nat) (q : Nat → Nat) (z : Nat → Int32) (g_parent : Nat → Int32) (g_height : Nat → Int32) (g_time : Nat → Int32) (g_bits : Nat → Int32) (k : Int64 → Int64 → Int32 → (Nat → Int32) → (Nat → Int32) → Option (Int32 × (Nat → Int32) × (Nat → Int32))) : Prop :=
  ∀ (x6 : Int64) (x8 : Int64) (x10 : Int32) (u0 : Nat → Int32) (u1 : Nat → Int32) (res : Int32 × (Nat → Int32) × (Nat → Int32)), k x6 x8 x10 u0 u1 = some res → ∀ (H : Heap) (locs : List Loc) (ls : Array Slot), va_P D classes [(o, .inr (12, mo q z)), ((q 3), .inl (cy 1, 202, .inl g_parent)), ((q 4), .inl (cy 1, 202, .inl g_height)), ((q 5), .inl (cy 1, 202, .inl g_time)), ((q 6), .inl (cy 1, 202, .inl g_bits)), ((q 38), .inl (cy 1, 8, .inl u0)), ((q 44), .inl (cy 1, 8, .inl u1))] H → va_D A [(o, .inr (12, mo q z)), ((q 3), .inl (cy 1, 202, .inl g_parent)), ((q 4), .inl (cy 1, 202, .inl g_height)), ((q 5), .inl (cy 1, 202, .inl g_time)), ((q 6), .inl (cy 1, 202, .inl g_bits)), ((q 38), .inl (cy 1, 8, .inl u0)), ((q 44), .inl (cy 1, 8, .inl u1))] → va_S A s.heap H locs → lv_has ls 12 [(0, .ref o), (6, .long x6), (8, .long x8), (10, .int x10)] → W p l e rm_M_wanted s m args below meth c H locs 0 0 (MQ below (q_M_wanted D cy A o q z g_parent g_height g_time g_bits res) args s 0 0 A) (F0 m 160 ls [])
def I_M_wanted_102 (p : Program) (l : Launch) (e : Env) (s : State) (m : MethodId) (args : Array Value) (below : List Frame) (meth : Method) (c : Code) (D : va_G) (cy : Nat → ClassId) (A : Nat → Prop) (ad : Nat → Nat) (o : Nat) (q : Nat → Nat) (z : Nat → Int32) (g_parent : Nat → Int32) (g_height : Nat → Int32) (g_time : Nat → Int32) (g_bits : Nat → Int32) (k : Int64 → Int64 → Int32 → (Nat → Int32) → (Nat → Int32) → Option (Int32 × (Nat → Int32) × (Nat → Int32))) : Prop :=
  ∀ (x4 : Int64) (x6 : Int64) (x8 : Int32) (u0 : Nat → Int32) (u1 : Nat → Int32) (res : Int32 × (Nat → Int32) × (Nat → Int32)), k x4 x6 x8 u0 u1 = some res → ∀ (H : Heap) (locs : List Loc) (ls : Array Slot), va_P D classes [(o, .inr (12, mo q z)), ((q 3), .inl (cy 1, 202, .inl g_parent)), ((q 4), .inl (cy 1, 202, .inl g_height)), ((q 5), .inl (cy 1, 202, .inl g_time)), ((q 6), .inl (cy 1, 202, .inl g_bits)), ((q 38), .inl (cy 1, 8, .inl u0)), ((q 44), .inl (cy 1, 8, .inl u1))] H → va_D A [(o, .inr (12, mo q z)), ((q 3), .inl (cy 1, 202, .inl g_parent)), ((q 4), .inl (cy 1, 202, .inl g_height)), ((q 5), .inl (cy 1, 202, .inl g_time)), ((q 6), .inl (cy 1, 202, .inl g_bits)), ((q 38), .inl (cy 1, 8, .inl u0)), ((q 44), .inl (cy 1, 8, .inl u1))] → va_S A s.heap H locs → lv_has ls 12 [(0, .ref o), (4, .long x4), (6, .long x6), (8, .int x8)] → W p l e rm_M_wanted s m args below meth c H locs 0 0 (MQ below (q_M_wanted D cy A o q z g_parent g_height g_time g_bits res) args s 0 0 A) (F0 m 102 ls [])
def I_M_wanted_25 (p : Program) (l : Launch) (e : Env) (s : State) (m : MethodId) (args : Array Value) (below : List Frame) (meth : Method) (c : Code) (D : va_G) (cy : Nat → ClassId) (A : Nat → Prop) (ad : Nat → Nat) (o : Nat) (q : Nat → Nat) (z : Nat → Int32) (g_parent : Nat → Int32) (g_height : Nat → Int32) (g_time : Nat → Int32) (g_bits : Nat → Int32) (k : Int32 → Int32 → Int32 → (Nat → Int32) → (Nat → Int32) → Option (Int32 × (Nat → Int32) × (Nat → Int32))) : Prop :=
  ∀ (x1 : Int32) (x2 : Int32) (x3 : Int32) (u0 : Nat → Int32) (u1 : Nat → Int32) (res : Int32 × (Nat → Int32) × (Nat → Int32)), k x1 x2 x3 u0 u1 = some res → ∀ (H : Heap) (locs : List Loc) (ls : Array Slot), va_P D classes [(o, .inr (12, mo q z)), ((q 3), .inl (cy 1, 202, .inl g_parent)), ((q 4), .inl (cy 1, 202, .inl g_height)), ((q 5), .inl (cy 1, 202, .inl g_time)), ((q 6), .inl (cy 1, 202, .inl g_bits)), ((q 38), .inl (cy 1, 8, .inl u0)), ((q 44), .inl (cy 1, 8, .inl u1))] H → va_D A [(o, .inr (12, mo q z)), ((q 3), .inl (cy 1, 202, .inl g_parent)), ((q 4), .inl (cy 1, 202, .inl g_height)), ((q 5), .inl (cy 1, 202, .inl g_time)), ((q 6), .inl (cy 1, 202, .inl g_bits)), ((q 38), .inl (cy 1, 8, .inl u0)), ((q 44), .inl (cy 1, 8, .inl u1))] → va_S A s.heap H locs → lv_has ls 12 [(0, .ref o), (1, .int x1), (2, .int x2), (3, .int x3)] → W p l e rm_M_wanted s m args below meth c H locs 0 0 (MQ below (q_M_wanted D cy A o q z g_parent g_height g_time g_bits res) args s 0 0 A) (F0 m 25 ls [])
def I_M_wanted_e (p : Program) (l : Launch) (e : Env) (s : State) (m : MethodId) (args : Array Value) (below : List Frame) (meth : Method) (c : Code) (D : va_G) (cy : Nat → ClassId) (A : Nat → Prop) (ad : Nat → Nat) (o : Nat) (q : Nat → Nat) (z : Nat → Int32) (g_parent : Nat → Int32) (g_height : Nat → Int32) (g_time : Nat → Int32) (g_bits : Nat → Int32) (k : Int32 → (Nat → Int32) → (Nat → Int32) → Option (Int32 × (Nat → Int32) × (Nat → Int32))) : Prop :=
  ∀ (a1 : Int32) (u0 : Nat → Int32) (u1 : Nat → Int32) (res : Int32 × (Nat → Int32) × (Nat → Int32)), k a1 u0 u1 = some res → ∀ (H : Heap) (locs : List Loc) (ls : Array Slot), va_P D classes [(o, .inr (12, mo q z)), ((q 3), .inl (cy 1, 202, .inl g_parent)), ((q 4), .inl (cy 1, 202, .inl g_height)), ((q 5), .inl (cy 1, 202, .inl g_time)), ((q 6), .inl (cy 1, 202, .inl g_bits)), ((q 38), .inl (cy 1, 8, .inl u0)), ((q 44), .inl (cy 1, 8, .inl u1))] H → va_D A [(o, .inr (12, mo q z)), ((q 3), .inl (cy 1, 202, .inl g_parent)), ((q 4), .inl (cy 1, 202, .inl g_height)), ((q 5), .inl (cy 1, 202, .inl g_time)), ((q 6), .inl (cy 1, 202, .inl g_bits)), ((q 38), .inl (cy 1, 8, .inl u0)), ((q 44), .inl (cy 1, 8, .inl u1))] → va_S A s.heap H locs → lv_has ls 12 [(0, .ref o), (1, .int a1)] → W p l e rm_M_wanted s m args below meth c H locs 0 0 (MQ below (q_M_wanted D cy A o q z g_parent g_height g_time g_bits res) args s 0 0 A) (F0 m 0 ls [])
theorem hdm_9 : ({ cls := "CoinKeeperModel", name := "bitsOf", desc := "([I)I" } : Jvm.MethodName).cls ≠ "java/lang/invoke/MethodHandle" ∧ ({ cls := "CoinKeeperModel", name := "bitsOf", desc := "([I)I" } : Jvm.MethodName).cls ≠ "java/lang/invoke/VarHandle" ∧ (parseMethodDescriptor ({ cls := "CoinKeeperModel", name := "bitsOf", desc := "([I)I" } : Jvm.MethodName).desc).map (fun d => d.parameters.length) = some 1 := by decide +kernel
set_option maxHeartbeats 8000000 in
set_option maxRecDepth 100000 in
theorem wb_M_wanted_306 {p : Program} {l : Launch} {e : Env} {s : State} {m : MethodId} {args : Array Value} {below : List Frame} {meth : Method} {c : Code} {D : va_G} {cy : Nat → ClassId} {A : Nat → Prop} {ad : Nat → Nat} {o : Nat} {q : Nat → Nat} {z : Nat → Int32} {g_parent : Nat → Int32} {g_height : Nat → Int32} {g_time : Nat → Int32} {g_bits : Nat → Int32} {fu : Nat} (F : Fx p s m args meth c b_M_wanted 12 "CoinKeeperModel" "wanted" (some .int) D cy ad A) : I_M_wanted_306 p l e s m args below meth c D cy A ad o q z g_parent g_height g_time g_bits (xb_M_wanted_306 fu z g_parent g_height g_time g_bits) := by
  obtain ⟨hx, hb, hr, hml, hown, hts, hlocks, hK, hA, hSt, hnm, hex⟩ := id F
  intro x10 u0 u1 res hf H locs ls hP hD hS hl
  unfold xb_M_wanted_306 at hf
  refine lv_iload hx hb d_M_wanted_306 (lv_at hl 1 rfl) ?_
  refine lv_if_eq (tgt := 317) hx hb d_M_wanted_308 (by decide) (fun cx => ?_) (fun cx => ?_)
  · have hf := ifp cx hf
    refine lv_aload_n hx hb d_M_wanted_317 rfl (lv_at hl 0 rfl) ?_
    refine va_get (D := D) (ci := 12) (v := .ref (q 44)) (C := "CoinKeeperModel") (T := F_12) (N := 98) hx hb hts i_12 hown hK hP 0 rfl rfl 52 (by decide) (hts _ gw_1471) (fun _ h9 => h9) rfl d_M_wanted_318 ?_
    obtain ⟨v1, hc, hf⟩ := bdp1 hf
    refine q_ai (wr := [(o, .inr (12, mo q z)), ((q 3), .inl (cy 1, 202, .inl g_parent)), ((q 4), .inl (cy 1, 202, .inl g_height)), ((q 5), .inl (cy 1, 202, .inl g_time)), ((q 6), .inl (cy 1, 202, .inl g_bits)), ((q 38), .inl (cy 1, 8, .inl u0))]) (va_runS (As := [.ref (q 44)]) (rest := []) ⟨hx, hb, hml, hown, hts⟩ (c_M_bitsOf l D cy ad fu (q 44) u1 _ hc H.size) ⟨q_cB hts gw_1795 gw_18 gw_1793 hdm_9 ⟨by decide, by decide⟩, hts _ gw_1794⟩ (q_pre (hP.sub [6] rfl) (hD.sub [6] (by decide) rfl) hK hSt hS (va_free hD hS hA [6] rfl) _) rfl rfl hl.1 rfl (lv_room (Nat.le_of_ble_eq_true rfl)) d_M_wanted_321 ⟨Nat.le_of_ble_eq_true rfl, Nat.le_of_ble_eq_true rfl⟩) hP hD hS hA [6] [0, 1, 2, 3, 4, 5] rfl rfl (by decide) (by decide) (fun H locs hP hD hS => ?_)
    clear hc
    have hP : va_P D classes [(o, .inr (12, mo q z)), ((q 3), .inl (cy 1, 202, .inl g_parent)), ((q 4), .inl (cy 1, 202, .inl g_height)), ((q 5), .inl (cy 1, 202, .inl g_time)), ((q 6), .inl (cy 1, 202, .inl g_bits)), ((q 38), .inl (cy 1, 8, .inl u0)), ((q 44), .inl (cy 1, 8, .inl u1))] H := hP
    have hD : va_D A [(o, .inr (12, mo q z)), ((q 3), .inl (cy 1, 202, .inl g_parent)), ((q 4), .inl (cy 1, 202, .inl g_height)), ((q 5), .inl (cy 1, 202, .inl g_time)), ((q 6), .inl (cy 1, 202, .inl g_bits)), ((q 38), .inl (cy 1, 8, .inl u0)), ((q 44), .inl (cy 1, 8, .inl u1))] := hD
    obtain rfl := Option.some.inj hf
    exact q_ri hx hb hr hlocks hK hP hD hS d_M_wanted_324
  · have hf := ifn cx hf
    refine lv_ldcw (v := 545259519) hx hb hown (hts _ gw_1368) d_M_wanted_311 ?_
    refine lv_goto (tgt := 324) hx hb d_M_wanted_314 (by decide) ?_
    obtain rfl := Option.some.inj hf
    exact q_ri hx hb hr hlocks hK hP hD hS d_M_wanted_324
set_option maxHeartbeats 8000000 in
set_option maxRecDepth 100000 in
theorem wb_M_wanted_297 {p : Program} {l : Launch} {e : Env} {s : State} {m : MethodId} {args : Array Value} {below : List Frame} {meth : Method} {c : Code} {D : va_G} {cy : Nat → ClassId} {A : Nat → Prop} {ad : Nat → Nat} {o : Nat} {q : Nat → Nat} {z : Nat → Int32} {g_parent : Nat → Int32} {g_height : Nat → Int32} {g_time : Nat → Int32} {g_bits : Nat → Int32} {fu : Nat} {k_273 : Int32 → Int32 → (Nat → Int32) → (Nat → Int32) → Option (Int32 × (Nat → Int32) × (Nat → Int32))} (F : Fx p s m args meth c b_M_wanted 12 "CoinKeeperModel" "wanted" (some .int) D cy ad A) (hk_273 : I_M_wanted_273 p l e s m args below meth c D cy A ad o q z g_parent g_height g_time g_bits k_273) : I_M_wanted_297 p l e s m args below meth c D cy A ad o q z g_parent g_height g_time g_bits (xb_M_wanted_297 fu z g_parent g_height g_time g_bits k_273) := by
  obtain ⟨hx, hb, hr, hml, hown, hts, hlocks, hK, hA, hSt, hnm, hex⟩ := id F
  intro x11 y0 y1 u0 u1 res hf H locs ls hP hD hS hl
  unfold xb_M_wanted_297 at hf
  refine lv_ior hx hb d_M_wanted_297 ?_
  refine lv_topi (fun v1 ev => ?_)
  have hf := bn ev hf
  clear ev
  refine lv_istore (lv' := [(10, .int v1), (0, .ref o), (11, .int x11)]) hx hb d_M_wanted_298 hl (by decide) rfl (fun ls hl => ?_)
  obtain ⟨v2, ev, hf⟩ := bne hf
  refine lv_iinc (v := v2) (lv' := [(11, .int v2), (10, .int v1), (0, .ref o)]) hx hb d_M_wanted_300 hl (k := 2) rfl (by rw [ev]; rfl) (by decide) rfl (fun ls hl => ?_)
  clear ev
  refine lv_goto (tgt := 273) hx hb d_M_wanted_303 (by decide) ?_
  exact hk_273 _ _ _ _ _ hf _ _ _ hP hD hS (lv_sub hl [2, 1, 0] rfl)
set_option maxHeartbeats 8000000 in
set_option maxRecDepth 100000 in
theorem wb_M_wanted_273 {p : Program} {l : Launch} {e : Env} {s : State} {m : MethodId} {args : Array Value} {below : List Frame} {meth : Method} {c : Code} {D : va_G} {cy : Nat → ClassId} {A : Nat → Prop} {ad : Nat → Nat} {o : Nat} {q : Nat → Nat} {z : Nat → Int32} {g_parent : Nat → Int32} {g_height : Nat → Int32} {g_time : Nat → Int32} {g_bits : Nat → Int32} {fu : Nat} {k_273 : Int32 → Int32 → (Nat → Int32) → (Nat → Int32) → Option (Int32 × (Nat → Int32) × (Nat → Int32))} (F : Fx p s m args meth c b_M_wanted 12 "CoinKeeperModel" "wanted" (some .int) D cy ad A) (hk_273 : I_M_wanted_273 p l e s m args below meth c D cy A ad o q z g_parent g_height g_time g_bits k_273) : I_M_wanted_273 p l e s m args below meth c D cy A ad o q z g_parent g_height g_time g_bits (xb_M_wanted_273 fu z g_parent g_height g_time g_bits k_273) := by
  obtain ⟨hx, hb, hr, hml, hown, hts, hlocks, hK, hA, hSt, hnm, hex⟩ := id F
  intro x10 x11 u0 u1 res hf H locs ls hP hD hS hl
  unfold xb_M_wanted_273 at hf
  refine lv_iload hx hb d_M_wanted_273 (lv_at hl 2 rfl) ?_
  refine lv_bipush (v := 7) hx hb d_M_wanted_275 (by decide) ?_
  refine lv_icmp_ge (tgt := 306) hx hb d_M_wanted_277 (by decide) (fun cx => ?_) (fun cx => ?_)
  · have hf := ifp cx hf
    exact wb_M_wanted_306 (fu := fu) F _ _ _ _ hf _ _ _ hP hD hS (lv_sub hl [0, 1] rfl)
  · have hf := ifn cx hf
    refine lv_iload hx hb d_M_wanted_280 (lv_at hl 1 rfl) ?_
    refine lv_aload_n hx hb d_M_wanted_282 rfl (lv_at hl 0 rfl) ?_
    refine va_get (D := D) (ci := 12) (v := .ref (q 44)) (C := "CoinKeeperModel") (T := F_12) (N := 98) hx hb hts i_12 hown hK hP 0 rfl rfl 52 (by decide) (hts _ gw_1471) (fun _ h9 => h9) rfl d_M_wanted_283 ?_
    refine lv_iload hx hb d_M_wanted_286 (lv_at hl 2 rfl) ?_
    obtain ⟨hg, hf⟩ := gdp hf
    refine va_iald hx hb hK hP 6 1 rfl rfl (inb_in hg) d_M_wanted_288 ?_
    refine lv_topi (fun v1 ev => ?_)
    have hf := bn ev hf
    clear ev
    refine lv_if_eq (tgt := 296) hx hb d_M_wanted_289 (by decide) (fun cx => ?_) (fun cx => ?_)
    · have hf := ifp cx hf
      refine lv_iconst (v := 0) hx hb d_M_wanted_296 (by decide) ?_
      exact wb_M_wanted_297 (fu := fu) F hk_273 _ _ _ _ _ _ hf _ _ _ hP hD hS (lv_sub hl [0, 2] rfl)
    · have hf := ifn cx hf
      refine lv_iconst (v := 1) hx hb d_M_wanted_292 (by decide) ?_
      refine lv_goto (tgt := 297) hx hb d_M_wanted_293 (by decide) ?_
      exact wb_M_wanted_297 (fu := fu) F hk_273 _ _ _ _ _ _ hf _ _ _ hP hD hS (lv_sub hl [0, 2] rfl)
theorem w_M_wanted_273 {p : Program} {l : Launch} {e : Env} {s : State} {m : MethodId} {args : Array Value} {below : List Frame} {meth : Method} {c : Code} {D : va_G} {cy : Nat → ClassId} {A : Nat → Prop} {ad : Nat → Nat} {o : Nat} {q : Nat → Nat} {z : Nat → Int32} {g_parent : Nat → Int32} {g_height : Nat → Int32} {g_time : Nat → Int32} {g_bits : Nat → Int32} {fu : Nat} (F : Fx p s m args meth c b_M_wanted 12 "CoinKeeperModel" "wanted" (some .int) D cy ad A) : ∀ n : Nat, I_M_wanted_273 p l e s m args below meth c D cy A ad o q z g_parent g_height g_time g_bits (x_M_wanted_273 fu z g_parent g_height g_time g_bits n)
  | 0 => fun _ _ _ _ _ hf => nomatch (show (none : Option (Int32 × (Nat → Int32) × (Nat → Int32))) = some _ from hf)
  | n + 1 => wb_M_wanted_273 F (w_M_wanted_273 F n)
set_option maxHeartbeats 8000000 in
set_option maxRecDepth 100000 in
theorem wb_M_wanted_250 {p : Program} {l : Launch} {e : Env} {s : State} {m : MethodId} {args : Array Value} {below : List Frame} {meth : Method} {c : Code} {D : va_G} {cy : Nat → ClassId} {A : Nat → Prop} {ad : Nat → Nat} {o : Nat} {q : Nat → Nat} {z : Nat → Int32} {g_parent : Nat → Int32} {g_height : Nat → Int32} {g_time : Nat → Int32} {g_bits : Nat → Int32} {fu : Nat} (F : Fx p s m args meth c b_M_wanted 12 "CoinKeeperModel" "wanted" (some .int) D cy ad A) : I_M_wanted_250 p l e s m args below meth c D cy A ad o q z g_parent g_height g_time g_bits (xb_M_wanted_250 fu z g_parent g_height g_time g_bits) := by
  obtain ⟨hx, hb, hr, hml, hown, hts, hlocks, hK, hA, hSt, hnm, hex⟩ := id F
  intro y0 u0 u1 res hf H locs ls hP hD hS hl
  unfold xb_M_wanted_250 at hf
  refine lv_istore (lv' := [(10, .int y0), (0, .ref o)]) hx hb d_M_wanted_250 hl (by decide) rfl (fun ls hl => ?_)
  refine lv_iload hx hb d_M_wanted_252 (lv_at hl 0 rfl) ?_
  refine lv_if_ne (tgt := 306) hx hb d_M_wanted_254 (by decide) (fun cx => ?_) (fun cx => ?_)
  · have hf := ifn cx hf
    exact wb_M_wanted_306 (fu := fu) F _ _ _ _ hf _ _ _ hP hD hS (lv_sub hl [1, 0] rfl)
  · have hf := ifp cx hf
    refine lv_aload_n hx hb d_M_wanted_257 rfl (lv_at hl 1 rfl) ?_
    refine va_get (D := D) (ci := 12) (v := .ref (q 44)) (C := "CoinKeeperModel") (T := F_12) (N := 98) hx hb hts i_12 hown hK hP 0 rfl rfl 52 (by decide) (hts _ gw_1471) (fun _ h9 => h9) rfl d_M_wanted_258 ?_
    refine lv_bipush (v := 7) hx hb d_M_wanted_261 (by decide) ?_
    refine va_iald hx hb hK hP 6 1 rfl rfl (inb_in (by decide)) d_M_wanted_263 ?_
    refine lv_topi (fun v1 ev => ?_)
    have hf := bn ev hf
    clear ev
    refine lv_ldcw (v := 2147483392) hx hb hown (hts _ gw_1378) d_M_wanted_264 ?_
    refine lv_icmp_ne (tgt := 306) hx hb d_M_wanted_267 (by decide) (fun cx => ?_) (fun cx => ?_)
    · have hf := ifn cx hf
      exact wb_M_wanted_306 (fu := fu) F _ _ _ _ hf _ _ _ hP hD hS (lv_sub hl [1, 0] rfl)
    · have hf := ifp cx hf
      refine lv_iconst (v := 0) hx hb d_M_wanted_270 (by decide) ?_
      refine lv_istore (lv' := [(11, .int (0 : Int32)), (10, .int y0), (0, .ref o)]) hx hb d_M_wanted_271 hl (by decide) rfl (fun ls hl => ?_)
      exact w_M_wanted_273 F fu _ _ _ _ _ hf _ _ _ hP hD hS (lv_sub hl [2, 1, 0] rfl)
set_option maxHeartbeats 8000000 in
set_option maxRecDepth 100000 in
theorem wb_M_wanted_245 {p : Program} {l : Launch} {e : Env} {s : State} {m : MethodId} {args : Array Value} {below : List Frame} {meth : Method} {c : Code} {D : va_G} {cy : Nat → ClassId} {A : Nat → Prop} {ad : Nat → Nat} {o : Nat} {q : Nat → Nat} {z : Nat → Int32} {g_parent : Nat → Int32} {g_height : Nat → Int32} {g_time : Nat → Int32} {g_bits : Nat → Int32} {fu : Nat} (F : Fx p s m args meth c b_M_wanted 12 "CoinKeeperModel" "wanted" (some .int) D cy ad A) : I_M_wanted_245 p l e s m args below meth c D cy A ad o q z g_parent g_height g_time g_bits (xb_M_wanted_245 fu z g_parent g_height g_time g_bits) := by
  obtain ⟨hx, hb, hr, hml, hown, hts, hlocks, hK, hA, hSt, hnm, hex⟩ := id F
  intro u0 u1 res hf H locs ls hP hD hS hl
  unfold xb_M_wanted_245 at hf
  refine lv_iconst (v := 1) hx hb d_M_wanted_245 (by decide) ?_
  refine lv_goto (tgt := 250) hx hb d_M_wanted_246 (by decide) ?_
  exact wb_M_wanted_250 (fu := fu) F _ _ _ _ hf _ _ _ hP hD hS (lv_sub hl [0] rfl)
set_option maxHeartbeats 8000000 in
set_option maxRecDepth 100000 in
theorem wb_M_wanted_160 {p : Program} {l : Launch} {e : Env} {s : State} {m : MethodId} {args : Array Value} {below : List Frame} {meth : Method} {c : Code} {D : va_G} {cy : Nat → ClassId} {A : Nat → Prop} {ad : Nat → Nat} {o : Nat} {q : Nat → Nat} {z : Nat → Int32} {g_parent : Nat → Int32} {g_height : Nat → Int32} {g_time : Nat → Int32} {g_bits : Nat → Int32} {fu : Nat} {k_160 : Int64 → Int64 → Int32 → (Nat → Int32) → (Nat → Int32) → Option (Int32 × (Nat → Int32) × (Nat → Int32))} (F : Fx p s m args meth c b_M_wanted 12 "CoinKeeperModel" "wanted" (some .int) D cy ad A) (hk_160 : I_M_wanted_160 p l e s m args below meth c D cy A ad o q z g_parent g_height g_time g_bits k_160) : I_M_wanted_160 p l e s m args below meth c D cy A ad o q z g_parent g_height g_time g_bits (xb_M_wanted_160 fu z g_parent g_height g_time g_bits k_160) := by
  obtain ⟨hx, hb, hr, hml, hown, hts, hlocks, hK, hA, hSt, hnm, hex⟩ := id F
  intro x6 x8 x10 u0 u1 res hf H locs ls hP hD hS hl
  unfold xb_M_wanted_160 at hf
  refine lv_iload hx hb d_M_wanted_160 (lv_at hl 3 rfl) ?_
  refine lv_if_lt (tgt := 213) hx hb d_M_wanted_162 (by decide) (fun cx => ?_) (fun cx => ?_)
  · have hf := ifp cx hf
    refine lv_lload hx hb d_M_wanted_213 (lv_at hl 1 rfl) ?_
    refine lv_ldc2 (v := 4800) hx hb hown (hts _ gw_1792) d_M_wanted_215 ?_
    refine W.lcmp hx hb d_M_wanted_218 ?_
    refine lv_if_ge (tgt := 245) hx hb d_M_wanted_219 (by decide) (fun cx => ?_) (fun cx => ?_)
    · have hf := ifp cx hf
      exact wb_M_wanted_245 (fu := fu) F _ _ _ hf _ _ _ hP hD hS (lv_sub hl [0] rfl)
    · have hf := ifn cx hf
      refine lv_aload_n hx hb d_M_wanted_222 rfl (lv_at hl 0 rfl) ?_
      refine va_get (D := D) (ci := 12) (v := .ref (q 44)) (C := "CoinKeeperModel") (T := F_12) (N := 98) hx hb hts i_12 hown hK hP 0 rfl rfl 52 (by decide) (hts _ gw_1471) (fun _ h9 => h9) rfl d_M_wanted_223 ?_
      refine lv_bipush (v := 7) hx hb d_M_wanted_226 (by decide) ?_
      refine va_iald hx hb hK hP 6 1 rfl rfl (inb_in (by decide)) d_M_wanted_228 ?_
      refine lv_topi (fun v1 ev => ?_)
      have hf := bn ev hf
      clear ev
      refine lv_if_lt (tgt := 245) hx hb d_M_wanted_229 (by decide) (fun cx => ?_) (fun cx => ?_)
      · have hf := ifp cx hf
        exact wb_M_wanted_245 (fu := fu) F _ _ _ hf _ _ _ hP hD hS (lv_sub hl [0] rfl)
      · have hf := ifn cx hf
        refine lv_aload_n hx hb d_M_wanted_232 rfl (lv_at hl 0 rfl) ?_
        refine va_get (D := D) (ci := 12) (v := .ref (q 44)) (C := "CoinKeeperModel") (T := F_12) (N := 98) hx hb hts i_12 hown hK hP 0 rfl rfl 52 (by decide) (hts _ gw_1471) (fun _ h9 => h9) rfl d_M_wanted_233 ?_
        refine lv_bipush (v := 7) hx hb d_M_wanted_236 (by decide) ?_
        refine va_iald hx hb hK hP 6 1 rfl rfl (inb_in (by decide)) d_M_wanted_238 ?_
        refine lv_topi (fun v2 ev => ?_)
        have hf := bn ev hf
        clear ev
        refine lv_ldcw (v := 2147483392) hx hb hown (hts _ gw_1378) d_M_wanted_239 ?_
        refine lv_icmp_le (tgt := 249) hx hb d_M_wanted_242 (by decide) (fun cx => ?_) (fun cx => ?_)
        · have hf := ifp cx hf
          refine lv_iconst (v := 0) hx hb d_M_wanted_249 (by decide) ?_
          exact wb_M_wanted_250 (fu := fu) F _ _ _ _ hf _ _ _ hP hD hS (lv_sub hl [0] rfl)
        · have hf := ifn cx hf
          exact wb_M_wanted_245 (fu := fu) F _ _ _ hf _ _ _ hP hD hS (lv_sub hl [0] rfl)
  · have hf := ifn cx hf
    refine lv_lload hx hb d_M_wanted_165 (lv_at hl 2 rfl) ?_
    refine lv_bipush (v := 32) hx hb d_M_wanted_167 (by decide) ?_
    refine lv_lshl hx hb d_M_wanted_169 rfl ?_
    refine lv_topl (fun v3 ev => ?_)
    have hf := bn ev hf
    clear ev
    refine lv_aload_n hx hb d_M_wanted_170 rfl (lv_at hl 0 rfl) ?_
    refine va_get (D := D) (ci := 12) (v := .ref (q 44)) (C := "CoinKeeperModel") (T := F_12) (N := 98) hx hb hts i_12 hown hK hP 0 rfl rfl 52 (by decide) (hts _ gw_1471) (fun _ h9 => h9) rfl d_M_wanted_171 ?_
    refine lv_iload hx hb d_M_wanted_174 (lv_at hl 3 rfl) ?_
    obtain ⟨hg, hf⟩ := gdp hf
    refine va_iald hx hb hK hP 6 1 rfl rfl (inb_in hg) d_M_wanted_176 ?_
    refine lv_topi (fun v4 ev => ?_)
    have hf := bn ev hf
    clear ev
    refine lv_i2l hx hb d_M_wanted_177 rfl ?_
    refine lv_topl (fun v5 ev => ?_)
    have hf := bn ev hf
    clear ev
    refine lv_ldc2 (v := 4294967295) hx hb hown (hts _ gw_1390) d_M_wanted_178 ?_
    refine lv_land hx hb d_M_wanted_181 ?_
    refine lv_lor hx hb d_M_wanted_182 ?_
    refine lv_topl (fun v6 ev => ?_)
    have hf := bn ev hf
    clear ev
    refine lv_lstore (lv' := [(8, .long v6), (0, .ref o), (6, .long x6), (10, .int x10)]) hx hb d_M_wanted_183 hl (by decide) rfl (fun ls hl => ?_)
    refine lv_aload_n hx hb d_M_wanted_185 rfl (lv_at hl 1 rfl) ?_
    refine va_get (D := D) (ci := 12) (v := .ref (q 44)) (C := "CoinKeeperModel") (T := F_12) (N := 98) hx hb hts i_12 hown hK hP 0 rfl rfl 52 (by decide) (hts _ gw_1471) (fun _ h9 => h9) rfl d_M_wanted_186 ?_
    refine lv_iload hx hb d_M_wanted_189 (lv_at hl 3 rfl) ?_
    refine lv_lload hx hb d_M_wanted_191 (lv_at hl 0 rfl) ?_
    refine lv_ldc2 (v := 4800) hx hb hown (hts _ gw_1792) d_M_wanted_193 ?_
    refine lv_ldiv hx hb d_M_wanted_196 (by decide) ?_
    refine lv_l2i hx hb d_M_wanted_197 rfl ?_
    refine lv_topi (fun v7 ev => ?_)
    have hf := bn ev hf
    clear ev
    obtain ⟨hg, hf⟩ := gdp hf
    refine va_iast hx hb hK hP hD hS 6 1 rfl rfl (inb_in hg) d_M_wanted_198 (fun H locs hP hD hS => ?_)
    obtain ⟨f8, ev, hf⟩ := bne hf
    have hP : va_P D classes [(o, .inr (12, mo q z)), ((q 3), .inl (cy 1, 202, .inl g_parent)), ((q 4), .inl (cy 1, 202, .inl g_height)), ((q 5), .inl (cy 1, 202, .inl g_time)), ((q 6), .inl (cy 1, 202, .inl g_bits)), ((q 38), .inl (cy 1, 8, .inl u0)), ((q 44), .inl (cy 1, 8, .inl f8))] H := by rw [ev]; exact hP
    have hD : va_D A [(o, .inr (12, mo q z)), ((q 3), .inl (cy 1, 202, .inl g_parent)), ((q 4), .inl (cy 1, 202, .inl g_height)), ((q 5), .inl (cy 1, 202, .inl g_time)), ((q 6), .inl (cy 1, 202, .inl g_bits)), ((q 38), .inl (cy 1, 8, .inl u0)), ((q 44), .inl (cy 1, 8, .inl f8))] := by rw [ev]; exact hD
    clear ev
    refine lv_lload hx hb d_M_wanted_199 (lv_at hl 0 rfl) ?_
    refine lv_ldc2 (v := 4800) hx hb hown (hts _ gw_1792) d_M_wanted_201 ?_
    refine lv_lrem hx hb d_M_wanted_204 (by decide) ?_
    refine lv_topl (fun v9 ev => ?_)
    have hf := bn ev hf
    clear ev
    refine lv_lstore (lv' := [(8, .long v9), (0, .ref o), (6, .long x6), (10, .int x10)]) hx hb d_M_wanted_205 hl (by decide) rfl (fun ls hl => ?_)
    obtain ⟨v10, ev, hf⟩ := bne hf
    refine lv_iinc (v := v10) (lv' := [(10, .int v10), (8, .long v9), (0, .ref o), (6, .long x6)]) hx hb d_M_wanted_207 hl (k := 3) rfl (by rw [ev]; rfl) (by decide) rfl (fun ls hl => ?_)
    clear ev
    refine lv_goto (tgt := 160) hx hb d_M_wanted_210 (by decide) ?_
    exact hk_160 _ _ _ _ _ _ hf _ _ _ hP hD hS (lv_sub hl [2, 3, 1, 0] rfl)
theorem w_M_wanted_160 {p : Program} {l : Launch} {e : Env} {s : State} {m : MethodId} {args : Array Value} {below : List Frame} {meth : Method} {c : Code} {D : va_G} {cy : Nat → ClassId} {A : Nat → Prop} {ad : Nat → Nat} {o : Nat} {q : Nat → Nat} {z : Nat → Int32} {g_parent : Nat → Int32} {g_height : Nat → Int32} {g_time : Nat → Int32} {g_bits : Nat → Int32} {fu : Nat} (F : Fx p s m args meth c b_M_wanted 12 "CoinKeeperModel" "wanted" (some .int) D cy ad A) : ∀ n : Nat, I_M_wanted_160 p l e s m args below meth c D cy A ad o q z g_parent g_height g_time g_bits (x_M_wanted_160 fu z g_parent g_height g_time g_bits n)
  | 0 => fun _ _ _ _ _ _ hf => nomatch (show (none : Option (Int32 × (Nat → Int32) × (Nat → Int32))) = some _ from hf)
  | n + 1 => wb_M_wanted_160 F (w_M_wanted_160 F n)
set_option maxHeartbeats 8000000 in
set_option maxRecDepth 100000 in
theorem wb_M_wanted_102 {p : Program} {l : Launch} {e : Env} {s : State} {m : MethodId} {args : Array Value} {below : List Frame} {meth : Method} {c : Code} {D : va_G} {cy : Nat → ClassId} {A : Nat → Prop} {ad : Nat → Nat} {o : Nat} {q : Nat → Nat} {z : Nat → Int32} {g_parent : Nat → Int32} {g_height : Nat → Int32} {g_time : Nat → Int32} {g_bits : Nat → Int32} {fu : Nat} {k_102 : Int64 → Int64 → Int32 → (Nat → Int32) → (Nat → Int32) → Option (Int32 × (Nat → Int32) × (Nat → Int32))} (F : Fx p s m args meth c b_M_wanted 12 "CoinKeeperModel" "wanted" (some .int) D cy ad A) (hk_102 : I_M_wanted_102 p l e s m args below meth c D cy A ad o q z g_parent g_height g_time g_bits k_102) : I_M_wanted_102 p l e s m args below meth c D cy A ad o q z g_parent g_height g_time g_bits (xb_M_wanted_102 fu z g_parent g_height g_time g_bits k_102) := by
  obtain ⟨hx, hb, hr, hml, hown, hts, hlocks, hK, hA, hSt, hnm, hex⟩ := id F
  intro x4 x6 x8 u0 u1 res hf H locs ls hP hD hS hl
  unfold xb_M_wanted_102 at hf
  refine lv_iload hx hb d_M_wanted_102 (lv_at hl 3 rfl) ?_
  refine lv_bipush (v := 8) hx hb d_M_wanted_104 (by decide) ?_
  refine lv_icmp_ge (tgt := 152) hx hb d_M_wanted_106 (by decide) (fun cx => ?_) (fun cx => ?_)
  · have hf := ifp cx hf
    refine lv_lload hx hb d_M_wanted_152 (lv_at hl 2 rfl) ?_
    refine lv_lstore (lv' := [(8, .long x6), (0, .ref o), (4, .long x4), (6, .long x6)]) hx hb d_M_wanted_154 hl (by decide) rfl (fun ls hl => ?_)
    refine lv_bipush (v := 7) hx hb d_M_wanted_156 (by decide) ?_
    refine lv_istore (lv' := [(10, .int (7 : Int32)), (8, .long x6), (0, .ref o), (4, .long x4), (6, .long x6)]) hx hb d_M_wanted_158 hl (by decide) rfl (fun ls hl => ?_)
    exact w_M_wanted_160 F fu _ _ _ _ _ _ hf _ _ _ hP hD hS (lv_sub hl [2, 4, 1, 0] rfl)
  · have hf := ifn cx hf
    refine lv_lload hx hb d_M_wanted_109 (lv_at hl 2 rfl) ?_
    refine lv_aload_n hx hb d_M_wanted_111 rfl (lv_at hl 0 rfl) ?_
    refine va_get (D := D) (ci := 12) (v := .ref (q 38)) (C := "CoinKeeperModel") (T := F_12) (N := 98) hx hb hts i_12 hown hK hP 0 rfl rfl 46 (by decide) (hts _ gw_1465) (fun _ h9 => h9) rfl d_M_wanted_112 ?_
    refine lv_iload hx hb d_M_wanted_115 (lv_at hl 3 rfl) ?_
    obtain ⟨hg, hf⟩ := gdp hf
    refine va_iald hx hb hK hP 5 1 rfl rfl (inb_in hg) d_M_wanted_117 ?_
    refine lv_topi (fun v1 ev => ?_)
    have hf := bn ev hf
    clear ev
    refine lv_i2l hx hb d_M_wanted_118 rfl ?_
    refine lv_topl (fun v2 ev => ?_)
    have hf := bn ev hf
    clear ev
    refine lv_ldc2 (v := 4294967295) hx hb hown (hts _ gw_1390) d_M_wanted_119 ?_
    refine lv_land hx hb d_M_wanted_122 ?_
    refine lv_topl (fun v3 ev => ?_)
    have hf := bn ev hf
    clear ev
    refine lv_lload hx hb d_M_wanted_123 (lv_at hl 1 rfl) ?_
    refine lv_lmul hx hb d_M_wanted_125 ?_
    refine lv_ladd hx hb d_M_wanted_126 ?_
    refine lv_topl (fun v4 ev => ?_)
    have hf := bn ev hf
    clear ev
    refine lv_lstore (lv' := [(6, .long v4), (0, .ref o), (4, .long x4), (8, .int x8)]) hx hb d_M_wanted_127 hl (by decide) rfl (fun ls hl => ?_)
    refine lv_aload_n hx hb d_M_wanted_129 rfl (lv_at hl 1 rfl) ?_
    refine va_get (D := D) (ci := 12) (v := .ref (q 44)) (C := "CoinKeeperModel") (T := F_12) (N := 98) hx hb hts i_12 hown hK hP 0 rfl rfl 52 (by decide) (hts _ gw_1471) (fun _ h9 => h9) rfl d_M_wanted_130 ?_
    refine lv_iload hx hb d_M_wanted_133 (lv_at hl 3 rfl) ?_
    refine lv_lload hx hb d_M_wanted_135 (lv_at hl 0 rfl) ?_
    refine lv_l2i hx hb d_M_wanted_137 rfl ?_
    refine lv_topi (fun v5 ev => ?_)
    have hf := bn ev hf
    clear ev
    obtain ⟨hg, hf⟩ := gdp hf
    refine va_iast hx hb hK hP hD hS 6 1 rfl rfl (inb_in hg) d_M_wanted_138 (fun H locs hP hD hS => ?_)
    obtain ⟨f6, ev, hf⟩ := bne hf
    have hP : va_P D classes [(o, .inr (12, mo q z)), ((q 3), .inl (cy 1, 202, .inl g_parent)), ((q 4), .inl (cy 1, 202, .inl g_height)), ((q 5), .inl (cy 1, 202, .inl g_time)), ((q 6), .inl (cy 1, 202, .inl g_bits)), ((q 38), .inl (cy 1, 8, .inl u0)), ((q 44), .inl (cy 1, 8, .inl f6))] H := by rw [ev]; exact hP
    have hD : va_D A [(o, .inr (12, mo q z)), ((q 3), .inl (cy 1, 202, .inl g_parent)), ((q 4), .inl (cy 1, 202, .inl g_height)), ((q 5), .inl (cy 1, 202, .inl g_time)), ((q 6), .inl (cy 1, 202, .inl g_bits)), ((q 38), .inl (cy 1, 8, .inl u0)), ((q 44), .inl (cy 1, 8, .inl f6))] := by rw [ev]; exact hD
    clear ev
    refine lv_lload hx hb d_M_wanted_139 (lv_at hl 0 rfl) ?_
    refine lv_bipush (v := 32) hx hb d_M_wanted_141 (by decide) ?_
    refine lv_lushr hx hb d_M_wanted_143 rfl ?_
    refine lv_topl (fun v7 ev => ?_)
    have hf := bn ev hf
    clear ev
    refine lv_lstore (lv' := [(6, .long v7), (0, .ref o), (4, .long x4), (8, .int x8)]) hx hb d_M_wanted_144 hl (by decide) rfl (fun ls hl => ?_)
    obtain ⟨v8, ev, hf⟩ := bne hf
    refine lv_iinc (v := v8) (lv' := [(8, .int v8), (6, .long v7), (0, .ref o), (4, .long x4)]) hx hb d_M_wanted_146 hl (k := 3) rfl (by rw [ev]; rfl) (by decide) rfl (fun ls hl => ?_)
    clear ev
    refine lv_goto (tgt := 102) hx hb d_M_wanted_149 (by decide) ?_
    exact hk_102 _ _ _ _ _ _ hf _ _ _ hP hD hS (lv_sub hl [2, 3, 1, 0] rfl)
theorem w_M_wanted_102 {p : Program} {l : Launch} {e : Env} {s : State} {m : MethodId} {args : Array Value} {below : List Frame} {meth : Method} {c : Code} {D : va_G} {cy : Nat → ClassId} {A : Nat → Prop} {ad : Nat → Nat} {o : Nat} {q : Nat → Nat} {z : Nat → Int32} {g_parent : Nat → Int32} {g_height : Nat → Int32} {g_time : Nat → Int32} {g_bits : Nat → Int32} {fu : Nat} (F : Fx p s m args meth c b_M_wanted 12 "CoinKeeperModel" "wanted" (some .int) D cy ad A) : ∀ n : Nat, I_M_wanted_102 p l e s m args below meth c D cy A ad o q z g_parent g_height g_time g_bits (x_M_wanted_102 fu z g_parent g_height g_time g_bits n)
  | 0 => fun _ _ _ _ _ _ hf => nomatch (show (none : Option (Int32 × (Nat → Int32) × (Nat → Int32))) = some _ from hf)
  | n + 1 => wb_M_wanted_102 F (w_M_wanted_102 F n)
theorem hdm_10 : ({ cls := "CoinKeeperModel", name := "target", desc := "(I)Z" } : Jvm.MethodName).cls ≠ "java/lang/invoke/MethodHandle" ∧ ({ cls := "CoinKeeperModel", name := "target", desc := "(I)Z" } : Jvm.MethodName).cls ≠ "java/lang/invoke/VarHandle" ∧ (parseMethodDescriptor ({ cls := "CoinKeeperModel", name := "target", desc := "(I)Z" } : Jvm.MethodName).desc).map (fun d => d.parameters.length) = some 1 := by decide +kernel
set_option maxHeartbeats 8000000 in
set_option maxRecDepth 100000 in
theorem wb_M_wanted_25 {p : Program} {l : Launch} {e : Env} {s : State} {m : MethodId} {args : Array Value} {below : List Frame} {meth : Method} {c : Code} {D : va_G} {cy : Nat → ClassId} {A : Nat → Prop} {ad : Nat → Nat} {o : Nat} {q : Nat → Nat} {z : Nat → Int32} {g_parent : Nat → Int32} {g_height : Nat → Int32} {g_time : Nat → Int32} {g_bits : Nat → Int32} {fu : Nat} {k_25 : Int32 → Int32 → Int32 → (Nat → Int32) → (Nat → Int32) → Option (Int32 × (Nat → Int32) × (Nat → Int32))} (F : Fx p s m args meth c b_M_wanted 12 "CoinKeeperModel" "wanted" (some .int) D cy ad A) (hk_25 : I_M_wanted_25 p l e s m args below meth c D cy A ad o q z g_parent g_height g_time g_bits k_25) : I_M_wanted_25 p l e s m args below meth c D cy A ad o q z g_parent g_height g_time g_bits (xb_M_wanted_25 fu z g_parent g_height g_time g_bits k_25) := by
  obtain ⟨hx, hb, hr, hml, hown, hts, hlocks, hK, hA, hSt, hnm, hex⟩ := id F
  intro x1 x2 x3 u0 u1 res hf H locs ls hP hD hS hl
  unfold xb_M_wanted_25 at hf
  refine lv_aload_n hx hb d_M_wanted_25 rfl (lv_at hl 0 rfl) ?_
  refine va_get (D := D) (ci := 12) (v := .ref (q 4)) (C := "CoinKeeperModel") (T := F_12) (N := 98) hx hb hts i_12 hown hK hP 0 rfl rfl 7 (by decide) (hts _ gw_1426) (fun _ h9 => h9) rfl d_M_wanted_26 ?_
  refine lv_iload_n hx hb d_M_wanted_29 rfl (lv_at hl 3 rfl) ?_
  obtain ⟨hg, hf⟩ := gdp hf
  refine va_iald hx hb hK hP 2 1 rfl rfl (inb_in hg) d_M_wanted_30 ?_
  refine lv_topi (fun v1 ev => ?_)
  have hf := bn ev hf
  clear ev
  refine lv_iload_n hx hb d_M_wanted_31 rfl (lv_at hl 2 rfl) ?_
  refine lv_bipush (v := 8) hx hb d_M_wanted_32 (by decide) ?_
  refine lv_isub hx hb d_M_wanted_34 ?_
  refine lv_icmp_le (tgt := 48) hx hb d_M_wanted_35 (by decide) (fun cx => ?_) (fun cx => ?_)
  · have hf := ifp cx hf
    refine lv_ldc2 (v := 1200) hx hb hown (hts _ gw_1788) d_M_wanted_48 ?_
    refine lv_ldc2 (v := 19200) hx hb hown (hts _ gw_1789) d_M_wanted_51 ?_
    refine lv_aload_n hx hb d_M_wanted_54 rfl (lv_at hl 0 rfl) ?_
    refine va_get (D := D) (ci := 12) (v := .ref (q 5)) (C := "CoinKeeperModel") (T := F_12) (N := 98) hx hb hts i_12 hown hK hP 0 rfl rfl 8 (by decide) (hts _ gw_1427) (fun _ h9 => h9) rfl d_M_wanted_55 ?_
    refine lv_iload_n hx hb d_M_wanted_58 rfl (lv_at hl 1 rfl) ?_
    obtain ⟨hg, hf⟩ := gdp hf
    refine va_iald hx hb hK hP 3 1 rfl rfl (inb_in hg) d_M_wanted_59 ?_
    refine lv_topi (fun v2 ev => ?_)
    have hf := bn ev hf
    clear ev
    refine lv_i2l hx hb d_M_wanted_60 rfl ?_
    refine lv_topl (fun v3 ev => ?_)
    have hf := bn ev hf
    clear ev
    refine lv_ldc2 (v := 4294967295) hx hb hown (hts _ gw_1390) d_M_wanted_61 ?_
    refine lv_land hx hb d_M_wanted_64 ?_
    refine lv_topl (fun v4 ev => ?_)
    have hf := bn ev hf
    clear ev
    refine lv_aload_n hx hb d_M_wanted_65 rfl (lv_at hl 0 rfl) ?_
    refine va_get (D := D) (ci := 12) (v := .ref (q 5)) (C := "CoinKeeperModel") (T := F_12) (N := 98) hx hb hts i_12 hown hK hP 0 rfl rfl 8 (by decide) (hts _ gw_1427) (fun _ h9 => h9) rfl d_M_wanted_66 ?_
    refine lv_iload_n hx hb d_M_wanted_69 rfl (lv_at hl 3 rfl) ?_
    obtain ⟨hg, hf⟩ := gdp hf
    refine va_iald hx hb hK hP 3 1 rfl rfl (inb_in hg) d_M_wanted_70 ?_
    refine lv_topi (fun v5 ev => ?_)
    have hf := bn ev hf
    clear ev
    refine lv_i2l hx hb d_M_wanted_71 rfl ?_
    refine lv_topl (fun v6 ev => ?_)
    have hf := bn ev hf
    clear ev
    refine lv_ldc2 (v := 4294967295) hx hb hown (hts _ gw_1390) d_M_wanted_72 ?_
    refine lv_land hx hb d_M_wanted_75 ?_
    refine lv_lsub hx hb d_M_wanted_76 ?_
    refine lv_topl (fun v7 ev => ?_)
    have hf := bn ev hf
    clear ev
    refine va_mmin_long (rest := [.long (1200 : Int64)]) hx hb (hml.trans hl.1.symm) hown (hts _ gw_1790) (hts _ gw_759) (hts _ gw_15) (hts _ gw_760) (by decide) (Nat.le_of_ble_eq_true rfl) (Nat.zero_le _) (Nat.zero_le _) d_M_wanted_77 ?_
    refine lv_topl (fun v8 ev => ?_)
    have hf := bn ev hf
    clear ev
    refine va_mmax_long (rest := []) hx hb (hml.trans hl.1.symm) hown (hts _ gw_1791) (hts _ gw_762) (hts _ gw_15) (hts _ gw_763) (by decide) (Nat.le_of_ble_eq_true rfl) (Nat.zero_le _) (Nat.zero_le _) d_M_wanted_80 ?_
    refine lv_topl (fun v9 ev => ?_)
    have hf := bn ev hf
    clear ev
    refine lv_lstore (lv' := [(4, .long v9), (0, .ref o), (1, .int x1), (2, .int x2), (3, .int x3)]) hx hb d_M_wanted_83 hl (by decide) rfl (fun ls hl => ?_)
    refine lv_lconst (v := 0) hx hb d_M_wanted_85 (by decide) ?_
    refine lv_lstore (lv' := [(6, .long (0 : Int64)), (4, .long v9), (0, .ref o), (1, .int x1), (2, .int x2), (3, .int x3)]) hx hb d_M_wanted_86 hl (by decide) rfl (fun ls hl => ?_)
    refine lv_aload_n hx hb d_M_wanted_88 rfl (lv_at hl 2 rfl) ?_
    refine lv_aload_n hx hb d_M_wanted_89 rfl (lv_at hl 2 rfl) ?_
    refine va_get (D := D) (ci := 12) (v := .ref (q 6)) (C := "CoinKeeperModel") (T := F_12) (N := 98) hx hb hts i_12 hown hK hP 0 rfl rfl 9 (by decide) (hts _ gw_1428) (fun _ h9 => h9) rfl d_M_wanted_90 ?_
    refine lv_iload_n hx hb d_M_wanted_93 rfl (lv_at hl 3 rfl) ?_
    obtain ⟨hg, hf⟩ := gdp hf
    refine va_iald hx hb hK hP 4 1 rfl rfl (inb_in hg) d_M_wanted_94 ?_
    refine lv_topi (fun v10 ev => ?_)
    have hf := bn ev hf
    clear ev
    obtain ⟨v11, f12, hc, hf⟩ := bdp2 hf
    refine q_ai (wr := [((q 3), .inl (cy 1, 202, .inl g_parent)), ((q 4), .inl (cy 1, 202, .inl g_height)), ((q 5), .inl (cy 1, 202, .inl g_time)), ((q 6), .inl (cy 1, 202, .inl g_bits)), ((q 44), .inl (cy 1, 8, .inl u1))]) (va_runV (C := "CoinKeeperModel") (As := [.int v10]) (rest := []) ⟨hx, hb, hml, hown, hts⟩ (c_M_target l D cy ad fu o q z v10 u0 _ hc H.size) ⟨q_cB hts gw_1372 gw_18 gw_1369 hdm_10 ⟨by decide, by decide⟩, hts _ gw_1371, hts _ gs_61⟩ (q_preV (q_pre (hP.sub [0, 5] rfl) (hD.sub [0, 5] (by decide) rfl) hK hSt hS (va_free hD hS hA [0, 5] rfl) _) (va_recv hK (hP.sub [0, 5] rfl) (ci := 12) (q0 := 0) rfl rfl)) rfl rfl hl.1 rfl (lv_room (Nat.le_of_ble_eq_true rfl)) d_M_wanted_95 ⟨Nat.le_of_ble_eq_true rfl, Nat.le_of_ble_eq_true rfl⟩) hP hD hS hA [0, 5] [1, 2, 3, 4, 6] rfl rfl (by decide) (by decide) (fun H locs hP hD hS => ?_)
    clear hc
    have hP : va_P D classes [((q 3), .inl (cy 1, 202, .inl g_parent)), ((q 4), .inl (cy 1, 202, .inl g_height)), ((q 5), .inl (cy 1, 202, .inl g_time)), ((q 6), .inl (cy 1, 202, .inl g_bits)), ((q 44), .inl (cy 1, 8, .inl u1)), (o, .inr (12, mo q z)), ((q 38), .inl (cy 1, 8, .inl f12))] H := hP
    have hD : va_D A [((q 3), .inl (cy 1, 202, .inl g_parent)), ((q 4), .inl (cy 1, 202, .inl g_height)), ((q 5), .inl (cy 1, 202, .inl g_time)), ((q 6), .inl (cy 1, 202, .inl g_bits)), ((q 44), .inl (cy 1, 8, .inl u1)), (o, .inr (12, mo q z)), ((q 38), .inl (cy 1, 8, .inl f12))] := hD
    refine lv_pop hx hb d_M_wanted_98 rfl ?_
    refine lv_iconst (v := 0) hx hb d_M_wanted_99 (by decide) ?_
    refine lv_istore (lv' := [(8, .int (0 : Int32)), (6, .long (0 : Int64)), (4, .long v9), (0, .ref o), (1, .int x1), (2, .int x2), (3, .int x3)]) hx hb d_M_wanted_100 hl (by decide) rfl (fun ls hl => ?_)
    exact w_M_wanted_102 F fu _ _ _ _ _ _ hf _ _ _ (hP.sub (ws' := [(o, .inr (12, mo q z)), ((q 3), .inl (cy 1, 202, .inl g_parent)), ((q 4), .inl (cy 1, 202, .inl g_height)), ((q 5), .inl (cy 1, 202, .inl g_time)), ((q 6), .inl (cy 1, 202, .inl g_bits)), ((q 38), .inl (cy 1, 8, .inl f12)), ((q 44), .inl (cy 1, 8, .inl u1))]) [5, 0, 1, 2, 3, 6, 4] rfl) (hD.sub (ws' := [(o, .inr (12, mo q z)), ((q 3), .inl (cy 1, 202, .inl g_parent)), ((q 4), .inl (cy 1, 202, .inl g_height)), ((q 5), .inl (cy 1, 202, .inl g_time)), ((q 6), .inl (cy 1, 202, .inl g_bits)), ((q 38), .inl (cy 1, 8, .inl f12)), ((q 44), .inl (cy 1, 8, .inl u1))]) [5, 0, 1, 2, 3, 6, 4] (by decide) rfl) hS (lv_sub hl [3, 2, 1, 0] rfl)
  · have hf := ifn cx hf
    refine lv_aload_n hx hb d_M_wanted_38 rfl (lv_at hl 0 rfl) ?_
    refine va_get (D := D) (ci := 12) (v := .ref (q 3)) (C := "CoinKeeperModel") (T := F_12) (N := 98) hx hb hts i_12 hown hK hP 0 rfl rfl 6 (by decide) (hts _ gw_1425) (fun _ h9 => h9) rfl d_M_wanted_39 ?_
    refine lv_iload_n hx hb d_M_wanted_42 rfl (lv_at hl 3 rfl) ?_
    obtain ⟨hg, hf⟩ := gdp hf
    refine va_iald hx hb hK hP 1 1 rfl rfl (inb_in hg) d_M_wanted_43 ?_
    refine lv_topi (fun v13 ev => ?_)
    have hf := bn ev hf
    clear ev
    refine lv_istore_n (lv' := [(3, .int v13), (0, .ref o), (1, .int x1), (2, .int x2)]) hx hb d_M_wanted_44 rfl hl (by decide) rfl (fun ls hl => ?_)
    refine lv_goto (tgt := 25) hx hb d_M_wanted_45 (by decide) ?_
    exact hk_25 _ _ _ _ _ _ hf _ _ _ hP hD hS (lv_sub hl [1, 2, 3, 0] rfl)
theorem w_M_wanted_25 {p : Program} {l : Launch} {e : Env} {s : State} {m : MethodId} {args : Array Value} {below : List Frame} {meth : Method} {c : Code} {D : va_G} {cy : Nat → ClassId} {A : Nat → Prop} {ad : Nat → Nat} {o : Nat} {q : Nat → Nat} {z : Nat → Int32} {g_parent : Nat → Int32} {g_height : Nat → Int32} {g_time : Nat → Int32} {g_bits : Nat → Int32} {fu : Nat} (F : Fx p s m args meth c b_M_wanted 12 "CoinKeeperModel" "wanted" (some .int) D cy ad A) : ∀ n : Nat, I_M_wanted_25 p l e s m args below meth c D cy A ad o q z g_parent g_height g_time g_bits (x_M_wanted_25 fu z g_parent g_height g_time g_bits n)
  | 0 => fun _ _ _ _ _ _ hf => nomatch (show (none : Option (Int32 × (Nat → Int32) × (Nat → Int32))) = some _ from hf)
  | n + 1 => wb_M_wanted_25 F (w_M_wanted_25 F n)
set_option maxHeartbeats 8000000 in
set_option maxRecDepth 100000 in
theorem we_M_wanted {p : Program} {l : Launch} {e : Env} {s : State} {m : MethodId} {args : Array Value} {below : List Frame} {meth : Method} {c : Code} {D : va_G} {cy : Nat → ClassId} {A : Nat → Prop} {ad : Nat → Nat} {o : Nat} {q : Nat → Nat} {z : Nat → Int32} {g_parent : Nat → Int32} {g_height : Nat → Int32} {g_time : Nat → Int32} {g_bits : Nat → Int32} {fu : Nat} (F : Fx p s m args meth c b_M_wanted 12 "CoinKeeperModel" "wanted" (some .int) D cy ad A) : I_M_wanted_e p l e s m args below meth c D cy A ad o q z g_parent g_height g_time g_bits (x_M_wanted fu z g_parent g_height g_time g_bits) := by
  obtain ⟨hx, hb, hr, hml, hown, hts, hlocks, hK, hA, hSt, hnm, hex⟩ := id F
  intro a1 u0 u1 res hf H locs ls hP hD hS hl
  unfold x_M_wanted at hf
  refine lv_aload_n hx hb d_M_wanted_0 rfl (lv_at hl 0 rfl) ?_
  refine va_get (D := D) (ci := 12) (v := .ref (q 4)) (C := "CoinKeeperModel") (T := F_12) (N := 98) hx hb hts i_12 hown hK hP 0 rfl rfl 7 (by decide) (hts _ gw_1426) (fun _ h9 => h9) rfl d_M_wanted_1 ?_
  refine lv_iload_n hx hb d_M_wanted_4 rfl (lv_at hl 1 rfl) ?_
  obtain ⟨hg, hf⟩ := gdp hf
  refine va_iald hx hb hK hP 2 1 rfl rfl (inb_in hg) d_M_wanted_5 ?_
  refine lv_topi (fun v1 ev => ?_)
  have hf := bn ev hf
  clear ev
  refine lv_iconst (v := 1) hx hb d_M_wanted_6 (by decide) ?_
  refine lv_iadd hx hb d_M_wanted_7 ?_
  refine lv_topi (fun v2 ev => ?_)
  have hf := bn ev hf
  clear ev
  refine lv_istore_n (lv' := [(2, .int v2), (0, .ref o), (1, .int a1)]) hx hb d_M_wanted_8 rfl hl (by decide) rfl (fun ls hl => ?_)
  refine lv_iload_n hx hb d_M_wanted_9 rfl (lv_at hl 0 rfl) ?_
  refine lv_bipush (v := 8) hx hb d_M_wanted_10 (by decide) ?_
  refine lv_irem hx hb d_M_wanted_12 (by decide) ?_
  refine lv_if_eq (tgt := 23) hx hb d_M_wanted_13 (by decide) (fun cx => ?_) (fun cx => ?_)
  · have hf := ifp cx hf
    refine lv_iload_n hx hb d_M_wanted_23 rfl (lv_at hl 2 rfl) ?_
    refine lv_istore_n (lv' := [(3, .int a1), (2, .int v2), (0, .ref o), (1, .int a1)]) hx hb d_M_wanted_24 rfl hl (by decide) rfl (fun ls hl => ?_)
    exact w_M_wanted_25 F fu _ _ _ _ _ _ hf _ _ _ hP hD hS (lv_sub hl [2, 3, 1, 0] rfl)
  · have hf := ifn cx hf
    refine lv_aload_n hx hb d_M_wanted_16 rfl (lv_at hl 1 rfl) ?_
    refine va_get (D := D) (ci := 12) (v := .ref (q 6)) (C := "CoinKeeperModel") (T := F_12) (N := 98) hx hb hts i_12 hown hK hP 0 rfl rfl 9 (by decide) (hts _ gw_1428) (fun _ h9 => h9) rfl d_M_wanted_17 ?_
    refine lv_iload_n hx hb d_M_wanted_20 rfl (lv_at hl 2 rfl) ?_
    obtain ⟨hg, hf⟩ := gdp hf
    refine va_iald hx hb hK hP 4 1 rfl rfl (inb_in hg) d_M_wanted_21 ?_
    refine lv_topi (fun v3 ev => ?_)
    have hf := bn ev hf
    clear ev
    obtain rfl := Option.some.inj hf
    exact q_ri hx hb hr hlocks hK hP hD hS d_M_wanted_22
theorem c_M_wanted (l : Launch) (D : va_G) (cy : Nat → ClassId) (ad : Nat → Nat) (fu : Nat) (o : Nat) (q : Nat → Nat) (z : Nat → Int32) (g_parent : Nat → Int32) (g_height : Nat → Int32) (g_time : Nat → Int32) (g_bits : Nat → Int32) (a1 : Int32) (u0 : Nat → Int32) (u1 : Nat → Int32) (res : Int32 × (Nat → Int32) × (Nat → Int32)) (hf : x_M_wanted fu z g_parent g_height g_time g_bits a1 u0 u1 = some res) (sz : Nat) : Met l ({ cls := "CoinKeeperModel", name := "wanted", desc := "(I)I" } : Jvm.MethodName) (.code ({ cls := "CoinKeeperModel", name := "wanted", desc := "(I)I" } : Jvm.MethodName) b_M_wanted 12 (some .int) :: gw) rm_M_wanted (va_Pc [.ref o, .int a1] (Pr D cy ad [(o, .inr (12, mo q z)), ((q 3), .inl (cy 1, 202, .inl g_parent)), ((q 4), .inl (cy 1, 202, .inl g_height)), ((q 5), .inl (cy 1, 202, .inl g_time)), ((q 6), .inl (cy 1, 202, .inl g_bits)), ((q 38), .inl (cy 1, 8, .inl u0)), ((q 44), .inl (cy 1, 8, .inl u1))] sz)) (q_M_wanted D cy (va_A [(o, .inr (12, mo q z)), ((q 3), .inl (cy 1, 202, .inl g_parent)), ((q 4), .inl (cy 1, 202, .inl g_height)), ((q 5), .inl (cy 1, 202, .inl g_time)), ((q 6), .inl (cy 1, 202, .inl g_bits)), ((q 38), .inl (cy 1, 8, .inl u0)), ((q 44), .inl (cy 1, 8, .inl u1))] sz) o q z g_parent g_height g_time g_bits res) 0 0 (va_A [(o, .inr (12, mo q z)), ((q 3), .inl (cy 1, 202, .inl g_parent)), ((q 4), .inl (cy 1, 202, .inl g_height)), ((q 5), .inl (cy 1, 202, .inl g_time)), ((q 6), .inl (cy 1, 202, .inl g_bits)), ((q 38), .inl (cy 1, 8, .inl u0)), ((q 44), .inl (cy 1, 8, .inl u1))] sz) :=
  q_met (Qc := fun A => q_M_wanted D cy A o q z g_parent g_height g_time g_bits res) (by decide) rfl rfl (Nat.le_of_ble_eq_true rfl) (fun p e s m below meth c ls F hP hD hS hl => we_M_wanted (fu := fu) F a1 u0 u1 res hf _ _ _ hP hD hS hl) sz
abbrev b_M_tip : ByteArray := prog_14_method_87_code
theorem d_M_tip_0 : decode b_M_tip 0 = .ok (.aload_n 0, 1) := by decide +kernel
theorem d_M_tip_1 : decode b_M_tip 1 = .ok (.iload_n 1, 1) := by decide +kernel
theorem d_M_tip_2 : decode b_M_tip 2 = .ok (.ifCond .lt 9, 3) := by decide +kernel
theorem d_M_tip_5 : decode b_M_tip 5 = .ok (.iload_n 1, 1) := by decide +kernel
theorem d_M_tip_6 : decode b_M_tip 6 = .ok (.bipush 11, 2) := by decide +kernel
theorem d_M_tip_8 : decode b_M_tip 8 = .ok (.if_icmp .le 7, 3) := by decide +kernel
theorem d_M_tip_11 : decode b_M_tip 11 = .ok (.iconst 1, 1) := by decide +kernel
theorem d_M_tip_12 : decode b_M_tip 12 = .ok (.goto 4, 3) := by decide +kernel
theorem d_M_tip_15 : decode b_M_tip 15 = .ok (.iconst 0, 1) := by decide +kernel
theorem d_M_tip_16 : decode b_M_tip 16 = .ok (.putfield 268, 3) := by decide +kernel
theorem d_M_tip_19 : decode b_M_tip 19 = .ok (.aload_n 0, 1) := by decide +kernel
theorem d_M_tip_20 : decode b_M_tip 20 = .ok (.getfield 268, 3) := by decide +kernel
theorem d_M_tip_23 : decode b_M_tip 23 = .ok (.ifCond .le 5, 3) := by decide +kernel
theorem d_M_tip_26 : decode b_M_tip 26 = .ok (.iconst 0, 1) := by decide +kernel
theorem d_M_tip_27 : decode b_M_tip 27 = .ok (.ireturn, 1) := by decide +kernel
theorem d_M_tip_28 : decode b_M_tip 28 = .ok (.iload_n 1, 1) := by decide +kernel
theorem d_M_tip_29 : decode b_M_tip 29 = .ok (.bipush 8, 2) := by decide +kernel
theorem d_M_tip_31 : decode b_M_tip 31 = .ok (.if_icmp .ge 20, 3) := by decide +kernel
theorem d_M_tip_34 : decode b_M_tip 34 = .ok (.aload_n 0, 1) := by decide +kernel
theorem d_M_tip_35 : decode b_M_tip 35 = .ok (.getfield 39, 3) := by decide +kernel
theorem d_M_tip_38 : decode b_M_tip 38 = .ok (.bipush 8, 2) := by decide +kernel
theorem d_M_tip_40 : decode b_M_tip 40 = .ok (.aload_n 0, 1) := by decide +kernel
theorem d_M_tip_41 : decode b_M_tip 41 = .ok (.getfield 669, 3) := by decide +kernel
theorem d_M_tip_44 : decode b_M_tip 44 = .ok (.imul, 1) := by decide +kernel
theorem d_M_tip_45 : decode b_M_tip 45 = .ok (.iload_n 1, 1) := by decide +kernel
theorem d_M_tip_46 : decode b_M_tip 46 = .ok (.iadd, 1) := by decide +kernel
theorem d_M_tip_47 : decode b_M_tip 47 = .ok (.iaload, 1) := by decide +kernel
theorem d_M_tip_48 : decode b_M_tip 48 = .ok (.goto 65, 3) := by decide +kernel
theorem d_M_tip_51 : decode b_M_tip 51 = .ok (.iload_n 1, 1) := by decide +kernel
theorem d_M_tip_52 : decode b_M_tip 52 = .ok (.bipush 8, 2) := by decide +kernel
theorem d_M_tip_54 : decode b_M_tip 54 = .ok (.if_icmp .ne 15, 3) := by decide +kernel
theorem d_M_tip_57 : decode b_M_tip 57 = .ok (.aload_n 0, 1) := by decide +kernel
theorem d_M_tip_58 : decode b_M_tip 58 = .ok (.getfield 24, 3) := by decide +kernel
theorem d_M_tip_61 : decode b_M_tip 61 = .ok (.aload_n 0, 1) := by decide +kernel
theorem d_M_tip_62 : decode b_M_tip 62 = .ok (.getfield 669, 3) := by decide +kernel
theorem d_M_tip_65 : decode b_M_tip 65 = .ok (.iaload, 1) := by decide +kernel
theorem d_M_tip_66 : decode b_M_tip 66 = .ok (.goto 47, 3) := by decide +kernel
theorem d_M_tip_69 : decode b_M_tip 69 = .ok (.iload_n 1, 1) := by decide +kernel
theorem d_M_tip_70 : decode b_M_tip 70 = .ok (.bipush 9, 2) := by decide +kernel
theorem d_M_tip_72 : decode b_M_tip 72 = .ok (.if_icmp .ne 15, 3) := by decide +kernel
theorem d_M_tip_75 : decode b_M_tip 75 = .ok (.aload_n 0, 1) := by decide +kernel
theorem d_M_tip_76 : decode b_M_tip 76 = .ok (.getfield 27, 3) := by decide +kernel
theorem d_M_tip_79 : decode b_M_tip 79 = .ok (.aload_n 0, 1) := by decide +kernel
theorem d_M_tip_80 : decode b_M_tip 80 = .ok (.getfield 669, 3) := by decide +kernel
theorem d_M_tip_83 : decode b_M_tip 83 = .ok (.iaload, 1) := by decide +kernel
theorem d_M_tip_84 : decode b_M_tip 84 = .ok (.goto 29, 3) := by decide +kernel
theorem d_M_tip_87 : decode b_M_tip 87 = .ok (.iload_n 1, 1) := by decide +kernel
theorem d_M_tip_88 : decode b_M_tip 88 = .ok (.bipush 10, 2) := by decide +kernel
theorem d_M_tip_90 : decode b_M_tip 90 = .ok (.if_icmp .ne 15, 3) := by decide +kernel
theorem d_M_tip_93 : decode b_M_tip 93 = .ok (.aload_n 0, 1) := by decide +kernel
theorem d_M_tip_94 : decode b_M_tip 94 = .ok (.getfield 30, 3) := by decide +kernel
theorem d_M_tip_97 : decode b_M_tip 97 = .ok (.aload_n 0, 1) := by decide +kernel
theorem d_M_tip_98 : decode b_M_tip 98 = .ok (.getfield 669, 3) := by decide +kernel
theorem d_M_tip_101 : decode b_M_tip 101 = .ok (.iaload, 1) := by decide +kernel
theorem d_M_tip_102 : decode b_M_tip 102 = .ok (.goto 11, 3) := by decide +kernel
theorem d_M_tip_105 : decode b_M_tip 105 = .ok (.aload_n 0, 1) := by decide +kernel
theorem d_M_tip_106 : decode b_M_tip 106 = .ok (.aload_n 0, 1) := by decide +kernel
theorem d_M_tip_107 : decode b_M_tip 107 = .ok (.getfield 669, 3) := by decide +kernel
theorem d_M_tip_110 : decode b_M_tip 110 = .ok (.invokevirtual 613, 3) := by decide +kernel
theorem d_M_tip_113 : decode b_M_tip 113 = .ok (.ireturn, 1) := by decide +kernel
abbrev rm_M_tip : Room := { frames := 3, cells := 0, slots := 0, locals := 78 }
abbrev q_M_tip (D : va_G) (cy : Nat → ClassId) (A : Nat → Prop) (o : Nat) (q : Nat → Nat) (g_parent : Nat → Int32) (g_height : Nat → Int32) (g_time : Nat → Int32) (g_bits : Nat → Int32) (g_bId : Nat → Int32) (res : Int32 × (Nat → Int32) × (Nat → Int32) × (Nat → Int32)) : Array Value → State → Outcome → State → Prop := va_Qi (fun r' (_ : Unit) => r' = res.1) (fun _ t => Po D cy A [(o, .inr (12, mo q res.2.1)), ((q 3), .inl (cy 1, 202, .inl g_parent)), ((q 4), .inl (cy 1, 202, .inl g_height)), ((q 5), .inl (cy 1, 202, .inl g_time)), ((q 6), .inl (cy 1, 202, .inl g_bits)), ((q 9), .inl (cy 1, 1616, .inl g_bId)), ((q 38), .inl (cy 1, 8, .inl res.2.2.1)), ((q 44), .inl (cy 1, 8, .inl res.2.2.2))] t) A
def I_M_tip_16 (p : Program) (l : Launch) (e : Env) (s : State) (m : MethodId) (args : Array Value) (below : List Frame) (meth : Method) (c : Code) (D : va_G) (cy : Nat → ClassId) (A : Nat → Prop) (ad : Nat → Nat) (o : Nat) (q : Nat → Nat) (g_parent : Nat → Int32) (g_height : Nat → Int32) (g_time : Nat → Int32) (g_bits : Nat → Int32) (g_bId : Nat → Int32) (k : Int32 → Int32 → (Nat → Int32) → (Nat → Int32) → (Nat → Int32) → Option (Int32 × (Nat → Int32) × (Nat → Int32) × (Nat → Int32))) : Prop :=
  ∀ (x1 : Int32) (y0 : Int32) (u0 : Nat → Int32) (u1 : Nat → Int32) (u2 : Nat → Int32) (res : Int32 × (Nat → Int32) × (Nat → Int32) × (Nat → Int32)), k x1 y0 u0 u1 u2 = some res → ∀ (H : Heap) (locs : List Loc) (ls : Array Slot), va_P D classes [(o, .inr (12, mo q u0)), ((q 3), .inl (cy 1, 202, .inl g_parent)), ((q 4), .inl (cy 1, 202, .inl g_height)), ((q 5), .inl (cy 1, 202, .inl g_time)), ((q 6), .inl (cy 1, 202, .inl g_bits)), ((q 9), .inl (cy 1, 1616, .inl g_bId)), ((q 38), .inl (cy 1, 8, .inl u1)), ((q 44), .inl (cy 1, 8, .inl u2))] H → va_D A [(o, .inr (12, mo q u0)), ((q 3), .inl (cy 1, 202, .inl g_parent)), ((q 4), .inl (cy 1, 202, .inl g_height)), ((q 5), .inl (cy 1, 202, .inl g_time)), ((q 6), .inl (cy 1, 202, .inl g_bits)), ((q 9), .inl (cy 1, 1616, .inl g_bId)), ((q 38), .inl (cy 1, 8, .inl u1)), ((q 44), .inl (cy 1, 8, .inl u2))] → va_S A s.heap H locs → lv_has ls 2 [(0, .ref o), (1, .int x1)] → W p l e rm_M_tip s m args below meth c H locs 0 0 (MQ below (q_M_tip D cy A o q g_parent g_height g_time g_bits g_bId res) args s 0 0 A) (F0 m 16 ls [.int y0, .ref o])
def I_M_tip_11 (p : Program) (l : Launch) (e : Env) (s : State) (m : MethodId) (args : Array Value) (below : List Frame) (meth : Method) (c : Code) (D : va_G) (cy : Nat → ClassId) (A : Nat → Prop) (ad : Nat → Nat) (o : Nat) (q : Nat → Nat) (g_parent : Nat → Int32) (g_height : Nat → Int32) (g_time : Nat → Int32) (g_bits : Nat → Int32) (g_bId : Nat → Int32) (k : Int32 → (Nat → Int32) → (Nat → Int32) → (Nat → Int32) → Option (Int32 × (Nat → Int32) × (Nat → Int32) × (Nat → Int32))) : Prop :=
  ∀ (x1 : Int32) (u0 : Nat → Int32) (u1 : Nat → Int32) (u2 : Nat → Int32) (res : Int32 × (Nat → Int32) × (Nat → Int32) × (Nat → Int32)), k x1 u0 u1 u2 = some res → ∀ (H : Heap) (locs : List Loc) (ls : Array Slot), va_P D classes [(o, .inr (12, mo q u0)), ((q 3), .inl (cy 1, 202, .inl g_parent)), ((q 4), .inl (cy 1, 202, .inl g_height)), ((q 5), .inl (cy 1, 202, .inl g_time)), ((q 6), .inl (cy 1, 202, .inl g_bits)), ((q 9), .inl (cy 1, 1616, .inl g_bId)), ((q 38), .inl (cy 1, 8, .inl u1)), ((q 44), .inl (cy 1, 8, .inl u2))] H → va_D A [(o, .inr (12, mo q u0)), ((q 3), .inl (cy 1, 202, .inl g_parent)), ((q 4), .inl (cy 1, 202, .inl g_height)), ((q 5), .inl (cy 1, 202, .inl g_time)), ((q 6), .inl (cy 1, 202, .inl g_bits)), ((q 9), .inl (cy 1, 1616, .inl g_bId)), ((q 38), .inl (cy 1, 8, .inl u1)), ((q 44), .inl (cy 1, 8, .inl u2))] → va_S A s.heap H locs → lv_has ls 2 [(0, .ref o), (1, .int x1)] → W p l e rm_M_tip s m args below meth c H locs 0 0 (MQ below (q_M_tip D cy A o q g_parent g_height g_time g_bits g_bId res) args s 0 0 A) (F0 m 11 ls [.ref o])
def I_M_tip_e (p : Program) (l : Launch) (e : Env) (s : State) (m : MethodId) (args : Array Value) (below : List Frame) (meth : Method) (c : Code) (D : va_G) (cy : Nat → ClassId) (A : Nat → Prop) (ad : Nat → Nat) (o : Nat) (q : Nat → Nat) (g_parent : Nat → Int32) (g_height : Nat → Int32) (g_time : Nat → Int32) (g_bits : Nat → Int32) (g_bId : Nat → Int32) (k : Int32 → (Nat → Int32) → (Nat → Int32) → (Nat → Int32) → Option (Int32 × (Nat → Int32) × (Nat → Int32) × (Nat → Int32))) : Prop :=
  ∀ (a1 : Int32) (u0 : Nat → Int32) (u1 : Nat → Int32) (u2 : Nat → Int32) (res : Int32 × (Nat → Int32) × (Nat → Int32) × (Nat → Int32)), k a1 u0 u1 u2 = some res → ∀ (H : Heap) (locs : List Loc) (ls : Array Slot), va_P D classes [(o, .inr (12, mo q u0)), ((q 3), .inl (cy 1, 202, .inl g_parent)), ((q 4), .inl (cy 1, 202, .inl g_height)), ((q 5), .inl (cy 1, 202, .inl g_time)), ((q 6), .inl (cy 1, 202, .inl g_bits)), ((q 9), .inl (cy 1, 1616, .inl g_bId)), ((q 38), .inl (cy 1, 8, .inl u1)), ((q 44), .inl (cy 1, 8, .inl u2))] H → va_D A [(o, .inr (12, mo q u0)), ((q 3), .inl (cy 1, 202, .inl g_parent)), ((q 4), .inl (cy 1, 202, .inl g_height)), ((q 5), .inl (cy 1, 202, .inl g_time)), ((q 6), .inl (cy 1, 202, .inl g_bits)), ((q 9), .inl (cy 1, 1616, .inl g_bId)), ((q 38), .inl (cy 1, 8, .inl u1)), ((q 44), .inl (cy 1, 8, .inl u2))] → va_S A s.heap H locs → lv_has ls 2 [(0, .ref o), (1, .int a1)] → W p l e rm_M_tip s m args below meth c H locs 0 0 (MQ below (q_M_tip D cy A o q g_parent g_height g_time g_bits g_bId res) args s 0 0 A) (F0 m 0 ls [])
theorem hdm_11 : ({ cls := "CoinKeeperModel", name := "wanted", desc := "(I)I" } : Jvm.MethodName).cls ≠ "java/lang/invoke/MethodHandle" ∧ ({ cls := "CoinKeeperModel", name := "wanted", desc := "(I)I" } : Jvm.MethodName).cls ≠ "java/lang/invoke/VarHandle" ∧ (parseMethodDescriptor ({ cls := "CoinKeeperModel", name := "wanted", desc := "(I)I" } : Jvm.MethodName).desc).map (fun d => d.parameters.length) = some 1 := by decide +kernel
set_option maxHeartbeats 8000000 in
set_option maxRecDepth 100000 in
theorem wb_M_tip_16 {p : Program} {l : Launch} {e : Env} {s : State} {m : MethodId} {args : Array Value} {below : List Frame} {meth : Method} {c : Code} {D : va_G} {cy : Nat → ClassId} {A : Nat → Prop} {ad : Nat → Nat} {o : Nat} {q : Nat → Nat} {g_parent : Nat → Int32} {g_height : Nat → Int32} {g_time : Nat → Int32} {g_bits : Nat → Int32} {g_bId : Nat → Int32} {fu : Nat} (F : Fx p s m args meth c b_M_tip 2 "CoinKeeperModel" "tip" (some .int) D cy ad A) : I_M_tip_16 p l e s m args below meth c D cy A ad o q g_parent g_height g_time g_bits g_bId (xb_M_tip_16 fu g_parent g_height g_time g_bits g_bId) := by
  obtain ⟨hx, hb, hr, hml, hown, hts, hlocks, hK, hA, hSt, hnm, hex⟩ := id F
  intro x1 y0 u0 u1 u2 res hf H locs ls hP hD hS hl
  unfold xb_M_tip_16 at hf
  refine va_put (D := D) (ci := 12) (v := .int y0) (ty := .int) (C := "CoinKeeperModel") (T := F_12) (N := 98) hx hb hts i_12 t_12 t_12_ok n_12 hown hK hP hD hS 0 rfl rfl 4 (by decide) (hts _ gw_1423) (fun _ h9 => h9) rfl (by decide +kernel) rfl rfl (Nat.le_of_ble_eq_true rfl) d_M_tip_16 (fun H locs hP hD hS => ?_)
  obtain ⟨z1, ev, hf⟩ := bne hf
  have hP : va_P D classes [(o, .inr (12, mo q z1)), ((q 3), .inl (cy 1, 202, .inl g_parent)), ((q 4), .inl (cy 1, 202, .inl g_height)), ((q 5), .inl (cy 1, 202, .inl g_time)), ((q 6), .inl (cy 1, 202, .inl g_bits)), ((q 9), .inl (cy 1, 1616, .inl g_bId)), ((q 38), .inl (cy 1, 8, .inl u1)), ((q 44), .inl (cy 1, 8, .inl u2))] H := by rw [ev]; exact hP
  have hD : va_D A [(o, .inr (12, mo q z1)), ((q 3), .inl (cy 1, 202, .inl g_parent)), ((q 4), .inl (cy 1, 202, .inl g_height)), ((q 5), .inl (cy 1, 202, .inl g_time)), ((q 6), .inl (cy 1, 202, .inl g_bits)), ((q 9), .inl (cy 1, 1616, .inl g_bId)), ((q 38), .inl (cy 1, 8, .inl u1)), ((q 44), .inl (cy 1, 8, .inl u2))] := by rw [ev]; exact hD
  clear ev
  refine lv_aload_n hx hb d_M_tip_19 rfl (lv_at hl 0 rfl) ?_
  refine va_get (D := D) (ci := 12) (v := .int (z1 2)) (C := "CoinKeeperModel") (T := F_12) (N := 98) hx hb hts i_12 hown hK hP 0 rfl rfl 4 (by decide) (hts _ gw_1423) (fun _ h9 => h9) rfl d_M_tip_20 ?_
  refine lv_if_le (tgt := 28) hx hb d_M_tip_23 (by decide) (fun cx => ?_) (fun cx => ?_)
  · have hf := ifp cx hf
    refine lv_iload_n hx hb d_M_tip_28 rfl (lv_at hl 1 rfl) ?_
    refine lv_bipush (v := 8) hx hb d_M_tip_29 (by decide) ?_
    refine lv_icmp_ge (tgt := 51) hx hb d_M_tip_31 (by decide) (fun cx => ?_) (fun cx => ?_)
    · have hf := ifp cx hf
      refine lv_iload_n hx hb d_M_tip_51 rfl (lv_at hl 1 rfl) ?_
      refine lv_bipush (v := 8) hx hb d_M_tip_52 (by decide) ?_
      refine lv_icmp_ne (tgt := 69) hx hb d_M_tip_54 (by decide) (fun cx => ?_) (fun cx => ?_)
      · have hf := ifn cx hf
        refine lv_iload_n hx hb d_M_tip_69 rfl (lv_at hl 1 rfl) ?_
        refine lv_bipush (v := 9) hx hb d_M_tip_70 (by decide) ?_
        refine lv_icmp_ne (tgt := 87) hx hb d_M_tip_72 (by decide) (fun cx => ?_) (fun cx => ?_)
        · have hf := ifn cx hf
          refine lv_iload_n hx hb d_M_tip_87 rfl (lv_at hl 1 rfl) ?_
          refine lv_bipush (v := 10) hx hb d_M_tip_88 (by decide) ?_
          refine lv_icmp_ne (tgt := 105) hx hb d_M_tip_90 (by decide) (fun cx => ?_) (fun cx => ?_)
          · have hf := ifn cx hf
            refine lv_aload_n hx hb d_M_tip_105 rfl (lv_at hl 0 rfl) ?_
            refine lv_aload_n hx hb d_M_tip_106 rfl (lv_at hl 0 rfl) ?_
            refine va_get (D := D) (ci := 12) (v := .int (z1 4)) (C := "CoinKeeperModel") (T := F_12) (N := 98) hx hb hts i_12 hown hK hP 0 rfl rfl 16 (by decide) (hts _ gw_1435) (fun _ h9 => h9) rfl d_M_tip_107 ?_
            obtain ⟨v2, f3, f4, hc, hf⟩ := bdp3 hf
            refine q_ai (wr := [((q 9), .inl (cy 1, 1616, .inl g_bId))]) (va_runV (C := "CoinKeeperModel") (As := [.int (z1 4)]) (rest := []) ⟨hx, hb, hml, hown, hts⟩ (c_M_wanted l D cy ad fu o q z1 g_parent g_height g_time g_bits (z1 4) u1 u2 _ hc H.size) ⟨q_cB hts gw_1787 gw_18 gw_1784 hdm_11 ⟨by decide, by decide⟩, hts _ gw_1786, hts _ gs_75⟩ (q_preV (q_pre (hP.sub [0, 1, 2, 3, 4, 6, 7] rfl) (hD.sub [0, 1, 2, 3, 4, 6, 7] (by decide) rfl) hK hSt hS (va_free hD hS hA [0, 1, 2, 3, 4, 6, 7] rfl) _) (va_recv hK (hP.sub [0, 1, 2, 3, 4, 6, 7] rfl) (ci := 12) (q0 := 0) rfl rfl)) rfl rfl hl.1 rfl (lv_room (Nat.le_of_ble_eq_true rfl)) d_M_tip_110 ⟨Nat.le_of_ble_eq_true rfl, Nat.le_of_ble_eq_true rfl⟩) hP hD hS hA [0, 1, 2, 3, 4, 6, 7] [5] rfl rfl (by decide) (by decide) (fun H locs hP hD hS => ?_)
            clear hc
            have hP : va_P D classes [((q 9), .inl (cy 1, 1616, .inl g_bId)), (o, .inr (12, mo q z1)), ((q 3), .inl (cy 1, 202, .inl g_parent)), ((q 4), .inl (cy 1, 202, .inl g_height)), ((q 5), .inl (cy 1, 202, .inl g_time)), ((q 6), .inl (cy 1, 202, .inl g_bits)), ((q 38), .inl (cy 1, 8, .inl f3)), ((q 44), .inl (cy 1, 8, .inl f4))] H := hP
            have hD : va_D A [((q 9), .inl (cy 1, 1616, .inl g_bId)), (o, .inr (12, mo q z1)), ((q 3), .inl (cy 1, 202, .inl g_parent)), ((q 4), .inl (cy 1, 202, .inl g_height)), ((q 5), .inl (cy 1, 202, .inl g_time)), ((q 6), .inl (cy 1, 202, .inl g_bits)), ((q 38), .inl (cy 1, 8, .inl f3)), ((q 44), .inl (cy 1, 8, .inl f4))] := hD
            obtain rfl := Option.some.inj hf
            exact q_ri hx hb hr hlocks hK (hP.sub [1, 2, 3, 4, 5, 0, 6, 7] rfl) (hD.sub [1, 2, 3, 4, 5, 0, 6, 7] (by decide) rfl) hS d_M_tip_113
          · have hf := ifp cx hf
            refine lv_aload_n hx hb d_M_tip_93 rfl (lv_at hl 0 rfl) ?_
            refine va_get (D := D) (ci := 12) (v := .ref (q 6)) (C := "CoinKeeperModel") (T := F_12) (N := 98) hx hb hts i_12 hown hK hP 0 rfl rfl 9 (by decide) (hts _ gw_1428) (fun _ h9 => h9) rfl d_M_tip_94 ?_
            refine lv_aload_n hx hb d_M_tip_97 rfl (lv_at hl 0 rfl) ?_
            refine va_get (D := D) (ci := 12) (v := .int (z1 4)) (C := "CoinKeeperModel") (T := F_12) (N := 98) hx hb hts i_12 hown hK hP 0 rfl rfl 16 (by decide) (hts _ gw_1435) (fun _ h9 => h9) rfl d_M_tip_98 ?_
            obtain ⟨hg, hf⟩ := gdp hf
            refine va_iald hx hb hK hP 4 1 rfl rfl (inb_in hg) d_M_tip_101 ?_
            refine lv_topi (fun v5 ev => ?_)
            have hf := bn ev hf
            clear ev
            refine lv_goto (tgt := 113) hx hb d_M_tip_102 (by decide) ?_
            obtain rfl := Option.some.inj hf
            exact q_ri hx hb hr hlocks hK hP hD hS d_M_tip_113
        · have hf := ifp cx hf
          refine lv_aload_n hx hb d_M_tip_75 rfl (lv_at hl 0 rfl) ?_
          refine va_get (D := D) (ci := 12) (v := .ref (q 5)) (C := "CoinKeeperModel") (T := F_12) (N := 98) hx hb hts i_12 hown hK hP 0 rfl rfl 8 (by decide) (hts _ gw_1427) (fun _ h9 => h9) rfl d_M_tip_76 ?_
          refine lv_aload_n hx hb d_M_tip_79 rfl (lv_at hl 0 rfl) ?_
          refine va_get (D := D) (ci := 12) (v := .int (z1 4)) (C := "CoinKeeperModel") (T := F_12) (N := 98) hx hb hts i_12 hown hK hP 0 rfl rfl 16 (by decide) (hts _ gw_1435) (fun _ h9 => h9) rfl d_M_tip_80 ?_
          obtain ⟨hg, hf⟩ := gdp hf
          refine va_iald hx hb hK hP 3 1 rfl rfl (inb_in hg) d_M_tip_83 ?_
          refine lv_topi (fun v6 ev => ?_)
          have hf := bn ev hf
          clear ev
          refine lv_goto (tgt := 113) hx hb d_M_tip_84 (by decide) ?_
          obtain rfl := Option.some.inj hf
          exact q_ri hx hb hr hlocks hK hP hD hS d_M_tip_113
      · have hf := ifp cx hf
        refine lv_aload_n hx hb d_M_tip_57 rfl (lv_at hl 0 rfl) ?_
        refine va_get (D := D) (ci := 12) (v := .ref (q 4)) (C := "CoinKeeperModel") (T := F_12) (N := 98) hx hb hts i_12 hown hK hP 0 rfl rfl 7 (by decide) (hts _ gw_1426) (fun _ h9 => h9) rfl d_M_tip_58 ?_
        refine lv_aload_n hx hb d_M_tip_61 rfl (lv_at hl 0 rfl) ?_
        refine va_get (D := D) (ci := 12) (v := .int (z1 4)) (C := "CoinKeeperModel") (T := F_12) (N := 98) hx hb hts i_12 hown hK hP 0 rfl rfl 16 (by decide) (hts _ gw_1435) (fun _ h9 => h9) rfl d_M_tip_62 ?_
        obtain ⟨hg, hf⟩ := gdp hf
        refine va_iald hx hb hK hP 2 1 rfl rfl (inb_in hg) d_M_tip_65 ?_
        refine lv_topi (fun v7 ev => ?_)
        have hf := bn ev hf
        clear ev
        refine lv_goto (tgt := 113) hx hb d_M_tip_66 (by decide) ?_
        obtain rfl := Option.some.inj hf
        exact q_ri hx hb hr hlocks hK hP hD hS d_M_tip_113
    · have hf := ifn cx hf
      refine lv_aload_n hx hb d_M_tip_34 rfl (lv_at hl 0 rfl) ?_
      refine va_get (D := D) (ci := 12) (v := .ref (q 9)) (C := "CoinKeeperModel") (T := F_12) (N := 98) hx hb hts i_12 hown hK hP 0 rfl rfl 12 (by decide) (hts _ gw_1431) (fun _ h9 => h9) rfl d_M_tip_35 ?_
      refine lv_bipush (v := 8) hx hb d_M_tip_38 (by decide) ?_
      refine lv_aload_n hx hb d_M_tip_40 rfl (lv_at hl 0 rfl) ?_
      refine va_get (D := D) (ci := 12) (v := .int (z1 4)) (C := "CoinKeeperModel") (T := F_12) (N := 98) hx hb hts i_12 hown hK hP 0 rfl rfl 16 (by decide) (hts _ gw_1435) (fun _ h9 => h9) rfl d_M_tip_41 ?_
      refine lv_imul hx hb d_M_tip_44 ?_
      refine lv_topi (fun v8 ev => ?_)
      have hf := bn ev hf
      clear ev
      refine lv_iload_n hx hb d_M_tip_45 rfl (lv_at hl 1 rfl) ?_
      refine lv_iadd hx hb d_M_tip_46 ?_
      refine lv_topi (fun v9 ev => ?_)
      have hf := bn ev hf
      clear ev
      obtain ⟨hg, hf⟩ := gdp hf
      refine va_iald hx hb hK hP 5 1 rfl rfl (inb_in hg) d_M_tip_47 ?_
      refine lv_topi (fun v10 ev => ?_)
      have hf := bn ev hf
      clear ev
      refine lv_goto (tgt := 113) hx hb d_M_tip_48 (by decide) ?_
      obtain rfl := Option.some.inj hf
      exact q_ri hx hb hr hlocks hK hP hD hS d_M_tip_113
  · have hf := ifn cx hf
    refine lv_iconst (v := 0) hx hb d_M_tip_26 (by decide) ?_
    obtain rfl := Option.some.inj hf
    exact q_ri hx hb hr hlocks hK hP hD hS d_M_tip_27
set_option maxHeartbeats 8000000 in
set_option maxRecDepth 100000 in
theorem wb_M_tip_11 {p : Program} {l : Launch} {e : Env} {s : State} {m : MethodId} {args : Array Value} {below : List Frame} {meth : Method} {c : Code} {D : va_G} {cy : Nat → ClassId} {A : Nat → Prop} {ad : Nat → Nat} {o : Nat} {q : Nat → Nat} {g_parent : Nat → Int32} {g_height : Nat → Int32} {g_time : Nat → Int32} {g_bits : Nat → Int32} {g_bId : Nat → Int32} {fu : Nat} (F : Fx p s m args meth c b_M_tip 2 "CoinKeeperModel" "tip" (some .int) D cy ad A) : I_M_tip_11 p l e s m args below meth c D cy A ad o q g_parent g_height g_time g_bits g_bId (xb_M_tip_11 fu g_parent g_height g_time g_bits g_bId) := by
  obtain ⟨hx, hb, hr, hml, hown, hts, hlocks, hK, hA, hSt, hnm, hex⟩ := id F
  intro x1 u0 u1 u2 res hf H locs ls hP hD hS hl
  unfold xb_M_tip_11 at hf
  refine lv_iconst (v := 1) hx hb d_M_tip_11 (by decide) ?_
  refine lv_goto (tgt := 16) hx hb d_M_tip_12 (by decide) ?_
  exact wb_M_tip_16 (fu := fu) F _ _ _ _ _ _ hf _ _ _ hP hD hS (lv_sub hl [0, 1] rfl)
set_option maxHeartbeats 8000000 in
set_option maxRecDepth 100000 in
theorem we_M_tip {p : Program} {l : Launch} {e : Env} {s : State} {m : MethodId} {args : Array Value} {below : List Frame} {meth : Method} {c : Code} {D : va_G} {cy : Nat → ClassId} {A : Nat → Prop} {ad : Nat → Nat} {o : Nat} {q : Nat → Nat} {g_parent : Nat → Int32} {g_height : Nat → Int32} {g_time : Nat → Int32} {g_bits : Nat → Int32} {g_bId : Nat → Int32} {fu : Nat} (F : Fx p s m args meth c b_M_tip 2 "CoinKeeperModel" "tip" (some .int) D cy ad A) : I_M_tip_e p l e s m args below meth c D cy A ad o q g_parent g_height g_time g_bits g_bId (x_M_tip fu g_parent g_height g_time g_bits g_bId) := by
  obtain ⟨hx, hb, hr, hml, hown, hts, hlocks, hK, hA, hSt, hnm, hex⟩ := id F
  intro a1 u0 u1 u2 res hf H locs ls hP hD hS hl
  unfold x_M_tip at hf
  refine lv_aload_n hx hb d_M_tip_0 rfl (lv_at hl 0 rfl) ?_
  refine lv_iload_n hx hb d_M_tip_1 rfl (lv_at hl 1 rfl) ?_
  refine lv_if_lt (tgt := 11) hx hb d_M_tip_2 (by decide) (fun cx => ?_) (fun cx => ?_)
  · have hf := ifp cx hf
    exact wb_M_tip_11 (fu := fu) F _ _ _ _ _ hf _ _ _ hP hD hS (lv_sub hl [0, 1] rfl)
  · have hf := ifn cx hf
    refine lv_iload_n hx hb d_M_tip_5 rfl (lv_at hl 1 rfl) ?_
    refine lv_bipush (v := 11) hx hb d_M_tip_6 (by decide) ?_
    refine lv_icmp_le (tgt := 15) hx hb d_M_tip_8 (by decide) (fun cx => ?_) (fun cx => ?_)
    · have hf := ifp cx hf
      refine lv_iconst (v := 0) hx hb d_M_tip_15 (by decide) ?_
      exact wb_M_tip_16 (fu := fu) F _ _ _ _ _ _ hf _ _ _ hP hD hS (lv_sub hl [0, 1] rfl)
    · have hf := ifn cx hf
      exact wb_M_tip_11 (fu := fu) F _ _ _ _ _ hf _ _ _ hP hD hS (lv_sub hl [0, 1] rfl)
theorem c_M_tip (l : Launch) (D : va_G) (cy : Nat → ClassId) (ad : Nat → Nat) (fu : Nat) (o : Nat) (q : Nat → Nat) (g_parent : Nat → Int32) (g_height : Nat → Int32) (g_time : Nat → Int32) (g_bits : Nat → Int32) (g_bId : Nat → Int32) (a1 : Int32) (u0 : Nat → Int32) (u1 : Nat → Int32) (u2 : Nat → Int32) (res : Int32 × (Nat → Int32) × (Nat → Int32) × (Nat → Int32)) (hf : x_M_tip fu g_parent g_height g_time g_bits g_bId a1 u0 u1 u2 = some res) (sz : Nat) : Met l ({ cls := "CoinKeeperModel", name := "tip", desc := "(I)I" } : Jvm.MethodName) (.code ({ cls := "CoinKeeperModel", name := "tip", desc := "(I)I" } : Jvm.MethodName) b_M_tip 2 (some .int) :: gw) rm_M_tip (va_Pc [.ref o, .int a1] (Pr D cy ad [(o, .inr (12, mo q u0)), ((q 3), .inl (cy 1, 202, .inl g_parent)), ((q 4), .inl (cy 1, 202, .inl g_height)), ((q 5), .inl (cy 1, 202, .inl g_time)), ((q 6), .inl (cy 1, 202, .inl g_bits)), ((q 9), .inl (cy 1, 1616, .inl g_bId)), ((q 38), .inl (cy 1, 8, .inl u1)), ((q 44), .inl (cy 1, 8, .inl u2))] sz)) (q_M_tip D cy (va_A [(o, .inr (12, mo q u0)), ((q 3), .inl (cy 1, 202, .inl g_parent)), ((q 4), .inl (cy 1, 202, .inl g_height)), ((q 5), .inl (cy 1, 202, .inl g_time)), ((q 6), .inl (cy 1, 202, .inl g_bits)), ((q 9), .inl (cy 1, 1616, .inl g_bId)), ((q 38), .inl (cy 1, 8, .inl u1)), ((q 44), .inl (cy 1, 8, .inl u2))] sz) o q g_parent g_height g_time g_bits g_bId res) 0 0 (va_A [(o, .inr (12, mo q u0)), ((q 3), .inl (cy 1, 202, .inl g_parent)), ((q 4), .inl (cy 1, 202, .inl g_height)), ((q 5), .inl (cy 1, 202, .inl g_time)), ((q 6), .inl (cy 1, 202, .inl g_bits)), ((q 9), .inl (cy 1, 1616, .inl g_bId)), ((q 38), .inl (cy 1, 8, .inl u1)), ((q 44), .inl (cy 1, 8, .inl u2))] sz) :=
  q_met (Qc := fun A => q_M_tip D cy A o q g_parent g_height g_time g_bits g_bId res) (by decide) rfl rfl (Nat.le_of_ble_eq_true rfl) (fun p e s m below meth c ls F hP hD hS hl => we_M_tip (fu := fu) F a1 u0 u1 u2 res hf _ _ _ hP hD hS hl) sz
abbrev b_M_placeOf : ByteArray := prog_14_method_74_code
theorem d_M_placeOf_0 : decode b_M_placeOf 0 = .ok (.iload_n 1, 1) := by decide +kernel
theorem d_M_placeOf_1 : decode b_M_placeOf 1 = .ok (.bipush 31, 2) := by decide +kernel
theorem d_M_placeOf_3 : decode b_M_placeOf 3 = .ok (.imul, 1) := by decide +kernel
theorem d_M_placeOf_4 : decode b_M_placeOf 4 = .ok (.iload_n 2, 1) := by decide +kernel
theorem d_M_placeOf_5 : decode b_M_placeOf 5 = .ok (.iadd, 1) := by decide +kernel
theorem d_M_placeOf_6 : decode b_M_placeOf 6 = .ok (.ldc_w 627, 3) := by decide +kernel
theorem d_M_placeOf_9 : decode b_M_placeOf 9 = .ok (.imul, 1) := by decide +kernel
theorem d_M_placeOf_10 : decode b_M_placeOf 10 = .ok (.bipush 17, 2) := by decide +kernel
theorem d_M_placeOf_12 : decode b_M_placeOf 12 = .ok (.iushr, 1) := by decide +kernel
theorem d_M_placeOf_13 : decode b_M_placeOf 13 = .ok (.ireturn, 1) := by decide +kernel
abbrev rm_M_placeOf : Room := { frames := 0, cells := 0, slots := 0, locals := 0 }
abbrev q_M_placeOf (D : va_G) (cy : Nat → ClassId) (A : Nat → Prop) (o : Nat) (q : Nat → Nat) (z : Nat → Int32) (res : Int32) : Array Value → State → Outcome → State → Prop := va_Qi (fun r' (_ : Unit) => r' = res) (fun _ t => Po D cy A [(o, .inr (12, mo q z))] t) A
def I_M_placeOf_e (p : Program) (l : Launch) (e : Env) (s : State) (m : MethodId) (args : Array Value) (below : List Frame) (meth : Method) (c : Code) (D : va_G) (cy : Nat → ClassId) (A : Nat → Prop) (ad : Nat → Nat) (o : Nat) (q : Nat → Nat) (z : Nat → Int32) (k : Int32 → Int32 → Option (Int32)) : Prop :=
  ∀ (a1 : Int32) (a2 : Int32) (res : Int32), k a1 a2 = some res → ∀ (H : Heap) (locs : List Loc) (ls : Array Slot), va_P D classes [(o, .inr (12, mo q z))] H → va_D A [(o, .inr (12, mo q z))] → va_S A s.heap H locs → lv_has ls 3 [(0, .ref o), (1, .int a1), (2, .int a2)] → W p l e rm_M_placeOf s m args below meth c H locs 0 0 (MQ below (q_M_placeOf D cy A o q z res) args s 0 0 A) (F0 m 0 ls [])
set_option maxHeartbeats 8000000 in
set_option maxRecDepth 100000 in
theorem we_M_placeOf {p : Program} {l : Launch} {e : Env} {s : State} {m : MethodId} {args : Array Value} {below : List Frame} {meth : Method} {c : Code} {D : va_G} {cy : Nat → ClassId} {A : Nat → Prop} {ad : Nat → Nat} {o : Nat} {q : Nat → Nat} {z : Nat → Int32} {fu : Nat} (F : Fx p s m args meth c b_M_placeOf 3 "CoinKeeperModel" "placeOf" (some .int) D cy ad A) : I_M_placeOf_e p l e s m args below meth c D cy A ad o q z (x_M_placeOf fu z) := by
  obtain ⟨hx, hb, hr, hml, hown, hts, hlocks, hK, hA, hSt, hnm, hex⟩ := id F
  intro a1 a2 res hf H locs ls hP hD hS hl
  unfold x_M_placeOf at hf
  refine lv_iload_n hx hb d_M_placeOf_0 rfl (lv_at hl 1 rfl) ?_
  refine lv_bipush (v := 31) hx hb d_M_placeOf_1 (by decide) ?_
  refine lv_imul hx hb d_M_placeOf_3 ?_
  refine lv_topi (fun v1 ev => ?_)
  have hf := bn ev hf
  clear ev
  refine lv_iload_n hx hb d_M_placeOf_4 rfl (lv_at hl 2 rfl) ?_
  refine lv_iadd hx hb d_M_placeOf_5 ?_
  refine lv_topi (fun v2 ev => ?_)
  have hf := bn ev hf
  clear ev
  refine lv_ldcw (v := (-1640531535)) hx hb hown (hts _ gw_1857) d_M_placeOf_6 ?_
  refine lv_imul hx hb d_M_placeOf_9 ?_
  refine lv_topi (fun v3 ev => ?_)
  have hf := bn ev hf
  clear ev
  refine lv_bipush (v := 17) hx hb d_M_placeOf_10 (by decide) ?_
  refine lv_iushr hx hb d_M_placeOf_12 rfl ?_
  refine lv_topi (fun v4 ev => ?_)
  have hf := bn ev hf
  clear ev
  obtain rfl := Option.some.inj hf
  exact q_ri hx hb hr hlocks hK hP hD hS d_M_placeOf_13
theorem c_M_placeOf (l : Launch) (D : va_G) (cy : Nat → ClassId) (ad : Nat → Nat) (fu : Nat) (o : Nat) (q : Nat → Nat) (z : Nat → Int32) (a1 : Int32) (a2 : Int32) (res : Int32) (hf : x_M_placeOf fu z a1 a2 = some res) (sz : Nat) : Met l ({ cls := "CoinKeeperModel", name := "placeOf", desc := "(II)I" } : Jvm.MethodName) (.code ({ cls := "CoinKeeperModel", name := "placeOf", desc := "(II)I" } : Jvm.MethodName) b_M_placeOf 3 (some .int) :: gw) rm_M_placeOf (va_Pc [.ref o, .int a1, .int a2] (Pr D cy ad [(o, .inr (12, mo q z))] sz)) (q_M_placeOf D cy (va_A [(o, .inr (12, mo q z))] sz) o q z res) 0 0 (va_A [(o, .inr (12, mo q z))] sz) :=
  q_met (Qc := fun A => q_M_placeOf D cy A o q z res) (by decide) rfl rfl (Nat.le_of_ble_eq_true rfl) (fun p e s m below meth c ls F hP hD hS hl => we_M_placeOf (fu := fu) F a1 a2 res hf _ _ _ hP hD hS hl) sz
abbrev b_M_entry : ByteArray := prog_14_method_75_code
theorem d_M_entry_0 : decode b_M_entry 0 = .ok (.aload_n 0, 1) := by decide +kernel
theorem d_M_entry_1 : decode b_M_entry 1 = .ok (.getfield 111, 3) := by decide +kernel
theorem d_M_entry_4 : decode b_M_entry 4 = .ok (.aload_n 0, 1) := by decide +kernel
theorem d_M_entry_5 : decode b_M_entry 5 = .ok (.aload_n 1, 1) := by decide +kernel
theorem d_M_entry_6 : decode b_M_entry 6 = .ok (.iload_n 2, 1) := by decide +kernel
theorem d_M_entry_7 : decode b_M_entry 7 = .ok (.invokestatic 309, 3) := by decide +kernel
theorem d_M_entry_10 : decode b_M_entry 10 = .ok (.iload_n 3, 1) := by decide +kernel
theorem d_M_entry_11 : decode b_M_entry 11 = .ok (.invokevirtual 628, 3) := by decide +kernel
theorem d_M_entry_14 : decode b_M_entry 14 = .ok (.iaload, 1) := by decide +kernel
theorem d_M_entry_15 : decode b_M_entry 15 = .ok (.istore 4, 2) := by decide +kernel
theorem d_M_entry_17 : decode b_M_entry 17 = .ok (.iload 4, 2) := by decide +kernel
theorem d_M_entry_19 : decode b_M_entry 19 = .ok (.ifCond .lt 129, 3) := by decide +kernel
theorem d_M_entry_22 : decode b_M_entry 22 = .ok (.aload_n 0, 1) := by decide +kernel
theorem d_M_entry_23 : decode b_M_entry 23 = .ok (.getfield 114, 3) := by decide +kernel
theorem d_M_entry_26 : decode b_M_entry 26 = .ok (.iload 4, 2) := by decide +kernel
theorem d_M_entry_28 : decode b_M_entry 28 = .ok (.baload, 1) := by decide +kernel
theorem d_M_entry_29 : decode b_M_entry 29 = .ok (.ifCond .ne 6, 3) := by decide +kernel
theorem d_M_entry_32 : decode b_M_entry 32 = .ok (.goto 104, 3) := by decide +kernel
theorem d_M_entry_35 : decode b_M_entry 35 = .ok (.aload_n 0, 1) := by decide +kernel
theorem d_M_entry_36 : decode b_M_entry 36 = .ok (.getfield 101, 3) := by decide +kernel
theorem d_M_entry_39 : decode b_M_entry 39 = .ok (.iload 4, 2) := by decide +kernel
theorem d_M_entry_41 : decode b_M_entry 41 = .ok (.iaload, 1) := by decide +kernel
theorem d_M_entry_42 : decode b_M_entry 42 = .ok (.istore 5, 2) := by decide +kernel
theorem d_M_entry_44 : decode b_M_entry 44 = .ok (.aload_n 0, 1) := by decide +kernel
theorem d_M_entry_45 : decode b_M_entry 45 = .ok (.getfield 98, 3) := by decide +kernel
theorem d_M_entry_48 : decode b_M_entry 48 = .ok (.iload 5, 2) := by decide +kernel
theorem d_M_entry_50 : decode b_M_entry 50 = .ok (.iaload, 1) := by decide +kernel
theorem d_M_entry_51 : decode b_M_entry 51 = .ok (.istore 6, 2) := by decide +kernel
theorem d_M_entry_53 : decode b_M_entry 53 = .ok (.iload 5, 2) := by decide +kernel
theorem d_M_entry_55 : decode b_M_entry 55 = .ok (.aload_n 0, 1) := by decide +kernel
theorem d_M_entry_56 : decode b_M_entry 56 = .ok (.getfield 64, 3) := by decide +kernel
theorem d_M_entry_59 : decode b_M_entry 59 = .ok (.iload 6, 2) := by decide +kernel
theorem d_M_entry_61 : decode b_M_entry 61 = .ok (.iaload, 1) := by decide +kernel
theorem d_M_entry_62 : decode b_M_entry 62 = .ok (.isub, 1) := by decide +kernel
theorem d_M_entry_63 : decode b_M_entry 63 = .ok (.iload_n 3, 1) := by decide +kernel
theorem d_M_entry_64 : decode b_M_entry 64 = .ok (.if_icmp .ne 7, 3) := by decide +kernel
theorem d_M_entry_67 : decode b_M_entry 67 = .ok (.iconst 1, 1) := by decide +kernel
theorem d_M_entry_68 : decode b_M_entry 68 = .ok (.goto 4, 3) := by decide +kernel
theorem d_M_entry_71 : decode b_M_entry 71 = .ok (.iconst 0, 1) := by decide +kernel
theorem d_M_entry_72 : decode b_M_entry 72 = .ok (.istore 7, 2) := by decide +kernel
theorem d_M_entry_74 : decode b_M_entry 74 = .ok (.iconst 0, 1) := by decide +kernel
theorem d_M_entry_75 : decode b_M_entry 75 = .ok (.istore 8, 2) := by decide +kernel
theorem d_M_entry_77 : decode b_M_entry 77 = .ok (.iload 8, 2) := by decide +kernel
theorem d_M_entry_79 : decode b_M_entry 79 = .ok (.bipush 8, 2) := by decide +kernel
theorem d_M_entry_81 : decode b_M_entry 81 = .ok (.if_icmp .ge 47, 3) := by decide +kernel
theorem d_M_entry_84 : decode b_M_entry 84 = .ok (.iload 7, 2) := by decide +kernel
theorem d_M_entry_86 : decode b_M_entry 86 = .ok (.ifCond .eq 42, 3) := by decide +kernel
theorem d_M_entry_89 : decode b_M_entry 89 = .ok (.aload_n 0, 1) := by decide +kernel
theorem d_M_entry_90 : decode b_M_entry 90 = .ok (.getfield 55, 3) := by decide +kernel
theorem d_M_entry_93 : decode b_M_entry 93 = .ok (.bipush 8, 2) := by decide +kernel
theorem d_M_entry_95 : decode b_M_entry 95 = .ok (.iload 6, 2) := by decide +kernel
theorem d_M_entry_97 : decode b_M_entry 97 = .ok (.imul, 1) := by decide +kernel
theorem d_M_entry_98 : decode b_M_entry 98 = .ok (.iload 8, 2) := by decide +kernel
theorem d_M_entry_100 : decode b_M_entry 100 = .ok (.iadd, 1) := by decide +kernel
theorem d_M_entry_101 : decode b_M_entry 101 = .ok (.iaload, 1) := by decide +kernel
theorem d_M_entry_102 : decode b_M_entry 102 = .ok (.aload_n 1, 1) := by decide +kernel
theorem d_M_entry_103 : decode b_M_entry 103 = .ok (.iload_n 2, 1) := by decide +kernel
theorem d_M_entry_104 : decode b_M_entry 104 = .ok (.iconst 4, 1) := by decide +kernel
theorem d_M_entry_105 : decode b_M_entry 105 = .ok (.iload 8, 2) := by decide +kernel
theorem d_M_entry_107 : decode b_M_entry 107 = .ok (.imul, 1) := by decide +kernel
theorem d_M_entry_108 : decode b_M_entry 108 = .ok (.iadd, 1) := by decide +kernel
theorem d_M_entry_109 : decode b_M_entry 109 = .ok (.invokestatic 309, 3) := by decide +kernel
theorem d_M_entry_112 : decode b_M_entry 112 = .ok (.if_icmp .ne 7, 3) := by decide +kernel
theorem d_M_entry_115 : decode b_M_entry 115 = .ok (.iconst 1, 1) := by decide +kernel
theorem d_M_entry_116 : decode b_M_entry 116 = .ok (.goto 4, 3) := by decide +kernel
theorem d_M_entry_119 : decode b_M_entry 119 = .ok (.iconst 0, 1) := by decide +kernel
theorem d_M_entry_120 : decode b_M_entry 120 = .ok (.istore 7, 2) := by decide +kernel
theorem d_M_entry_122 : decode b_M_entry 122 = .ok (.iinc 8 1, 3) := by decide +kernel
theorem d_M_entry_125 : decode b_M_entry 125 = .ok (.goto (-48), 3) := by decide +kernel
theorem d_M_entry_128 : decode b_M_entry 128 = .ok (.iload 7, 2) := by decide +kernel
theorem d_M_entry_130 : decode b_M_entry 130 = .ok (.ifCond .eq 6, 3) := by decide +kernel
theorem d_M_entry_133 : decode b_M_entry 133 = .ok (.iload 4, 2) := by decide +kernel
theorem d_M_entry_135 : decode b_M_entry 135 = .ok (.ireturn, 1) := by decide +kernel
theorem d_M_entry_136 : decode b_M_entry 136 = .ok (.aload_n 0, 1) := by decide +kernel
theorem d_M_entry_137 : decode b_M_entry 137 = .ok (.getfield 107, 3) := by decide +kernel
theorem d_M_entry_140 : decode b_M_entry 140 = .ok (.iload 4, 2) := by decide +kernel
theorem d_M_entry_142 : decode b_M_entry 142 = .ok (.iaload, 1) := by decide +kernel
theorem d_M_entry_143 : decode b_M_entry 143 = .ok (.istore 4, 2) := by decide +kernel
theorem d_M_entry_145 : decode b_M_entry 145 = .ok (.goto (-128), 3) := by decide +kernel
theorem d_M_entry_148 : decode b_M_entry 148 = .ok (.iconst (-1), 1) := by decide +kernel
theorem d_M_entry_149 : decode b_M_entry 149 = .ok (.ireturn, 1) := by decide +kernel
abbrev rm_M_entry : Room := { frames := 1, cells := 0, slots := 0, locals := 22 }
abbrev q_M_entry (D : va_G) (cy : Nat → ClassId) (A : Nat → Prop) (o : Nat) (q : Nat → Nat) (b1 : Nat) (z : Nat → Int32) (g_tId : Nat → Int32) (g_tOut : Nat → Int32) (g_oTx : Nat → Int32) (g_uOutput : Nat → Int32) (g_uNext : Nat → Int32) (g_chain : Nat → Int32) (g_uIs : Nat → Int32) (n1 : Nat) (h1 : Nat → Int32) (res : Int32) : Array Value → State → Outcome → State → Prop := va_Qi (fun r' (_ : Unit) => r' = res) (fun _ t => Po D cy A [(o, .inr (12, mo q z)), ((q 14), .inl (cy 1, 17600, .inl g_tId)), ((q 17), .inl (cy 1, 2200, .inl g_tOut)), ((q 28), .inl (cy 1, 11600, .inl g_oTx)), ((q 29), .inl (cy 1, 11600, .inl g_uOutput)), ((q 31), .inl (cy 1, 11600, .inl g_uNext)), ((q 32), .inl (cy 1, 32768, .inl g_chain)), ((q 33), .inl (cy 3, 11600, .inl g_uIs)), (b1, .inl (cy 0, n1, .inl h1))] t) A
def I_M_entry_136 (p : Program) (l : Launch) (e : Env) (s : State) (m : MethodId) (args : Array Value) (below : List Frame) (meth : Method) (c : Code) (D : va_G) (cy : Nat → ClassId) (A : Nat → Prop) (ad : Nat → Nat) (o : Nat) (q : Nat → Nat) (b1 : Nat) (z : Nat → Int32) (g_tId : Nat → Int32) (g_tOut : Nat → Int32) (g_oTx : Nat → Int32) (g_uOutput : Nat → Int32) (g_uNext : Nat → Int32) (g_chain : Nat → Int32) (g_uIs : Nat → Int32) (n1 : Nat) (h1 : Nat → Int32) (k : Int32 → Int32 → Int32 → Option (Int32)) : Prop :=
  ∀ (x2 : Int32) (x3 : Int32) (x4 : Int32) (res : Int32), k x2 x3 x4 = some res → ∀ (H : Heap) (locs : List Loc) (ls : Array Slot), va_P D classes [(o, .inr (12, mo q z)), ((q 14), .inl (cy 1, 17600, .inl g_tId)), ((q 17), .inl (cy 1, 2200, .inl g_tOut)), ((q 28), .inl (cy 1, 11600, .inl g_oTx)), ((q 29), .inl (cy 1, 11600, .inl g_uOutput)), ((q 31), .inl (cy 1, 11600, .inl g_uNext)), ((q 32), .inl (cy 1, 32768, .inl g_chain)), ((q 33), .inl (cy 3, 11600, .inl g_uIs)), (b1, .inl (cy 0, n1, .inl h1))] H → va_D A [(o, .inr (12, mo q z)), ((q 14), .inl (cy 1, 17600, .inl g_tId)), ((q 17), .inl (cy 1, 2200, .inl g_tOut)), ((q 28), .inl (cy 1, 11600, .inl g_oTx)), ((q 29), .inl (cy 1, 11600, .inl g_uOutput)), ((q 31), .inl (cy 1, 11600, .inl g_uNext)), ((q 32), .inl (cy 1, 32768, .inl g_chain)), ((q 33), .inl (cy 3, 11600, .inl g_uIs)), (b1, .inl (cy 0, n1, .inl h1))] → va_S A s.heap H locs → lv_has ls 9 [(0, .ref o), (1, .ref b1), (2, .int x2), (3, .int x3), (4, .int x4)] → W p l e rm_M_entry s m args below meth c H locs 0 0 (MQ below (q_M_entry D cy A o q b1 z g_tId g_tOut g_oTx g_uOutput g_uNext g_chain g_uIs n1 h1 res) args s 0 0 A) (F0 m 136 ls [])
def I_M_entry_128 (p : Program) (l : Launch) (e : Env) (s : State) (m : MethodId) (args : Array Value) (below : List Frame) (meth : Method) (c : Code) (D : va_G) (cy : Nat → ClassId) (A : Nat → Prop) (ad : Nat → Nat) (o : Nat) (q : Nat → Nat) (b1 : Nat) (z : Nat → Int32) (g_tId : Nat → Int32) (g_tOut : Nat → Int32) (g_oTx : Nat → Int32) (g_uOutput : Nat → Int32) (g_uNext : Nat → Int32) (g_chain : Nat → Int32) (g_uIs : Nat → Int32) (n1 : Nat) (h1 : Nat → Int32) (k : Int32 → Int32 → Int32 → Int32 → Option (Int32)) : Prop :=
  ∀ (x2 : Int32) (x3 : Int32) (x4 : Int32) (x7 : Int32) (res : Int32), k x2 x3 x4 x7 = some res → ∀ (H : Heap) (locs : List Loc) (ls : Array Slot), va_P D classes [(o, .inr (12, mo q z)), ((q 14), .inl (cy 1, 17600, .inl g_tId)), ((q 17), .inl (cy 1, 2200, .inl g_tOut)), ((q 28), .inl (cy 1, 11600, .inl g_oTx)), ((q 29), .inl (cy 1, 11600, .inl g_uOutput)), ((q 31), .inl (cy 1, 11600, .inl g_uNext)), ((q 32), .inl (cy 1, 32768, .inl g_chain)), ((q 33), .inl (cy 3, 11600, .inl g_uIs)), (b1, .inl (cy 0, n1, .inl h1))] H → va_D A [(o, .inr (12, mo q z)), ((q 14), .inl (cy 1, 17600, .inl g_tId)), ((q 17), .inl (cy 1, 2200, .inl g_tOut)), ((q 28), .inl (cy 1, 11600, .inl g_oTx)), ((q 29), .inl (cy 1, 11600, .inl g_uOutput)), ((q 31), .inl (cy 1, 11600, .inl g_uNext)), ((q 32), .inl (cy 1, 32768, .inl g_chain)), ((q 33), .inl (cy 3, 11600, .inl g_uIs)), (b1, .inl (cy 0, n1, .inl h1))] → va_S A s.heap H locs → lv_has ls 9 [(0, .ref o), (1, .ref b1), (2, .int x2), (3, .int x3), (4, .int x4), (7, .int x7)] → W p l e rm_M_entry s m args below meth c H locs 0 0 (MQ below (q_M_entry D cy A o q b1 z g_tId g_tOut g_oTx g_uOutput g_uNext g_chain g_uIs n1 h1 res) args s 0 0 A) (F0 m 128 ls [])
def I_M_entry_120 (p : Program) (l : Launch) (e : Env) (s : State) (m : MethodId) (args : Array Value) (below : List Frame) (meth : Method) (c : Code) (D : va_G) (cy : Nat → ClassId) (A : Nat → Prop) (ad : Nat → Nat) (o : Nat) (q : Nat → Nat) (b1 : Nat) (z : Nat → Int32) (g_tId : Nat → Int32) (g_tOut : Nat → Int32) (g_oTx : Nat → Int32) (g_uOutput : Nat → Int32) (g_uNext : Nat → Int32) (g_chain : Nat → Int32) (g_uIs : Nat → Int32) (n1 : Nat) (h1 : Nat → Int32) (k : Int32 → Int32 → Int32 → Int32 → Int32 → Int32 → Option (Int32)) : Prop :=
  ∀ (x2 : Int32) (x3 : Int32) (x4 : Int32) (x6 : Int32) (x8 : Int32) (y0 : Int32) (res : Int32), k x2 x3 x4 x6 x8 y0 = some res → ∀ (H : Heap) (locs : List Loc) (ls : Array Slot), va_P D classes [(o, .inr (12, mo q z)), ((q 14), .inl (cy 1, 17600, .inl g_tId)), ((q 17), .inl (cy 1, 2200, .inl g_tOut)), ((q 28), .inl (cy 1, 11600, .inl g_oTx)), ((q 29), .inl (cy 1, 11600, .inl g_uOutput)), ((q 31), .inl (cy 1, 11600, .inl g_uNext)), ((q 32), .inl (cy 1, 32768, .inl g_chain)), ((q 33), .inl (cy 3, 11600, .inl g_uIs)), (b1, .inl (cy 0, n1, .inl h1))] H → va_D A [(o, .inr (12, mo q z)), ((q 14), .inl (cy 1, 17600, .inl g_tId)), ((q 17), .inl (cy 1, 2200, .inl g_tOut)), ((q 28), .inl (cy 1, 11600, .inl g_oTx)), ((q 29), .inl (cy 1, 11600, .inl g_uOutput)), ((q 31), .inl (cy 1, 11600, .inl g_uNext)), ((q 32), .inl (cy 1, 32768, .inl g_chain)), ((q 33), .inl (cy 3, 11600, .inl g_uIs)), (b1, .inl (cy 0, n1, .inl h1))] → va_S A s.heap H locs → lv_has ls 9 [(0, .ref o), (1, .ref b1), (2, .int x2), (3, .int x3), (4, .int x4), (6, .int x6), (8, .int x8)] → W p l e rm_M_entry s m args below meth c H locs 0 0 (MQ below (q_M_entry D cy A o q b1 z g_tId g_tOut g_oTx g_uOutput g_uNext g_chain g_uIs n1 h1 res) args s 0 0 A) (F0 m 120 ls [.int y0])
def I_M_entry_77 (p : Program) (l : Launch) (e : Env) (s : State) (m : MethodId) (args : Array Value) (below : List Frame) (meth : Method) (c : Code) (D : va_G) (cy : Nat → ClassId) (A : Nat → Prop) (ad : Nat → Nat) (o : Nat) (q : Nat → Nat) (b1 : Nat) (z : Nat → Int32) (g_tId : Nat → Int32) (g_tOut : Nat → Int32) (g_oTx : Nat → Int32) (g_uOutput : Nat → Int32) (g_uNext : Nat → Int32) (g_chain : Nat → Int32) (g_uIs : Nat → Int32) (n1 : Nat) (h1 : Nat → Int32) (k : Int32 → Int32 → Int32 → Int32 → Int32 → Int32 → Option (Int32)) : Prop :=
  ∀ (x2 : Int32) (x3 : Int32) (x4 : Int32) (x6 : Int32) (x7 : Int32) (x8 : Int32) (res : Int32), k x2 x3 x4 x6 x7 x8 = some res → ∀ (H : Heap) (locs : List Loc) (ls : Array Slot), va_P D classes [(o, .inr (12, mo q z)), ((q 14), .inl (cy 1, 17600, .inl g_tId)), ((q 17), .inl (cy 1, 2200, .inl g_tOut)), ((q 28), .inl (cy 1, 11600, .inl g_oTx)), ((q 29), .inl (cy 1, 11600, .inl g_uOutput)), ((q 31), .inl (cy 1, 11600, .inl g_uNext)), ((q 32), .inl (cy 1, 32768, .inl g_chain)), ((q 33), .inl (cy 3, 11600, .inl g_uIs)), (b1, .inl (cy 0, n1, .inl h1))] H → va_D A [(o, .inr (12, mo q z)), ((q 14), .inl (cy 1, 17600, .inl g_tId)), ((q 17), .inl (cy 1, 2200, .inl g_tOut)), ((q 28), .inl (cy 1, 11600, .inl g_oTx)), ((q 29), .inl (cy 1, 11600, .inl g_uOutput)), ((q 31), .inl (cy 1, 11600, .inl g_uNext)), ((q 32), .inl (cy 1, 32768, .inl g_chain)), ((q 33), .inl (cy 3, 11600, .inl g_uIs)), (b1, .inl (cy 0, n1, .inl h1))] → va_S A s.heap H locs → lv_has ls 9 [(0, .ref o), (1, .ref b1), (2, .int x2), (3, .int x3), (4, .int x4), (6, .int x6), (7, .int x7), (8, .int x8)] → W p l e rm_M_entry s m args below meth c H locs 0 0 (MQ below (q_M_entry D cy A o q b1 z g_tId g_tOut g_oTx g_uOutput g_uNext g_chain g_uIs n1 h1 res) args s 0 0 A) (F0 m 77 ls [])
def I_M_entry_72 (p : Program) (l : Launch) (e : Env) (s : State) (m : MethodId) (args : Array Value) (below : List Frame) (meth : Method) (c : Code) (D : va_G) (cy : Nat → ClassId) (A : Nat → Prop) (ad : Nat → Nat) (o : Nat) (q : Nat → Nat) (b1 : Nat) (z : Nat → Int32) (g_tId : Nat → Int32) (g_tOut : Nat → Int32) (g_oTx : Nat → Int32) (g_uOutput : Nat → Int32) (g_uNext : Nat → Int32) (g_chain : Nat → Int32) (g_uIs : Nat → Int32) (n1 : Nat) (h1 : Nat → Int32) (k : Int32 → Int32 → Int32 → Int32 → Int32 → Option (Int32)) : Prop :=
  ∀ (x2 : Int32) (x3 : Int32) (x4 : Int32) (x6 : Int32) (y0 : Int32) (res : Int32), k x2 x3 x4 x6 y0 = some res → ∀ (H : Heap) (locs : List Loc) (ls : Array Slot), va_P D classes [(o, .inr (12, mo q z)), ((q 14), .inl (cy 1, 17600, .inl g_tId)), ((q 17), .inl (cy 1, 2200, .inl g_tOut)), ((q 28), .inl (cy 1, 11600, .inl g_oTx)), ((q 29), .inl (cy 1, 11600, .inl g_uOutput)), ((q 31), .inl (cy 1, 11600, .inl g_uNext)), ((q 32), .inl (cy 1, 32768, .inl g_chain)), ((q 33), .inl (cy 3, 11600, .inl g_uIs)), (b1, .inl (cy 0, n1, .inl h1))] H → va_D A [(o, .inr (12, mo q z)), ((q 14), .inl (cy 1, 17600, .inl g_tId)), ((q 17), .inl (cy 1, 2200, .inl g_tOut)), ((q 28), .inl (cy 1, 11600, .inl g_oTx)), ((q 29), .inl (cy 1, 11600, .inl g_uOutput)), ((q 31), .inl (cy 1, 11600, .inl g_uNext)), ((q 32), .inl (cy 1, 32768, .inl g_chain)), ((q 33), .inl (cy 3, 11600, .inl g_uIs)), (b1, .inl (cy 0, n1, .inl h1))] → va_S A s.heap H locs → lv_has ls 9 [(0, .ref o), (1, .ref b1), (2, .int x2), (3, .int x3), (4, .int x4), (6, .int x6)] → W p l e rm_M_entry s m args below meth c H locs 0 0 (MQ below (q_M_entry D cy A o q b1 z g_tId g_tOut g_oTx g_uOutput g_uNext g_chain g_uIs n1 h1 res) args s 0 0 A) (F0 m 72 ls [.int y0])
def I_M_entry_17 (p : Program) (l : Launch) (e : Env) (s : State) (m : MethodId) (args : Array Value) (below : List Frame) (meth : Method) (c : Code) (D : va_G) (cy : Nat → ClassId) (A : Nat → Prop) (ad : Nat → Nat) (o : Nat) (q : Nat → Nat) (b1 : Nat) (z : Nat → Int32) (g_tId : Nat → Int32) (g_tOut : Nat → Int32) (g_oTx : Nat → Int32) (g_uOutput : Nat → Int32) (g_uNext : Nat → Int32) (g_chain : Nat → Int32) (g_uIs : Nat → Int32) (n1 : Nat) (h1 : Nat → Int32) (k : Int32 → Int32 → Int32 → Option (Int32)) : Prop :=
  ∀ (x2 : Int32) (x3 : Int32) (x4 : Int32) (res : Int32), k x2 x3 x4 = some res → ∀ (H : Heap) (locs : List Loc) (ls : Array Slot), va_P D classes [(o, .inr (12, mo q z)), ((q 14), .inl (cy 1, 17600, .inl g_tId)), ((q 17), .inl (cy 1, 2200, .inl g_tOut)), ((q 28), .inl (cy 1, 11600, .inl g_oTx)), ((q 29), .inl (cy 1, 11600, .inl g_uOutput)), ((q 31), .inl (cy 1, 11600, .inl g_uNext)), ((q 32), .inl (cy 1, 32768, .inl g_chain)), ((q 33), .inl (cy 3, 11600, .inl g_uIs)), (b1, .inl (cy 0, n1, .inl h1))] H → va_D A [(o, .inr (12, mo q z)), ((q 14), .inl (cy 1, 17600, .inl g_tId)), ((q 17), .inl (cy 1, 2200, .inl g_tOut)), ((q 28), .inl (cy 1, 11600, .inl g_oTx)), ((q 29), .inl (cy 1, 11600, .inl g_uOutput)), ((q 31), .inl (cy 1, 11600, .inl g_uNext)), ((q 32), .inl (cy 1, 32768, .inl g_chain)), ((q 33), .inl (cy 3, 11600, .inl g_uIs)), (b1, .inl (cy 0, n1, .inl h1))] → va_S A s.heap H locs → lv_has ls 9 [(0, .ref o), (1, .ref b1), (2, .int x2), (3, .int x3), (4, .int x4)] → W p l e rm_M_entry s m args below meth c H locs 0 0 (MQ below (q_M_entry D cy A o q b1 z g_tId g_tOut g_oTx g_uOutput g_uNext g_chain g_uIs n1 h1 res) args s 0 0 A) (F0 m 17 ls [])
def I_M_entry_e (p : Program) (l : Launch) (e : Env) (s : State) (m : MethodId) (args : Array Value) (below : List Frame) (meth : Method) (c : Code) (D : va_G) (cy : Nat → ClassId) (A : Nat → Prop) (ad : Nat → Nat) (o : Nat) (q : Nat → Nat) (b1 : Nat) (z : Nat → Int32) (g_tId : Nat → Int32) (g_tOut : Nat → Int32) (g_oTx : Nat → Int32) (g_uOutput : Nat → Int32) (g_uNext : Nat → Int32) (g_chain : Nat → Int32) (g_uIs : Nat → Int32) (n1 : Nat) (h1 : Nat → Int32) (k : Int32 → Int32 → Option (Int32)) : Prop :=
  ∀ (a2 : Int32) (a3 : Int32) (res : Int32), k a2 a3 = some res → ∀ (H : Heap) (locs : List Loc) (ls : Array Slot), va_P D classes [(o, .inr (12, mo q z)), ((q 14), .inl (cy 1, 17600, .inl g_tId)), ((q 17), .inl (cy 1, 2200, .inl g_tOut)), ((q 28), .inl (cy 1, 11600, .inl g_oTx)), ((q 29), .inl (cy 1, 11600, .inl g_uOutput)), ((q 31), .inl (cy 1, 11600, .inl g_uNext)), ((q 32), .inl (cy 1, 32768, .inl g_chain)), ((q 33), .inl (cy 3, 11600, .inl g_uIs)), (b1, .inl (cy 0, n1, .inl h1))] H → va_D A [(o, .inr (12, mo q z)), ((q 14), .inl (cy 1, 17600, .inl g_tId)), ((q 17), .inl (cy 1, 2200, .inl g_tOut)), ((q 28), .inl (cy 1, 11600, .inl g_oTx)), ((q 29), .inl (cy 1, 11600, .inl g_uOutput)), ((q 31), .inl (cy 1, 11600, .inl g_uNext)), ((q 32), .inl (cy 1, 32768, .inl g_chain)), ((q 33), .inl (cy 3, 11600, .inl g_uIs)), (b1, .inl (cy 0, n1, .inl h1))] → va_S A s.heap H locs → lv_has ls 9 [(0, .ref o), (1, .ref b1), (2, .int a2), (3, .int a3)] → W p l e rm_M_entry s m args below meth c H locs 0 0 (MQ below (q_M_entry D cy A o q b1 z g_tId g_tOut g_oTx g_uOutput g_uNext g_chain g_uIs n1 h1 res) args s 0 0 A) (F0 m 0 ls [])
set_option maxHeartbeats 8000000 in
set_option maxRecDepth 100000 in
theorem wb_M_entry_136 {p : Program} {l : Launch} {e : Env} {s : State} {m : MethodId} {args : Array Value} {below : List Frame} {meth : Method} {c : Code} {D : va_G} {cy : Nat → ClassId} {A : Nat → Prop} {ad : Nat → Nat} {o : Nat} {q : Nat → Nat} {b1 : Nat} {z : Nat → Int32} {g_tId : Nat → Int32} {g_tOut : Nat → Int32} {g_oTx : Nat → Int32} {g_uOutput : Nat → Int32} {g_uNext : Nat → Int32} {g_chain : Nat → Int32} {g_uIs : Nat → Int32} {n1 : Nat} {h1 : Nat → Int32} {fu : Nat} {k_17 : Int32 → Int32 → Int32 → Option (Int32)} (F : Fx p s m args meth c b_M_entry 9 "CoinKeeperModel" "entry" (some .int) D cy ad A) (hk_17 : I_M_entry_17 p l e s m args below meth c D cy A ad o q b1 z g_tId g_tOut g_oTx g_uOutput g_uNext g_chain g_uIs n1 h1 k_17) : I_M_entry_136 p l e s m args below meth c D cy A ad o q b1 z g_tId g_tOut g_oTx g_uOutput g_uNext g_chain g_uIs n1 h1 (xb_M_entry_136 fu z g_tId g_tOut g_oTx g_uOutput g_uNext g_chain g_uIs n1 h1 k_17) := by
  obtain ⟨hx, hb, hr, hml, hown, hts, hlocks, hK, hA, hSt, hnm, hex⟩ := id F
  intro x2 x3 x4 res hf H locs ls hP hD hS hl
  unfold xb_M_entry_136 at hf
  refine lv_aload_n hx hb d_M_entry_136 rfl (lv_at hl 0 rfl) ?_
  refine va_get (D := D) (ci := 12) (v := .ref (q 31)) (C := "CoinKeeperModel") (T := F_12) (N := 98) hx hb hts i_12 hown hK hP 0 rfl rfl 39 (by decide) (hts _ gw_1458) (fun _ h9 => h9) rfl d_M_entry_137 ?_
  refine lv_iload hx hb d_M_entry_140 (lv_at hl 4 rfl) ?_
  obtain ⟨hg, hf⟩ := gdp hf
  refine va_iald hx hb hK hP 5 1 rfl rfl (inb_in hg) d_M_entry_142 ?_
  refine lv_topi (fun v1 ev => ?_)
  have hf := bn ev hf
  clear ev
  refine lv_istore (lv' := [(4, .int v1), (0, .ref o), (1, .ref b1), (2, .int x2), (3, .int x3)]) hx hb d_M_entry_143 hl (by decide) rfl (fun ls hl => ?_)
  refine lv_goto (tgt := 17) hx hb d_M_entry_145 (by decide) ?_
  exact hk_17 _ _ _ _ hf _ _ _ hP hD hS (lv_sub hl [1, 2, 3, 4, 0] rfl)
set_option maxHeartbeats 8000000 in
set_option maxRecDepth 100000 in
theorem wb_M_entry_128 {p : Program} {l : Launch} {e : Env} {s : State} {m : MethodId} {args : Array Value} {below : List Frame} {meth : Method} {c : Code} {D : va_G} {cy : Nat → ClassId} {A : Nat → Prop} {ad : Nat → Nat} {o : Nat} {q : Nat → Nat} {b1 : Nat} {z : Nat → Int32} {g_tId : Nat → Int32} {g_tOut : Nat → Int32} {g_oTx : Nat → Int32} {g_uOutput : Nat → Int32} {g_uNext : Nat → Int32} {g_chain : Nat → Int32} {g_uIs : Nat → Int32} {n1 : Nat} {h1 : Nat → Int32} {fu : Nat} {k_17 : Int32 → Int32 → Int32 → Option (Int32)} (F : Fx p s m args meth c b_M_entry 9 "CoinKeeperModel" "entry" (some .int) D cy ad A) (hk_17 : I_M_entry_17 p l e s m args below meth c D cy A ad o q b1 z g_tId g_tOut g_oTx g_uOutput g_uNext g_chain g_uIs n1 h1 k_17) : I_M_entry_128 p l e s m args below meth c D cy A ad o q b1 z g_tId g_tOut g_oTx g_uOutput g_uNext g_chain g_uIs n1 h1 (xb_M_entry_128 fu z g_tId g_tOut g_oTx g_uOutput g_uNext g_chain g_uIs n1 h1 k_17) := by
  obtain ⟨hx, hb, hr, hml, hown, hts, hlocks, hK, hA, hSt, hnm, hex⟩ := id F
  intro x2 x3 x4 x7 res hf H locs ls hP hD hS hl
  unfold xb_M_entry_128 at hf
  refine lv_iload hx hb d_M_entry_128 (lv_at hl 5 rfl) ?_
  refine lv_if_eq (tgt := 136) hx hb d_M_entry_130 (by decide) (fun cx => ?_) (fun cx => ?_)
  · have hf := ifp cx hf
    exact wb_M_entry_136 (fu := fu) F hk_17 _ _ _ _ hf _ _ _ hP hD hS (lv_sub hl [0, 1, 2, 3, 4] rfl)
  · have hf := ifn cx hf
    refine lv_iload hx hb d_M_entry_133 (lv_at hl 4 rfl) ?_
    obtain rfl := Option.some.inj hf
    exact q_ri hx hb hr hlocks hK hP hD hS d_M_entry_135
set_option maxHeartbeats 8000000 in
set_option maxRecDepth 100000 in
theorem wb_M_entry_120 {p : Program} {l : Launch} {e : Env} {s : State} {m : MethodId} {args : Array Value} {below : List Frame} {meth : Method} {c : Code} {D : va_G} {cy : Nat → ClassId} {A : Nat → Prop} {ad : Nat → Nat} {o : Nat} {q : Nat → Nat} {b1 : Nat} {z : Nat → Int32} {g_tId : Nat → Int32} {g_tOut : Nat → Int32} {g_oTx : Nat → Int32} {g_uOutput : Nat → Int32} {g_uNext : Nat → Int32} {g_chain : Nat → Int32} {g_uIs : Nat → Int32} {n1 : Nat} {h1 : Nat → Int32} {fu : Nat} {k_17 : Int32 → Int32 → Int32 → Option (Int32)} {k_77 : Int32 → Int32 → Int32 → Int32 → Int32 → Int32 → Option (Int32)} (F : Fx p s m args meth c b_M_entry 9 "CoinKeeperModel" "entry" (some .int) D cy ad A) (hk_17 : I_M_entry_17 p l e s m args below meth c D cy A ad o q b1 z g_tId g_tOut g_oTx g_uOutput g_uNext g_chain g_uIs n1 h1 k_17) (hk_77 : I_M_entry_77 p l e s m args below meth c D cy A ad o q b1 z g_tId g_tOut g_oTx g_uOutput g_uNext g_chain g_uIs n1 h1 k_77) : I_M_entry_120 p l e s m args below meth c D cy A ad o q b1 z g_tId g_tOut g_oTx g_uOutput g_uNext g_chain g_uIs n1 h1 (xb_M_entry_120 fu z g_tId g_tOut g_oTx g_uOutput g_uNext g_chain g_uIs n1 h1 k_17 k_77) := by
  obtain ⟨hx, hb, hr, hml, hown, hts, hlocks, hK, hA, hSt, hnm, hex⟩ := id F
  intro x2 x3 x4 x6 x8 y0 res hf H locs ls hP hD hS hl
  unfold xb_M_entry_120 at hf
  refine lv_istore (lv' := [(7, .int y0), (0, .ref o), (1, .ref b1), (2, .int x2), (3, .int x3), (4, .int x4), (6, .int x6), (8, .int x8)]) hx hb d_M_entry_120 hl (by decide) rfl (fun ls hl => ?_)
  obtain ⟨v1, ev, hf⟩ := bne hf
  refine lv_iinc (v := v1) (lv' := [(8, .int v1), (7, .int y0), (0, .ref o), (1, .ref b1), (2, .int x2), (3, .int x3), (4, .int x4), (6, .int x6)]) hx hb d_M_entry_122 hl (k := 7) rfl (by rw [ev]; rfl) (by decide) rfl (fun ls hl => ?_)
  clear ev
  refine lv_goto (tgt := 77) hx hb d_M_entry_125 (by decide) ?_
  exact hk_77 _ _ _ _ _ _ _ hf _ _ _ hP hD hS (lv_sub hl [2, 3, 4, 5, 6, 7, 1, 0] rfl)
set_option maxHeartbeats 8000000 in
set_option maxRecDepth 100000 in
theorem wb_M_entry_77 {p : Program} {l : Launch} {e : Env} {s : State} {m : MethodId} {args : Array Value} {below : List Frame} {meth : Method} {c : Code} {D : va_G} {cy : Nat → ClassId} {A : Nat → Prop} {ad : Nat → Nat} {o : Nat} {q : Nat → Nat} {b1 : Nat} {z : Nat → Int32} {g_tId : Nat → Int32} {g_tOut : Nat → Int32} {g_oTx : Nat → Int32} {g_uOutput : Nat → Int32} {g_uNext : Nat → Int32} {g_chain : Nat → Int32} {g_uIs : Nat → Int32} {n1 : Nat} {h1 : Nat → Int32} {fu : Nat} {k_17 : Int32 → Int32 → Int32 → Option (Int32)} {k_77 : Int32 → Int32 → Int32 → Int32 → Int32 → Int32 → Option (Int32)} (F : Fx p s m args meth c b_M_entry 9 "CoinKeeperModel" "entry" (some .int) D cy ad A) (hk_17 : I_M_entry_17 p l e s m args below meth c D cy A ad o q b1 z g_tId g_tOut g_oTx g_uOutput g_uNext g_chain g_uIs n1 h1 k_17) (hk_77 : I_M_entry_77 p l e s m args below meth c D cy A ad o q b1 z g_tId g_tOut g_oTx g_uOutput g_uNext g_chain g_uIs n1 h1 k_77) : I_M_entry_77 p l e s m args below meth c D cy A ad o q b1 z g_tId g_tOut g_oTx g_uOutput g_uNext g_chain g_uIs n1 h1 (xb_M_entry_77 fu z g_tId g_tOut g_oTx g_uOutput g_uNext g_chain g_uIs n1 h1 k_17 k_77) := by
  obtain ⟨hx, hb, hr, hml, hown, hts, hlocks, hK, hA, hSt, hnm, hex⟩ := id F
  intro x2 x3 x4 x6 x7 x8 res hf H locs ls hP hD hS hl
  unfold xb_M_entry_77 at hf
  refine lv_iload hx hb d_M_entry_77 (lv_at hl 7 rfl) ?_
  refine lv_bipush (v := 8) hx hb d_M_entry_79 (by decide) ?_
  refine lv_icmp_ge (tgt := 128) hx hb d_M_entry_81 (by decide) (fun cx => ?_) (fun cx => ?_)
  · have hf := ifp cx hf
    exact wb_M_entry_128 (fu := fu) F hk_17 _ _ _ _ _ hf _ _ _ hP hD hS (lv_sub hl [0, 1, 2, 3, 4, 6] rfl)
  · have hf := ifn cx hf
    refine lv_iload hx hb d_M_entry_84 (lv_at hl 6 rfl) ?_
    refine lv_if_eq (tgt := 128) hx hb d_M_entry_86 (by decide) (fun cx => ?_) (fun cx => ?_)
    · have hf := ifp cx hf
      exact wb_M_entry_128 (fu := fu) F hk_17 _ _ _ _ _ hf _ _ _ hP hD hS (lv_sub hl [0, 1, 2, 3, 4, 6] rfl)
    · have hf := ifn cx hf
      refine lv_aload_n hx hb d_M_entry_89 rfl (lv_at hl 0 rfl) ?_
      refine va_get (D := D) (ci := 12) (v := .ref (q 14)) (C := "CoinKeeperModel") (T := F_12) (N := 98) hx hb hts i_12 hown hK hP 0 rfl rfl 19 (by decide) (hts _ gw_1438) (fun _ h9 => h9) rfl d_M_entry_90 ?_
      refine lv_bipush (v := 8) hx hb d_M_entry_93 (by decide) ?_
      refine lv_iload hx hb d_M_entry_95 (lv_at hl 5 rfl) ?_
      refine lv_imul hx hb d_M_entry_97 ?_
      refine lv_topi (fun v1 ev => ?_)
      have hf := bn ev hf
      clear ev
      refine lv_iload hx hb d_M_entry_98 (lv_at hl 7 rfl) ?_
      refine lv_iadd hx hb d_M_entry_100 ?_
      refine lv_topi (fun v2 ev => ?_)
      have hf := bn ev hf
      clear ev
      obtain ⟨hg, hf⟩ := gdp hf
      refine va_iald hx hb hK hP 1 1 rfl rfl (inb_in hg) d_M_entry_101 ?_
      refine lv_topi (fun v3 ev => ?_)
      have hf := bn ev hf
      clear ev
      refine lv_aload_n hx hb d_M_entry_102 rfl (lv_at hl 1 rfl) ?_
      refine lv_iload_n hx hb d_M_entry_103 rfl (lv_at hl 2 rfl) ?_
      refine lv_iconst (v := 4) hx hb d_M_entry_104 (by decide) ?_
      refine lv_iload hx hb d_M_entry_105 (lv_at hl 7 rfl) ?_
      refine lv_imul hx hb d_M_entry_107 ?_
      refine lv_iadd hx hb d_M_entry_108 ?_
      refine lv_topi (fun v4 ev => ?_)
      have hf := bn ev hf
      clear ev
      obtain ⟨v5, hc, hf⟩ := bdp1 hf
      refine q_ai (wr := [(o, .inr (12, mo q z)), ((q 14), .inl (cy 1, 17600, .inl g_tId)), ((q 17), .inl (cy 1, 2200, .inl g_tOut)), ((q 28), .inl (cy 1, 11600, .inl g_oTx)), ((q 29), .inl (cy 1, 11600, .inl g_uOutput)), ((q 31), .inl (cy 1, 11600, .inl g_uNext)), ((q 32), .inl (cy 1, 32768, .inl g_chain)), ((q 33), .inl (cy 3, 11600, .inl g_uIs))]) (va_runS (As := [.ref b1, .int v4]) (rest := [.int v3]) ⟨hx, hb, hml, hown, hts⟩ (c_M_small l D cy ad fu b1 n1 h1 v4 _ hc H.size) ⟨q_cB hts gw_1779 gw_18 gw_1777 hdm_4 ⟨by decide, by decide⟩, hts _ gw_1778⟩ (q_pre (hP.sub [8] rfl) (hD.sub [8] (by decide) rfl) hK hSt hS (va_free hD hS hA [8] rfl) _) rfl rfl hl.1 rfl (lv_room (Nat.le_of_ble_eq_true rfl)) d_M_entry_109 ⟨Nat.le_of_ble_eq_true rfl, Nat.le_of_ble_eq_true rfl⟩) hP hD hS hA [8] [0, 1, 2, 3, 4, 5, 6, 7] rfl rfl (by decide) (by decide) (fun H locs hP hD hS => ?_)
      clear hc
      have hP : va_P D classes [(o, .inr (12, mo q z)), ((q 14), .inl (cy 1, 17600, .inl g_tId)), ((q 17), .inl (cy 1, 2200, .inl g_tOut)), ((q 28), .inl (cy 1, 11600, .inl g_oTx)), ((q 29), .inl (cy 1, 11600, .inl g_uOutput)), ((q 31), .inl (cy 1, 11600, .inl g_uNext)), ((q 32), .inl (cy 1, 32768, .inl g_chain)), ((q 33), .inl (cy 3, 11600, .inl g_uIs)), (b1, .inl (cy 0, n1, .inl h1))] H := hP
      have hD : va_D A [(o, .inr (12, mo q z)), ((q 14), .inl (cy 1, 17600, .inl g_tId)), ((q 17), .inl (cy 1, 2200, .inl g_tOut)), ((q 28), .inl (cy 1, 11600, .inl g_oTx)), ((q 29), .inl (cy 1, 11600, .inl g_uOutput)), ((q 31), .inl (cy 1, 11600, .inl g_uNext)), ((q 32), .inl (cy 1, 32768, .inl g_chain)), ((q 33), .inl (cy 3, 11600, .inl g_uIs)), (b1, .inl (cy 0, n1, .inl h1))] := hD
      refine lv_icmp_ne (tgt := 119) hx hb d_M_entry_112 (by decide) (fun cx => ?_) (fun cx => ?_)
      · have hf := ifn cx hf
        refine lv_iconst (v := 0) hx hb d_M_entry_119 (by decide) ?_
        exact wb_M_entry_120 (fu := fu) F hk_17 hk_77 _ _ _ _ _ _ _ hf _ _ _ hP hD hS (lv_sub hl [0, 1, 2, 3, 4, 5, 7] rfl)
      · have hf := ifp cx hf
        refine lv_iconst (v := 1) hx hb d_M_entry_115 (by decide) ?_
        refine lv_goto (tgt := 120) hx hb d_M_entry_116 (by decide) ?_
        exact wb_M_entry_120 (fu := fu) F hk_17 hk_77 _ _ _ _ _ _ _ hf _ _ _ hP hD hS (lv_sub hl [0, 1, 2, 3, 4, 5, 7] rfl)
theorem w_M_entry_77 {p : Program} {l : Launch} {e : Env} {s : State} {m : MethodId} {args : Array Value} {below : List Frame} {meth : Method} {c : Code} {D : va_G} {cy : Nat → ClassId} {A : Nat → Prop} {ad : Nat → Nat} {o : Nat} {q : Nat → Nat} {b1 : Nat} {z : Nat → Int32} {g_tId : Nat → Int32} {g_tOut : Nat → Int32} {g_oTx : Nat → Int32} {g_uOutput : Nat → Int32} {g_uNext : Nat → Int32} {g_chain : Nat → Int32} {g_uIs : Nat → Int32} {n1 : Nat} {h1 : Nat → Int32} {fu : Nat} {k_17 : Int32 → Int32 → Int32 → Option (Int32)} (F : Fx p s m args meth c b_M_entry 9 "CoinKeeperModel" "entry" (some .int) D cy ad A) (hk_17 : I_M_entry_17 p l e s m args below meth c D cy A ad o q b1 z g_tId g_tOut g_oTx g_uOutput g_uNext g_chain g_uIs n1 h1 k_17) : ∀ n : Nat, I_M_entry_77 p l e s m args below meth c D cy A ad o q b1 z g_tId g_tOut g_oTx g_uOutput g_uNext g_chain g_uIs n1 h1 (x_M_entry_77 fu z g_tId g_tOut g_oTx g_uOutput g_uNext g_chain g_uIs n1 h1 k_17 n)
  | 0 => fun _ _ _ _ _ _ _ hf => nomatch (show (none : Option (Int32)) = some _ from hf)
  | n + 1 => wb_M_entry_77 F hk_17 (w_M_entry_77 F hk_17 n)
set_option maxHeartbeats 8000000 in
set_option maxRecDepth 100000 in
theorem wb_M_entry_72 {p : Program} {l : Launch} {e : Env} {s : State} {m : MethodId} {args : Array Value} {below : List Frame} {meth : Method} {c : Code} {D : va_G} {cy : Nat → ClassId} {A : Nat → Prop} {ad : Nat → Nat} {o : Nat} {q : Nat → Nat} {b1 : Nat} {z : Nat → Int32} {g_tId : Nat → Int32} {g_tOut : Nat → Int32} {g_oTx : Nat → Int32} {g_uOutput : Nat → Int32} {g_uNext : Nat → Int32} {g_chain : Nat → Int32} {g_uIs : Nat → Int32} {n1 : Nat} {h1 : Nat → Int32} {fu : Nat} {k_17 : Int32 → Int32 → Int32 → Option (Int32)} (F : Fx p s m args meth c b_M_entry 9 "CoinKeeperModel" "entry" (some .int) D cy ad A) (hk_17 : I_M_entry_17 p l e s m args below meth c D cy A ad o q b1 z g_tId g_tOut g_oTx g_uOutput g_uNext g_chain g_uIs n1 h1 k_17) : I_M_entry_72 p l e s m args below meth c D cy A ad o q b1 z g_tId g_tOut g_oTx g_uOutput g_uNext g_chain g_uIs n1 h1 (xb_M_entry_72 fu z g_tId g_tOut g_oTx g_uOutput g_uNext g_chain g_uIs n1 h1 k_17) := by
  obtain ⟨hx, hb, hr, hml, hown, hts, hlocks, hK, hA, hSt, hnm, hex⟩ := id F
  intro x2 x3 x4 x6 y0 res hf H locs ls hP hD hS hl
  unfold xb_M_entry_72 at hf
  refine lv_istore (lv' := [(7, .int y0), (0, .ref o), (1, .ref b1), (2, .int x2), (3, .int x3), (4, .int x4), (6, .int x6)]) hx hb d_M_entry_72 hl (by decide) rfl (fun ls hl => ?_)
  refine lv_iconst (v := 0) hx hb d_M_entry_74 (by decide) ?_
  refine lv_istore (lv' := [(8, .int (0 : Int32)), (7, .int y0), (0, .ref o), (1, .ref b1), (2, .int x2), (3, .int x3), (4, .int x4), (6, .int x6)]) hx hb d_M_entry_75 hl (by decide) rfl (fun ls hl => ?_)
  exact w_M_entry_77 F hk_17 fu _ _ _ _ _ _ _ hf _ _ _ hP hD hS (lv_sub hl [2, 3, 4, 5, 6, 7, 1, 0] rfl)
set_option maxHeartbeats 8000000 in
set_option maxRecDepth 100000 in
theorem wb_M_entry_17 {p : Program} {l : Launch} {e : Env} {s : State} {m : MethodId} {args : Array Value} {below : List Frame} {meth : Method} {c : Code} {D : va_G} {cy : Nat → ClassId} {A : Nat → Prop} {ad : Nat → Nat} {o : Nat} {q : Nat → Nat} {b1 : Nat} {z : Nat → Int32} {g_tId : Nat → Int32} {g_tOut : Nat → Int32} {g_oTx : Nat → Int32} {g_uOutput : Nat → Int32} {g_uNext : Nat → Int32} {g_chain : Nat → Int32} {g_uIs : Nat → Int32} {n1 : Nat} {h1 : Nat → Int32} {fu : Nat} {k_17 : Int32 → Int32 → Int32 → Option (Int32)} (F : Fx p s m args meth c b_M_entry 9 "CoinKeeperModel" "entry" (some .int) D cy ad A) (hk_17 : I_M_entry_17 p l e s m args below meth c D cy A ad o q b1 z g_tId g_tOut g_oTx g_uOutput g_uNext g_chain g_uIs n1 h1 k_17) : I_M_entry_17 p l e s m args below meth c D cy A ad o q b1 z g_tId g_tOut g_oTx g_uOutput g_uNext g_chain g_uIs n1 h1 (xb_M_entry_17 fu z g_tId g_tOut g_oTx g_uOutput g_uNext g_chain g_uIs n1 h1 k_17) := by
  obtain ⟨hx, hb, hr, hml, hown, hts, hlocks, hK, hA, hSt, hnm, hex⟩ := id F
  intro x2 x3 x4 res hf H locs ls hP hD hS hl
  unfold xb_M_entry_17 at hf
  refine lv_iload hx hb d_M_entry_17 (lv_at hl 4 rfl) ?_
  refine lv_if_lt (tgt := 148) hx hb d_M_entry_19 (by decide) (fun cx => ?_) (fun cx => ?_)
  · have hf := ifp cx hf
    refine lv_iconst (v := (-1)) hx hb d_M_entry_148 (by decide) ?_
    obtain rfl := Option.some.inj hf
    exact q_ri hx hb hr hlocks hK hP hD hS d_M_entry_149
  · have hf := ifn cx hf
    refine lv_aload_n hx hb d_M_entry_22 rfl (lv_at hl 0 rfl) ?_
    refine va_get (D := D) (ci := 12) (v := .ref (q 33)) (C := "CoinKeeperModel") (T := F_12) (N := 98) hx hb hts i_12 hown hK hP 0 rfl rfl 41 (by decide) (hts _ gw_1460) (fun _ h9 => h9) rfl d_M_entry_23 ?_
    refine lv_iload hx hb d_M_entry_26 (lv_at hl 4 rfl) ?_
    obtain ⟨hg, hf⟩ := gdp hf
    refine va_zald hx hb hK hP 7 3 rfl rfl (inb_in hg) d_M_entry_28 ?_
    refine lv_topi (fun v1 ev => ?_)
    have hf := bn ev hf
    clear ev
    refine lv_if_ne (tgt := 35) hx hb d_M_entry_29 (by decide) (fun cx => ?_) (fun cx => ?_)
    · have hf := ifn cx hf
      refine lv_aload_n hx hb d_M_entry_35 rfl (lv_at hl 0 rfl) ?_
      refine va_get (D := D) (ci := 12) (v := .ref (q 29)) (C := "CoinKeeperModel") (T := F_12) (N := 98) hx hb hts i_12 hown hK hP 0 rfl rfl 37 (by decide) (hts _ gw_1456) (fun _ h9 => h9) rfl d_M_entry_36 ?_
      refine lv_iload hx hb d_M_entry_39 (lv_at hl 4 rfl) ?_
      obtain ⟨hg, hf⟩ := gdp hf
      refine va_iald hx hb hK hP 4 1 rfl rfl (inb_in hg) d_M_entry_41 ?_
      refine lv_topi (fun v2 ev => ?_)
      have hf := bn ev hf
      clear ev
      refine lv_istore (lv' := [(5, .int v2), (0, .ref o), (1, .ref b1), (2, .int x2), (3, .int x3), (4, .int x4)]) hx hb d_M_entry_42 hl (by decide) rfl (fun ls hl => ?_)
      refine lv_aload_n hx hb d_M_entry_44 rfl (lv_at hl 1 rfl) ?_
      refine va_get (D := D) (ci := 12) (v := .ref (q 28)) (C := "CoinKeeperModel") (T := F_12) (N := 98) hx hb hts i_12 hown hK hP 0 rfl rfl 35 (by decide) (hts _ gw_1454) (fun _ h9 => h9) rfl d_M_entry_45 ?_
      refine lv_iload hx hb d_M_entry_48 (lv_at hl 0 rfl) ?_
      obtain ⟨hg, hf⟩ := gdp hf
      refine va_iald hx hb hK hP 3 1 rfl rfl (inb_in hg) d_M_entry_50 ?_
      refine lv_topi (fun v3 ev => ?_)
      have hf := bn ev hf
      clear ev
      refine lv_istore (lv' := [(6, .int v3), (5, .int v2), (0, .ref o), (1, .ref b1), (2, .int x2), (3, .int x3), (4, .int x4)]) hx hb d_M_entry_51 hl (by decide) rfl (fun ls hl => ?_)
      refine lv_iload hx hb d_M_entry_53 (lv_at hl 1 rfl) ?_
      refine lv_aload_n hx hb d_M_entry_55 rfl (lv_at hl 2 rfl) ?_
      refine va_get (D := D) (ci := 12) (v := .ref (q 17)) (C := "CoinKeeperModel") (T := F_12) (N := 98) hx hb hts i_12 hown hK hP 0 rfl rfl 22 (by decide) (hts _ gw_1441) (fun _ h9 => h9) rfl d_M_entry_56 ?_
      refine lv_iload hx hb d_M_entry_59 (lv_at hl 0 rfl) ?_
      obtain ⟨hg, hf⟩ := gdp hf
      refine va_iald hx hb hK hP 2 1 rfl rfl (inb_in hg) d_M_entry_61 ?_
      refine lv_topi (fun v4 ev => ?_)
      have hf := bn ev hf
      clear ev
      refine lv_isub hx hb d_M_entry_62 ?_
      refine lv_topi (fun v5 ev => ?_)
      have hf := bn ev hf
      clear ev
      refine lv_iload_n hx hb d_M_entry_63 rfl (lv_at hl 5 rfl) ?_
      refine lv_icmp_ne (tgt := 71) hx hb d_M_entry_64 (by decide) (fun cx => ?_) (fun cx => ?_)
      · have hf := ifn cx hf
        refine lv_iconst (v := 0) hx hb d_M_entry_71 (by decide) ?_
        exact wb_M_entry_72 (fu := fu) F hk_17 _ _ _ _ _ _ hf _ _ _ hP hD hS (lv_sub hl [2, 3, 4, 5, 6, 0] rfl)
      · have hf := ifp cx hf
        refine lv_iconst (v := 1) hx hb d_M_entry_67 (by decide) ?_
        refine lv_goto (tgt := 72) hx hb d_M_entry_68 (by decide) ?_
        exact wb_M_entry_72 (fu := fu) F hk_17 _ _ _ _ _ _ hf _ _ _ hP hD hS (lv_sub hl [2, 3, 4, 5, 6, 0] rfl)
    · have hf := ifp cx hf
      refine lv_goto (tgt := 136) hx hb d_M_entry_32 (by decide) ?_
      exact wb_M_entry_136 (fu := fu) F hk_17 _ _ _ _ hf _ _ _ hP hD hS (lv_sub hl [0, 1, 2, 3, 4] rfl)
theorem w_M_entry_17 {p : Program} {l : Launch} {e : Env} {s : State} {m : MethodId} {args : Array Value} {below : List Frame} {meth : Method} {c : Code} {D : va_G} {cy : Nat → ClassId} {A : Nat → Prop} {ad : Nat → Nat} {o : Nat} {q : Nat → Nat} {b1 : Nat} {z : Nat → Int32} {g_tId : Nat → Int32} {g_tOut : Nat → Int32} {g_oTx : Nat → Int32} {g_uOutput : Nat → Int32} {g_uNext : Nat → Int32} {g_chain : Nat → Int32} {g_uIs : Nat → Int32} {n1 : Nat} {h1 : Nat → Int32} {fu : Nat} (F : Fx p s m args meth c b_M_entry 9 "CoinKeeperModel" "entry" (some .int) D cy ad A) : ∀ n : Nat, I_M_entry_17 p l e s m args below meth c D cy A ad o q b1 z g_tId g_tOut g_oTx g_uOutput g_uNext g_chain g_uIs n1 h1 (x_M_entry_17 fu z g_tId g_tOut g_oTx g_uOutput g_uNext g_chain g_uIs n1 h1 n)
  | 0 => fun _ _ _ _ hf => nomatch (show (none : Option (Int32)) = some _ from hf)
  | n + 1 => wb_M_entry_17 F (w_M_entry_17 F n)
theorem hdm_12 : ({ cls := "CoinKeeperModel", name := "placeOf", desc := "(II)I" } : Jvm.MethodName).cls ≠ "java/lang/invoke/MethodHandle" ∧ ({ cls := "CoinKeeperModel", name := "placeOf", desc := "(II)I" } : Jvm.MethodName).cls ≠ "java/lang/invoke/VarHandle" ∧ (parseMethodDescriptor ({ cls := "CoinKeeperModel", name := "placeOf", desc := "(II)I" } : Jvm.MethodName).desc).map (fun d => d.parameters.length) = some 2 := by decide +kernel
set_option maxHeartbeats 8000000 in
set_option maxRecDepth 100000 in
theorem we_M_entry {p : Program} {l : Launch} {e : Env} {s : State} {m : MethodId} {args : Array Value} {below : List Frame} {meth : Method} {c : Code} {D : va_G} {cy : Nat → ClassId} {A : Nat → Prop} {ad : Nat → Nat} {o : Nat} {q : Nat → Nat} {b1 : Nat} {z : Nat → Int32} {g_tId : Nat → Int32} {g_tOut : Nat → Int32} {g_oTx : Nat → Int32} {g_uOutput : Nat → Int32} {g_uNext : Nat → Int32} {g_chain : Nat → Int32} {g_uIs : Nat → Int32} {n1 : Nat} {h1 : Nat → Int32} {fu : Nat} (F : Fx p s m args meth c b_M_entry 9 "CoinKeeperModel" "entry" (some .int) D cy ad A) : I_M_entry_e p l e s m args below meth c D cy A ad o q b1 z g_tId g_tOut g_oTx g_uOutput g_uNext g_chain g_uIs n1 h1 (x_M_entry fu z g_tId g_tOut g_oTx g_uOutput g_uNext g_chain g_uIs n1 h1) := by
  obtain ⟨hx, hb, hr, hml, hown, hts, hlocks, hK, hA, hSt, hnm, hex⟩ := id F
  intro a2 a3 res hf H locs ls hP hD hS hl
  unfold x_M_entry at hf
  refine lv_aload_n hx hb d_M_entry_0 rfl (lv_at hl 0 rfl) ?_
  refine va_get (D := D) (ci := 12) (v := .ref (q 32)) (C := "CoinKeeperModel") (T := F_12) (N := 98) hx hb hts i_12 hown hK hP 0 rfl rfl 40 (by decide) (hts _ gw_1459) (fun _ h9 => h9) rfl d_M_entry_1 ?_
  refine lv_aload_n hx hb d_M_entry_4 rfl (lv_at hl 0 rfl) ?_
  refine lv_aload_n hx hb d_M_entry_5 rfl (lv_at hl 1 rfl) ?_
  refine lv_iload_n hx hb d_M_entry_6 rfl (lv_at hl 2 rfl) ?_
  obtain ⟨v1, hc, hf⟩ := bdp1 hf
  refine q_ai (wr := [(o, .inr (12, mo q z)), ((q 14), .inl (cy 1, 17600, .inl g_tId)), ((q 17), .inl (cy 1, 2200, .inl g_tOut)), ((q 28), .inl (cy 1, 11600, .inl g_oTx)), ((q 29), .inl (cy 1, 11600, .inl g_uOutput)), ((q 31), .inl (cy 1, 11600, .inl g_uNext)), ((q 32), .inl (cy 1, 32768, .inl g_chain)), ((q 33), .inl (cy 3, 11600, .inl g_uIs))]) (va_runS (As := [.ref b1, .int a2]) (rest := [.ref o, .ref (q 32)]) ⟨hx, hb, hml, hown, hts⟩ (c_M_small l D cy ad fu b1 n1 h1 a2 _ hc H.size) ⟨q_cB hts gw_1779 gw_18 gw_1777 hdm_4 ⟨by decide, by decide⟩, hts _ gw_1778⟩ (q_pre (hP.sub [8] rfl) (hD.sub [8] (by decide) rfl) hK hSt hS (va_free hD hS hA [8] rfl) _) rfl rfl hl.1 rfl (lv_room (Nat.le_of_ble_eq_true rfl)) d_M_entry_7 ⟨Nat.le_of_ble_eq_true rfl, Nat.le_of_ble_eq_true rfl⟩) hP hD hS hA [8] [0, 1, 2, 3, 4, 5, 6, 7] rfl rfl (by decide) (by decide) (fun H locs hP hD hS => ?_)
  clear hc
  have hP : va_P D classes [(o, .inr (12, mo q z)), ((q 14), .inl (cy 1, 17600, .inl g_tId)), ((q 17), .inl (cy 1, 2200, .inl g_tOut)), ((q 28), .inl (cy 1, 11600, .inl g_oTx)), ((q 29), .inl (cy 1, 11600, .inl g_uOutput)), ((q 31), .inl (cy 1, 11600, .inl g_uNext)), ((q 32), .inl (cy 1, 32768, .inl g_chain)), ((q 33), .inl (cy 3, 11600, .inl g_uIs)), (b1, .inl (cy 0, n1, .inl h1))] H := hP
  have hD : va_D A [(o, .inr (12, mo q z)), ((q 14), .inl (cy 1, 17600, .inl g_tId)), ((q 17), .inl (cy 1, 2200, .inl g_tOut)), ((q 28), .inl (cy 1, 11600, .inl g_oTx)), ((q 29), .inl (cy 1, 11600, .inl g_uOutput)), ((q 31), .inl (cy 1, 11600, .inl g_uNext)), ((q 32), .inl (cy 1, 32768, .inl g_chain)), ((q 33), .inl (cy 3, 11600, .inl g_uIs)), (b1, .inl (cy 0, n1, .inl h1))] := hD
  refine lv_iload_n hx hb d_M_entry_10 rfl (lv_at hl 3 rfl) ?_
  obtain ⟨v2, hc, hf⟩ := bdp1 hf
  refine q_ai (wr := [((q 14), .inl (cy 1, 17600, .inl g_tId)), ((q 17), .inl (cy 1, 2200, .inl g_tOut)), ((q 28), .inl (cy 1, 11600, .inl g_oTx)), ((q 29), .inl (cy 1, 11600, .inl g_uOutput)), ((q 31), .inl (cy 1, 11600, .inl g_uNext)), ((q 32), .inl (cy 1, 32768, .inl g_chain)), ((q 33), .inl (cy 3, 11600, .inl g_uIs)), (b1, .inl (cy 0, n1, .inl h1))]) (va_runV (C := "CoinKeeperModel") (As := [.int v1, .int a3]) (rest := [.ref (q 32)]) ⟨hx, hb, hml, hown, hts⟩ (c_M_placeOf l D cy ad fu o q z v1 a3 _ hc H.size) ⟨q_cB hts gw_1856 gw_18 gw_1853 hdm_12 ⟨by decide, by decide⟩, hts _ gw_1855, hts _ gs_89⟩ (q_preV (q_pre (hP.sub [0] rfl) (hD.sub [0] (by decide) rfl) hK hSt hS (va_free hD hS hA [0] rfl) _) (va_recv hK (hP.sub [0] rfl) (ci := 12) (q0 := 0) rfl rfl)) rfl rfl hl.1 rfl (lv_room (Nat.le_of_ble_eq_true rfl)) d_M_entry_11 ⟨Nat.le_of_ble_eq_true rfl, Nat.le_of_ble_eq_true rfl⟩) hP hD hS hA [0] [1, 2, 3, 4, 5, 6, 7, 8] rfl rfl (by decide) (by decide) (fun H locs hP hD hS => ?_)
  clear hc
  have hP : va_P D classes [((q 14), .inl (cy 1, 17600, .inl g_tId)), ((q 17), .inl (cy 1, 2200, .inl g_tOut)), ((q 28), .inl (cy 1, 11600, .inl g_oTx)), ((q 29), .inl (cy 1, 11600, .inl g_uOutput)), ((q 31), .inl (cy 1, 11600, .inl g_uNext)), ((q 32), .inl (cy 1, 32768, .inl g_chain)), ((q 33), .inl (cy 3, 11600, .inl g_uIs)), (b1, .inl (cy 0, n1, .inl h1)), (o, .inr (12, mo q z))] H := hP
  have hD : va_D A [((q 14), .inl (cy 1, 17600, .inl g_tId)), ((q 17), .inl (cy 1, 2200, .inl g_tOut)), ((q 28), .inl (cy 1, 11600, .inl g_oTx)), ((q 29), .inl (cy 1, 11600, .inl g_uOutput)), ((q 31), .inl (cy 1, 11600, .inl g_uNext)), ((q 32), .inl (cy 1, 32768, .inl g_chain)), ((q 33), .inl (cy 3, 11600, .inl g_uIs)), (b1, .inl (cy 0, n1, .inl h1)), (o, .inr (12, mo q z))] := hD
  obtain ⟨hg, hf⟩ := gdp hf
  refine va_iald hx hb hK hP 5 1 rfl rfl (inb_in hg) d_M_entry_14 ?_
  refine lv_topi (fun v3 ev => ?_)
  have hf := bn ev hf
  clear ev
  refine lv_istore (lv' := [(4, .int v3), (0, .ref o), (1, .ref b1), (2, .int a2), (3, .int a3)]) hx hb d_M_entry_15 hl (by decide) rfl (fun ls hl => ?_)
  exact w_M_entry_17 F fu _ _ _ _ hf _ _ _ (hP.sub (ws' := [(o, .inr (12, mo q z)), ((q 14), .inl (cy 1, 17600, .inl g_tId)), ((q 17), .inl (cy 1, 2200, .inl g_tOut)), ((q 28), .inl (cy 1, 11600, .inl g_oTx)), ((q 29), .inl (cy 1, 11600, .inl g_uOutput)), ((q 31), .inl (cy 1, 11600, .inl g_uNext)), ((q 32), .inl (cy 1, 32768, .inl g_chain)), ((q 33), .inl (cy 3, 11600, .inl g_uIs)), (b1, .inl (cy 0, n1, .inl h1))]) [8, 0, 1, 2, 3, 4, 5, 6, 7] rfl) (hD.sub (ws' := [(o, .inr (12, mo q z)), ((q 14), .inl (cy 1, 17600, .inl g_tId)), ((q 17), .inl (cy 1, 2200, .inl g_tOut)), ((q 28), .inl (cy 1, 11600, .inl g_oTx)), ((q 29), .inl (cy 1, 11600, .inl g_uOutput)), ((q 31), .inl (cy 1, 11600, .inl g_uNext)), ((q 32), .inl (cy 1, 32768, .inl g_chain)), ((q 33), .inl (cy 3, 11600, .inl g_uIs)), (b1, .inl (cy 0, n1, .inl h1))]) [8, 0, 1, 2, 3, 4, 5, 6, 7] (by decide) rfl) hS (lv_sub hl [1, 2, 3, 4, 0] rfl)
theorem c_M_entry (l : Launch) (D : va_G) (cy : Nat → ClassId) (ad : Nat → Nat) (fu : Nat) (o : Nat) (q : Nat → Nat) (b1 : Nat) (z : Nat → Int32) (g_tId : Nat → Int32) (g_tOut : Nat → Int32) (g_oTx : Nat → Int32) (g_uOutput : Nat → Int32) (g_uNext : Nat → Int32) (g_chain : Nat → Int32) (g_uIs : Nat → Int32) (n1 : Nat) (h1 : Nat → Int32) (a2 : Int32) (a3 : Int32) (res : Int32) (hf : x_M_entry fu z g_tId g_tOut g_oTx g_uOutput g_uNext g_chain g_uIs n1 h1 a2 a3 = some res) (sz : Nat) : Met l ({ cls := "CoinKeeperModel", name := "entry", desc := "([BII)I" } : Jvm.MethodName) (.code ({ cls := "CoinKeeperModel", name := "entry", desc := "([BII)I" } : Jvm.MethodName) b_M_entry 9 (some .int) :: gw) rm_M_entry (va_Pc [.ref o, .ref b1, .int a2, .int a3] (Pr D cy ad [(o, .inr (12, mo q z)), ((q 14), .inl (cy 1, 17600, .inl g_tId)), ((q 17), .inl (cy 1, 2200, .inl g_tOut)), ((q 28), .inl (cy 1, 11600, .inl g_oTx)), ((q 29), .inl (cy 1, 11600, .inl g_uOutput)), ((q 31), .inl (cy 1, 11600, .inl g_uNext)), ((q 32), .inl (cy 1, 32768, .inl g_chain)), ((q 33), .inl (cy 3, 11600, .inl g_uIs)), (b1, .inl (cy 0, n1, .inl h1))] sz)) (q_M_entry D cy (va_A [(o, .inr (12, mo q z)), ((q 14), .inl (cy 1, 17600, .inl g_tId)), ((q 17), .inl (cy 1, 2200, .inl g_tOut)), ((q 28), .inl (cy 1, 11600, .inl g_oTx)), ((q 29), .inl (cy 1, 11600, .inl g_uOutput)), ((q 31), .inl (cy 1, 11600, .inl g_uNext)), ((q 32), .inl (cy 1, 32768, .inl g_chain)), ((q 33), .inl (cy 3, 11600, .inl g_uIs)), (b1, .inl (cy 0, n1, .inl h1))] sz) o q b1 z g_tId g_tOut g_oTx g_uOutput g_uNext g_chain g_uIs n1 h1 res) 0 0 (va_A [(o, .inr (12, mo q z)), ((q 14), .inl (cy 1, 17600, .inl g_tId)), ((q 17), .inl (cy 1, 2200, .inl g_tOut)), ((q 28), .inl (cy 1, 11600, .inl g_oTx)), ((q 29), .inl (cy 1, 11600, .inl g_uOutput)), ((q 31), .inl (cy 1, 11600, .inl g_uNext)), ((q 32), .inl (cy 1, 32768, .inl g_chain)), ((q 33), .inl (cy 3, 11600, .inl g_uIs)), (b1, .inl (cy 0, n1, .inl h1))] sz) :=
  q_met (Qc := fun A => q_M_entry D cy A o q b1 z g_tId g_tOut g_oTx g_uOutput g_uNext g_chain g_uIs n1 h1 res) (by decide) rfl rfl (Nat.le_of_ble_eq_true rfl) (fun p e s m below meth c ls F hP hD hS hl => we_M_entry (fu := fu) F a2 a3 res hf _ _ _ hP hD hS hl) sz
abbrev b_M_unspent : ByteArray := prog_14_method_88_code
theorem d_M_unspent_0 : decode b_M_unspent 0 = .ok (.aload_n 0, 1) := by decide +kernel
theorem d_M_unspent_1 : decode b_M_unspent 1 = .ok (.aload_n 0, 1) := by decide +kernel
theorem d_M_unspent_2 : decode b_M_unspent 2 = .ok (.getfield 656, 3) := by decide +kernel
theorem d_M_unspent_5 : decode b_M_unspent 5 = .ok (.bipush 32, 2) := by decide +kernel
theorem d_M_unspent_7 : decode b_M_unspent 7 = .ok (.if_icmp .eq 7, 3) := by decide +kernel
theorem d_M_unspent_10 : decode b_M_unspent 10 = .ok (.iconst 1, 1) := by decide +kernel
theorem d_M_unspent_11 : decode b_M_unspent 11 = .ok (.goto 4, 3) := by decide +kernel
theorem d_M_unspent_14 : decode b_M_unspent 14 = .ok (.iconst 0, 1) := by decide +kernel
theorem d_M_unspent_15 : decode b_M_unspent 15 = .ok (.putfield 268, 3) := by decide +kernel
theorem d_M_unspent_18 : decode b_M_unspent 18 = .ok (.aload_n 0, 1) := by decide +kernel
theorem d_M_unspent_19 : decode b_M_unspent 19 = .ok (.getfield 268, 3) := by decide +kernel
theorem d_M_unspent_22 : decode b_M_unspent 22 = .ok (.ifCond .le 5, 3) := by decide +kernel
theorem d_M_unspent_25 : decode b_M_unspent 25 = .ok (.lconst 0, 1) := by decide +kernel
theorem d_M_unspent_26 : decode b_M_unspent 26 = .ok (.lreturn, 1) := by decide +kernel
theorem d_M_unspent_27 : decode b_M_unspent 27 = .ok (.aload_n 0, 1) := by decide +kernel
theorem d_M_unspent_28 : decode b_M_unspent 28 = .ok (.aload_n 0, 1) := by decide +kernel
theorem d_M_unspent_29 : decode b_M_unspent 29 = .ok (.getfield 9, 3) := by decide +kernel
theorem d_M_unspent_32 : decode b_M_unspent 32 = .ok (.iconst 0, 1) := by decide +kernel
theorem d_M_unspent_33 : decode b_M_unspent 33 = .ok (.iload_n 1, 1) := by decide +kernel
theorem d_M_unspent_34 : decode b_M_unspent 34 = .ok (.invokevirtual 631, 3) := by decide +kernel
theorem d_M_unspent_37 : decode b_M_unspent 37 = .ok (.istore_n 2, 1) := by decide +kernel
theorem d_M_unspent_38 : decode b_M_unspent 38 = .ok (.aload_n 0, 1) := by decide +kernel
theorem d_M_unspent_39 : decode b_M_unspent 39 = .ok (.iload_n 2, 1) := by decide +kernel
theorem d_M_unspent_40 : decode b_M_unspent 40 = .ok (.ifCond .ge 7, 3) := by decide +kernel
theorem d_M_unspent_43 : decode b_M_unspent 43 = .ok (.iconst 2, 1) := by decide +kernel
theorem d_M_unspent_44 : decode b_M_unspent 44 = .ok (.goto 4, 3) := by decide +kernel
theorem d_M_unspent_47 : decode b_M_unspent 47 = .ok (.iconst 0, 1) := by decide +kernel
theorem d_M_unspent_48 : decode b_M_unspent 48 = .ok (.putfield 268, 3) := by decide +kernel
theorem d_M_unspent_51 : decode b_M_unspent 51 = .ok (.iload_n 2, 1) := by decide +kernel
theorem d_M_unspent_52 : decode b_M_unspent 52 = .ok (.ifCond .ge 7, 3) := by decide +kernel
theorem d_M_unspent_55 : decode b_M_unspent 55 = .ok (.lconst 0, 1) := by decide +kernel
theorem d_M_unspent_56 : decode b_M_unspent 56 = .ok (.goto 14, 3) := by decide +kernel
theorem d_M_unspent_59 : decode b_M_unspent 59 = .ok (.aload_n 0, 1) := by decide +kernel
theorem d_M_unspent_60 : decode b_M_unspent 60 = .ok (.getfield 88, 3) := by decide +kernel
theorem d_M_unspent_63 : decode b_M_unspent 63 = .ok (.aload_n 0, 1) := by decide +kernel
theorem d_M_unspent_64 : decode b_M_unspent 64 = .ok (.getfield 101, 3) := by decide +kernel
theorem d_M_unspent_67 : decode b_M_unspent 67 = .ok (.iload_n 2, 1) := by decide +kernel
theorem d_M_unspent_68 : decode b_M_unspent 68 = .ok (.iaload, 1) := by decide +kernel
theorem d_M_unspent_69 : decode b_M_unspent 69 = .ok (.laload, 1) := by decide +kernel
theorem d_M_unspent_70 : decode b_M_unspent 70 = .ok (.lreturn, 1) := by decide +kernel
abbrev rm_M_unspent : Room := { frames := 2, cells := 0, slots := 0, locals := 50 }
abbrev q_M_unspent (D : va_G) (cy : Nat → ClassId) (A : Nat → Prop) (o : Nat) (q : Nat → Nat) (g_row : Nat → Int32) (g_tId : Nat → Int32) (g_tOut : Nat → Int32) (g_oValue : Nat → Int64) (g_oTx : Nat → Int32) (g_uOutput : Nat → Int32) (g_uNext : Nat → Int32) (g_chain : Nat → Int32) (g_uIs : Nat → Int32) (res : Int64 × (Nat → Int32)) : Array Value → State → Outcome → State → Prop := va_Ql (fun r' (_ : Unit) => r' = res.1) (fun _ t => Po D cy A [(o, .inr (12, mo q res.2)), ((q 0), .inl (cy 0, 3000, .inl g_row)), ((q 14), .inl (cy 1, 17600, .inl g_tId)), ((q 17), .inl (cy 1, 2200, .inl g_tOut)), ((q 25), .inl (cy 2, 11600, .inr (.inl g_oValue))), ((q 28), .inl (cy 1, 11600, .inl g_oTx)), ((q 29), .inl (cy 1, 11600, .inl g_uOutput)), ((q 31), .inl (cy 1, 11600, .inl g_uNext)), ((q 32), .inl (cy 1, 32768, .inl g_chain)), ((q 33), .inl (cy 3, 11600, .inl g_uIs))] t) A
def I_M_unspent_48 (p : Program) (l : Launch) (e : Env) (s : State) (m : MethodId) (args : Array Value) (below : List Frame) (meth : Method) (c : Code) (D : va_G) (cy : Nat → ClassId) (A : Nat → Prop) (ad : Nat → Nat) (o : Nat) (q : Nat → Nat) (g_row : Nat → Int32) (g_tId : Nat → Int32) (g_tOut : Nat → Int32) (g_oValue : Nat → Int64) (g_oTx : Nat → Int32) (g_uOutput : Nat → Int32) (g_uNext : Nat → Int32) (g_chain : Nat → Int32) (g_uIs : Nat → Int32) (k : Int32 → Int32 → (Nat → Int32) → Option (Int64 × (Nat → Int32))) : Prop :=
  ∀ (x2 : Int32) (y0 : Int32) (u0 : Nat → Int32) (res : Int64 × (Nat → Int32)), k x2 y0 u0 = some res → ∀ (H : Heap) (locs : List Loc) (ls : Array Slot), va_P D classes [(o, .inr (12, mo q u0)), ((q 0), .inl (cy 0, 3000, .inl g_row)), ((q 14), .inl (cy 1, 17600, .inl g_tId)), ((q 17), .inl (cy 1, 2200, .inl g_tOut)), ((q 25), .inl (cy 2, 11600, .inr (.inl g_oValue))), ((q 28), .inl (cy 1, 11600, .inl g_oTx)), ((q 29), .inl (cy 1, 11600, .inl g_uOutput)), ((q 31), .inl (cy 1, 11600, .inl g_uNext)), ((q 32), .inl (cy 1, 32768, .inl g_chain)), ((q 33), .inl (cy 3, 11600, .inl g_uIs))] H → va_D A [(o, .inr (12, mo q u0)), ((q 0), .inl (cy 0, 3000, .inl g_row)), ((q 14), .inl (cy 1, 17600, .inl g_tId)), ((q 17), .inl (cy 1, 2200, .inl g_tOut)), ((q 25), .inl (cy 2, 11600, .inr (.inl g_oValue))), ((q 28), .inl (cy 1, 11600, .inl g_oTx)), ((q 29), .inl (cy 1, 11600, .inl g_uOutput)), ((q 31), .inl (cy 1, 11600, .inl g_uNext)), ((q 32), .inl (cy 1, 32768, .inl g_chain)), ((q 33), .inl (cy 3, 11600, .inl g_uIs))] → va_S A s.heap H locs → lv_has ls 3 [(0, .ref o), (2, .int x2)] → W p l e rm_M_unspent s m args below meth c H locs 0 0 (MQ below (q_M_unspent D cy A o q g_row g_tId g_tOut g_oValue g_oTx g_uOutput g_uNext g_chain g_uIs res) args s 0 0 A) (F0 m 48 ls [.int y0, .ref o])
def I_M_unspent_15 (p : Program) (l : Launch) (e : Env) (s : State) (m : MethodId) (args : Array Value) (below : List Frame) (meth : Method) (c : Code) (D : va_G) (cy : Nat → ClassId) (A : Nat → Prop) (ad : Nat → Nat) (o : Nat) (q : Nat → Nat) (g_row : Nat → Int32) (g_tId : Nat → Int32) (g_tOut : Nat → Int32) (g_oValue : Nat → Int64) (g_oTx : Nat → Int32) (g_uOutput : Nat → Int32) (g_uNext : Nat → Int32) (g_chain : Nat → Int32) (g_uIs : Nat → Int32) (k : Int32 → Int32 → (Nat → Int32) → Option (Int64 × (Nat → Int32))) : Prop :=
  ∀ (x1 : Int32) (y0 : Int32) (u0 : Nat → Int32) (res : Int64 × (Nat → Int32)), k x1 y0 u0 = some res → ∀ (H : Heap) (locs : List Loc) (ls : Array Slot), va_P D classes [(o, .inr (12, mo q u0)), ((q 0), .inl (cy 0, 3000, .inl g_row)), ((q 14), .inl (cy 1, 17600, .inl g_tId)), ((q 17), .inl (cy 1, 2200, .inl g_tOut)), ((q 25), .inl (cy 2, 11600, .inr (.inl g_oValue))), ((q 28), .inl (cy 1, 11600, .inl g_oTx)), ((q 29), .inl (cy 1, 11600, .inl g_uOutput)), ((q 31), .inl (cy 1, 11600, .inl g_uNext)), ((q 32), .inl (cy 1, 32768, .inl g_chain)), ((q 33), .inl (cy 3, 11600, .inl g_uIs))] H → va_D A [(o, .inr (12, mo q u0)), ((q 0), .inl (cy 0, 3000, .inl g_row)), ((q 14), .inl (cy 1, 17600, .inl g_tId)), ((q 17), .inl (cy 1, 2200, .inl g_tOut)), ((q 25), .inl (cy 2, 11600, .inr (.inl g_oValue))), ((q 28), .inl (cy 1, 11600, .inl g_oTx)), ((q 29), .inl (cy 1, 11600, .inl g_uOutput)), ((q 31), .inl (cy 1, 11600, .inl g_uNext)), ((q 32), .inl (cy 1, 32768, .inl g_chain)), ((q 33), .inl (cy 3, 11600, .inl g_uIs))] → va_S A s.heap H locs → lv_has ls 3 [(0, .ref o), (1, .int x1)] → W p l e rm_M_unspent s m args below meth c H locs 0 0 (MQ below (q_M_unspent D cy A o q g_row g_tId g_tOut g_oValue g_oTx g_uOutput g_uNext g_chain g_uIs res) args s 0 0 A) (F0 m 15 ls [.int y0, .ref o])
def I_M_unspent_e (p : Program) (l : Launch) (e : Env) (s : State) (m : MethodId) (args : Array Value) (below : List Frame) (meth : Method) (c : Code) (D : va_G) (cy : Nat → ClassId) (A : Nat → Prop) (ad : Nat → Nat) (o : Nat) (q : Nat → Nat) (g_row : Nat → Int32) (g_tId : Nat → Int32) (g_tOut : Nat → Int32) (g_oValue : Nat → Int64) (g_oTx : Nat → Int32) (g_uOutput : Nat → Int32) (g_uNext : Nat → Int32) (g_chain : Nat → Int32) (g_uIs : Nat → Int32) (k : Int32 → (Nat → Int32) → Option (Int64 × (Nat → Int32))) : Prop :=
  ∀ (a1 : Int32) (u0 : Nat → Int32) (res : Int64 × (Nat → Int32)), k a1 u0 = some res → ∀ (H : Heap) (locs : List Loc) (ls : Array Slot), va_P D classes [(o, .inr (12, mo q u0)), ((q 0), .inl (cy 0, 3000, .inl g_row)), ((q 14), .inl (cy 1, 17600, .inl g_tId)), ((q 17), .inl (cy 1, 2200, .inl g_tOut)), ((q 25), .inl (cy 2, 11600, .inr (.inl g_oValue))), ((q 28), .inl (cy 1, 11600, .inl g_oTx)), ((q 29), .inl (cy 1, 11600, .inl g_uOutput)), ((q 31), .inl (cy 1, 11600, .inl g_uNext)), ((q 32), .inl (cy 1, 32768, .inl g_chain)), ((q 33), .inl (cy 3, 11600, .inl g_uIs))] H → va_D A [(o, .inr (12, mo q u0)), ((q 0), .inl (cy 0, 3000, .inl g_row)), ((q 14), .inl (cy 1, 17600, .inl g_tId)), ((q 17), .inl (cy 1, 2200, .inl g_tOut)), ((q 25), .inl (cy 2, 11600, .inr (.inl g_oValue))), ((q 28), .inl (cy 1, 11600, .inl g_oTx)), ((q 29), .inl (cy 1, 11600, .inl g_uOutput)), ((q 31), .inl (cy 1, 11600, .inl g_uNext)), ((q 32), .inl (cy 1, 32768, .inl g_chain)), ((q 33), .inl (cy 3, 11600, .inl g_uIs))] → va_S A s.heap H locs → lv_has ls 3 [(0, .ref o), (1, .int a1)] → W p l e rm_M_unspent s m args below meth c H locs 0 0 (MQ below (q_M_unspent D cy A o q g_row g_tId g_tOut g_oValue g_oTx g_uOutput g_uNext g_chain g_uIs res) args s 0 0 A) (F0 m 0 ls [])
set_option maxHeartbeats 8000000 in
set_option maxRecDepth 100000 in
theorem wb_M_unspent_48 {p : Program} {l : Launch} {e : Env} {s : State} {m : MethodId} {args : Array Value} {below : List Frame} {meth : Method} {c : Code} {D : va_G} {cy : Nat → ClassId} {A : Nat → Prop} {ad : Nat → Nat} {o : Nat} {q : Nat → Nat} {g_row : Nat → Int32} {g_tId : Nat → Int32} {g_tOut : Nat → Int32} {g_oValue : Nat → Int64} {g_oTx : Nat → Int32} {g_uOutput : Nat → Int32} {g_uNext : Nat → Int32} {g_chain : Nat → Int32} {g_uIs : Nat → Int32} {fu : Nat} (F : Fx p s m args meth c b_M_unspent 3 "CoinKeeperModel" "unspent" (some .long) D cy ad A) : I_M_unspent_48 p l e s m args below meth c D cy A ad o q g_row g_tId g_tOut g_oValue g_oTx g_uOutput g_uNext g_chain g_uIs (xb_M_unspent_48 fu g_row g_tId g_tOut g_oValue g_oTx g_uOutput g_uNext g_chain g_uIs) := by
  obtain ⟨hx, hb, hr, hml, hown, hts, hlocks, hK, hA, hSt, hnm, hex⟩ := id F
  intro x2 y0 u0 res hf H locs ls hP hD hS hl
  unfold xb_M_unspent_48 at hf
  refine va_put (D := D) (ci := 12) (v := .int y0) (ty := .int) (C := "CoinKeeperModel") (T := F_12) (N := 98) hx hb hts i_12 t_12 t_12_ok n_12 hown hK hP hD hS 0 rfl rfl 4 (by decide) (hts _ gw_1423) (fun _ h9 => h9) rfl (by decide +kernel) rfl rfl (Nat.le_of_ble_eq_true rfl) d_M_unspent_48 (fun H locs hP hD hS => ?_)
  obtain ⟨z1, ev, hf⟩ := bne hf
  have hP : va_P D classes [(o, .inr (12, mo q z1)), ((q 0), .inl (cy 0, 3000, .inl g_row)), ((q 14), .inl (cy 1, 17600, .inl g_tId)), ((q 17), .inl (cy 1, 2200, .inl g_tOut)), ((q 25), .inl (cy 2, 11600, .inr (.inl g_oValue))), ((q 28), .inl (cy 1, 11600, .inl g_oTx)), ((q 29), .inl (cy 1, 11600, .inl g_uOutput)), ((q 31), .inl (cy 1, 11600, .inl g_uNext)), ((q 32), .inl (cy 1, 32768, .inl g_chain)), ((q 33), .inl (cy 3, 11600, .inl g_uIs))] H := by rw [ev]; exact hP
  have hD : va_D A [(o, .inr (12, mo q z1)), ((q 0), .inl (cy 0, 3000, .inl g_row)), ((q 14), .inl (cy 1, 17600, .inl g_tId)), ((q 17), .inl (cy 1, 2200, .inl g_tOut)), ((q 25), .inl (cy 2, 11600, .inr (.inl g_oValue))), ((q 28), .inl (cy 1, 11600, .inl g_oTx)), ((q 29), .inl (cy 1, 11600, .inl g_uOutput)), ((q 31), .inl (cy 1, 11600, .inl g_uNext)), ((q 32), .inl (cy 1, 32768, .inl g_chain)), ((q 33), .inl (cy 3, 11600, .inl g_uIs))] := by rw [ev]; exact hD
  clear ev
  refine lv_iload_n hx hb d_M_unspent_51 rfl (lv_at hl 1 rfl) ?_
  refine lv_if_ge (tgt := 59) hx hb d_M_unspent_52 (by decide) (fun cx => ?_) (fun cx => ?_)
  · have hf := ifp cx hf
    refine lv_aload_n hx hb d_M_unspent_59 rfl (lv_at hl 0 rfl) ?_
    refine va_get (D := D) (ci := 12) (v := .ref (q 25)) (C := "CoinKeeperModel") (T := F_12) (N := 98) hx hb hts i_12 hown hK hP 0 rfl rfl 32 (by decide) (hts _ gw_1451) (fun _ h9 => h9) rfl d_M_unspent_60 ?_
    refine lv_aload_n hx hb d_M_unspent_63 rfl (lv_at hl 0 rfl) ?_
    refine va_get (D := D) (ci := 12) (v := .ref (q 29)) (C := "CoinKeeperModel") (T := F_12) (N := 98) hx hb hts i_12 hown hK hP 0 rfl rfl 37 (by decide) (hts _ gw_1456) (fun _ h9 => h9) rfl d_M_unspent_64 ?_
    refine lv_iload_n hx hb d_M_unspent_67 rfl (lv_at hl 1 rfl) ?_
    obtain ⟨hg, hf⟩ := gdp hf
    refine va_iald hx hb hK hP 6 1 rfl rfl (inb_in hg) d_M_unspent_68 ?_
    refine lv_topi (fun v2 ev => ?_)
    have hf := bn ev hf
    clear ev
    obtain ⟨hg, hf⟩ := gdp hf
    refine va_lald hx hb hK hP 4 2 rfl rfl (inb_in hg) d_M_unspent_69 ?_
    refine lv_topl (fun v3 ev => ?_)
    have hf := bn ev hf
    clear ev
    obtain rfl := Option.some.inj hf
    exact q_rl hx hb hr hlocks hK hP hD hS d_M_unspent_70
  · have hf := ifn cx hf
    refine lv_lconst (v := 0) hx hb d_M_unspent_55 (by decide) ?_
    refine lv_goto (tgt := 70) hx hb d_M_unspent_56 (by decide) ?_
    obtain rfl := Option.some.inj hf
    exact q_rl hx hb hr hlocks hK hP hD hS d_M_unspent_70
theorem hdm_13 : ({ cls := "CoinKeeperModel", name := "entry", desc := "([BII)I" } : Jvm.MethodName).cls ≠ "java/lang/invoke/MethodHandle" ∧ ({ cls := "CoinKeeperModel", name := "entry", desc := "([BII)I" } : Jvm.MethodName).cls ≠ "java/lang/invoke/VarHandle" ∧ (parseMethodDescriptor ({ cls := "CoinKeeperModel", name := "entry", desc := "([BII)I" } : Jvm.MethodName).desc).map (fun d => d.parameters.length) = some 3 := by decide +kernel
set_option maxHeartbeats 8000000 in
set_option maxRecDepth 100000 in
theorem wb_M_unspent_15 {p : Program} {l : Launch} {e : Env} {s : State} {m : MethodId} {args : Array Value} {below : List Frame} {meth : Method} {c : Code} {D : va_G} {cy : Nat → ClassId} {A : Nat → Prop} {ad : Nat → Nat} {o : Nat} {q : Nat → Nat} {g_row : Nat → Int32} {g_tId : Nat → Int32} {g_tOut : Nat → Int32} {g_oValue : Nat → Int64} {g_oTx : Nat → Int32} {g_uOutput : Nat → Int32} {g_uNext : Nat → Int32} {g_chain : Nat → Int32} {g_uIs : Nat → Int32} {fu : Nat} (F : Fx p s m args meth c b_M_unspent 3 "CoinKeeperModel" "unspent" (some .long) D cy ad A) : I_M_unspent_15 p l e s m args below meth c D cy A ad o q g_row g_tId g_tOut g_oValue g_oTx g_uOutput g_uNext g_chain g_uIs (xb_M_unspent_15 fu g_row g_tId g_tOut g_oValue g_oTx g_uOutput g_uNext g_chain g_uIs) := by
  obtain ⟨hx, hb, hr, hml, hown, hts, hlocks, hK, hA, hSt, hnm, hex⟩ := id F
  intro x1 y0 u0 res hf H locs ls hP hD hS hl
  unfold xb_M_unspent_15 at hf
  refine va_put (D := D) (ci := 12) (v := .int y0) (ty := .int) (C := "CoinKeeperModel") (T := F_12) (N := 98) hx hb hts i_12 t_12 t_12_ok n_12 hown hK hP hD hS 0 rfl rfl 4 (by decide) (hts _ gw_1423) (fun _ h9 => h9) rfl (by decide +kernel) rfl rfl (Nat.le_of_ble_eq_true rfl) d_M_unspent_15 (fun H locs hP hD hS => ?_)
  obtain ⟨z1, ev, hf⟩ := bne hf
  have hP : va_P D classes [(o, .inr (12, mo q z1)), ((q 0), .inl (cy 0, 3000, .inl g_row)), ((q 14), .inl (cy 1, 17600, .inl g_tId)), ((q 17), .inl (cy 1, 2200, .inl g_tOut)), ((q 25), .inl (cy 2, 11600, .inr (.inl g_oValue))), ((q 28), .inl (cy 1, 11600, .inl g_oTx)), ((q 29), .inl (cy 1, 11600, .inl g_uOutput)), ((q 31), .inl (cy 1, 11600, .inl g_uNext)), ((q 32), .inl (cy 1, 32768, .inl g_chain)), ((q 33), .inl (cy 3, 11600, .inl g_uIs))] H := by rw [ev]; exact hP
  have hD : va_D A [(o, .inr (12, mo q z1)), ((q 0), .inl (cy 0, 3000, .inl g_row)), ((q 14), .inl (cy 1, 17600, .inl g_tId)), ((q 17), .inl (cy 1, 2200, .inl g_tOut)), ((q 25), .inl (cy 2, 11600, .inr (.inl g_oValue))), ((q 28), .inl (cy 1, 11600, .inl g_oTx)), ((q 29), .inl (cy 1, 11600, .inl g_uOutput)), ((q 31), .inl (cy 1, 11600, .inl g_uNext)), ((q 32), .inl (cy 1, 32768, .inl g_chain)), ((q 33), .inl (cy 3, 11600, .inl g_uIs))] := by rw [ev]; exact hD
  clear ev
  refine lv_aload_n hx hb d_M_unspent_18 rfl (lv_at hl 0 rfl) ?_
  refine va_get (D := D) (ci := 12) (v := .int (z1 2)) (C := "CoinKeeperModel") (T := F_12) (N := 98) hx hb hts i_12 hown hK hP 0 rfl rfl 4 (by decide) (hts _ gw_1423) (fun _ h9 => h9) rfl d_M_unspent_19 ?_
  refine lv_if_le (tgt := 27) hx hb d_M_unspent_22 (by decide) (fun cx => ?_) (fun cx => ?_)
  · have hf := ifp cx hf
    refine lv_aload_n hx hb d_M_unspent_27 rfl (lv_at hl 0 rfl) ?_
    refine lv_aload_n hx hb d_M_unspent_28 rfl (lv_at hl 0 rfl) ?_
    refine va_get (D := D) (ci := 12) (v := .ref (q 0)) (C := "CoinKeeperModel") (T := F_12) (N := 98) hx hb hts i_12 hown hK hP 0 rfl rfl 0 (by decide) (hts _ gw_1419) (fun _ h9 => h9) rfl d_M_unspent_29 ?_
    refine lv_iconst (v := 0) hx hb d_M_unspent_32 (by decide) ?_
    refine lv_iload_n hx hb d_M_unspent_33 rfl (lv_at hl 1 rfl) ?_
    obtain ⟨v2, hc, hf⟩ := bdp1 hf
    refine q_ai (wr := [((q 25), .inl (cy 2, 11600, .inr (.inl g_oValue)))]) (va_runV (C := "CoinKeeperModel") (As := [.ref (q 0), .int (0 : Int32), .int x1]) (rest := []) ⟨hx, hb, hml, hown, hts⟩ (c_M_entry l D cy ad fu o q (q 0) z1 g_tId g_tOut g_oTx g_uOutput g_uNext g_chain g_uIs 3000 g_row (0 : Int32) x1 _ hc H.size) ⟨q_cB hts gw_1852 gw_18 gw_1849 hdm_13 ⟨by decide, by decide⟩, hts _ gw_1851, hts _ gs_88⟩ (q_preV (q_pre (hP.sub [0, 2, 3, 5, 6, 7, 8, 9, 1] rfl) (hD.sub [0, 2, 3, 5, 6, 7, 8, 9, 1] (by decide) rfl) hK hSt hS (va_free hD hS hA [0, 2, 3, 5, 6, 7, 8, 9, 1] rfl) _) (va_recv hK (hP.sub [0, 2, 3, 5, 6, 7, 8, 9, 1] rfl) (ci := 12) (q0 := 0) rfl rfl)) rfl rfl hl.1 rfl (lv_room (Nat.le_of_ble_eq_true rfl)) d_M_unspent_34 ⟨Nat.le_of_ble_eq_true rfl, Nat.le_of_ble_eq_true rfl⟩) hP hD hS hA [0, 2, 3, 5, 6, 7, 8, 9, 1] [4] rfl rfl (by decide) (by decide) (fun H locs hP hD hS => ?_)
    clear hc
    have hP : va_P D classes [((q 25), .inl (cy 2, 11600, .inr (.inl g_oValue))), (o, .inr (12, mo q z1)), ((q 14), .inl (cy 1, 17600, .inl g_tId)), ((q 17), .inl (cy 1, 2200, .inl g_tOut)), ((q 28), .inl (cy 1, 11600, .inl g_oTx)), ((q 29), .inl (cy 1, 11600, .inl g_uOutput)), ((q 31), .inl (cy 1, 11600, .inl g_uNext)), ((q 32), .inl (cy 1, 32768, .inl g_chain)), ((q 33), .inl (cy 3, 11600, .inl g_uIs)), ((q 0), .inl (cy 0, 3000, .inl g_row))] H := hP
    have hD : va_D A [((q 25), .inl (cy 2, 11600, .inr (.inl g_oValue))), (o, .inr (12, mo q z1)), ((q 14), .inl (cy 1, 17600, .inl g_tId)), ((q 17), .inl (cy 1, 2200, .inl g_tOut)), ((q 28), .inl (cy 1, 11600, .inl g_oTx)), ((q 29), .inl (cy 1, 11600, .inl g_uOutput)), ((q 31), .inl (cy 1, 11600, .inl g_uNext)), ((q 32), .inl (cy 1, 32768, .inl g_chain)), ((q 33), .inl (cy 3, 11600, .inl g_uIs)), ((q 0), .inl (cy 0, 3000, .inl g_row))] := hD
    refine lv_istore_n (lv' := [(2, .int v2), (0, .ref o), (1, .int x1)]) hx hb d_M_unspent_37 rfl hl (by decide) rfl (fun ls hl => ?_)
    refine lv_aload_n hx hb d_M_unspent_38 rfl (lv_at hl 1 rfl) ?_
    refine lv_iload_n hx hb d_M_unspent_39 rfl (lv_at hl 0 rfl) ?_
    refine lv_if_ge (tgt := 47) hx hb d_M_unspent_40 (by decide) (fun cx => ?_) (fun cx => ?_)
    · have hf := ifp cx hf
      refine lv_iconst (v := 0) hx hb d_M_unspent_47 (by decide) ?_
      exact wb_M_unspent_48 (fu := fu) F _ _ _ _ hf _ _ _ (hP.sub (ws' := [(o, .inr (12, mo q z1)), ((q 0), .inl (cy 0, 3000, .inl g_row)), ((q 14), .inl (cy 1, 17600, .inl g_tId)), ((q 17), .inl (cy 1, 2200, .inl g_tOut)), ((q 25), .inl (cy 2, 11600, .inr (.inl g_oValue))), ((q 28), .inl (cy 1, 11600, .inl g_oTx)), ((q 29), .inl (cy 1, 11600, .inl g_uOutput)), ((q 31), .inl (cy 1, 11600, .inl g_uNext)), ((q 32), .inl (cy 1, 32768, .inl g_chain)), ((q 33), .inl (cy 3, 11600, .inl g_uIs))]) [1, 9, 2, 3, 0, 4, 5, 6, 7, 8] rfl) (hD.sub (ws' := [(o, .inr (12, mo q z1)), ((q 0), .inl (cy 0, 3000, .inl g_row)), ((q 14), .inl (cy 1, 17600, .inl g_tId)), ((q 17), .inl (cy 1, 2200, .inl g_tOut)), ((q 25), .inl (cy 2, 11600, .inr (.inl g_oValue))), ((q 28), .inl (cy 1, 11600, .inl g_oTx)), ((q 29), .inl (cy 1, 11600, .inl g_uOutput)), ((q 31), .inl (cy 1, 11600, .inl g_uNext)), ((q 32), .inl (cy 1, 32768, .inl g_chain)), ((q 33), .inl (cy 3, 11600, .inl g_uIs))]) [1, 9, 2, 3, 0, 4, 5, 6, 7, 8] (by decide) rfl) hS (lv_sub hl [1, 0] rfl)
    · have hf := ifn cx hf
      refine lv_iconst (v := 2) hx hb d_M_unspent_43 (by decide) ?_
      refine lv_goto (tgt := 48) hx hb d_M_unspent_44 (by decide) ?_
      exact wb_M_unspent_48 (fu := fu) F _ _ _ _ hf _ _ _ (hP.sub (ws' := [(o, .inr (12, mo q z1)), ((q 0), .inl (cy 0, 3000, .inl g_row)), ((q 14), .inl (cy 1, 17600, .inl g_tId)), ((q 17), .inl (cy 1, 2200, .inl g_tOut)), ((q 25), .inl (cy 2, 11600, .inr (.inl g_oValue))), ((q 28), .inl (cy 1, 11600, .inl g_oTx)), ((q 29), .inl (cy 1, 11600, .inl g_uOutput)), ((q 31), .inl (cy 1, 11600, .inl g_uNext)), ((q 32), .inl (cy 1, 32768, .inl g_chain)), ((q 33), .inl (cy 3, 11600, .inl g_uIs))]) [1, 9, 2, 3, 0, 4, 5, 6, 7, 8] rfl) (hD.sub (ws' := [(o, .inr (12, mo q z1)), ((q 0), .inl (cy 0, 3000, .inl g_row)), ((q 14), .inl (cy 1, 17600, .inl g_tId)), ((q 17), .inl (cy 1, 2200, .inl g_tOut)), ((q 25), .inl (cy 2, 11600, .inr (.inl g_oValue))), ((q 28), .inl (cy 1, 11600, .inl g_oTx)), ((q 29), .inl (cy 1, 11600, .inl g_uOutput)), ((q 31), .inl (cy 1, 11600, .inl g_uNext)), ((q 32), .inl (cy 1, 32768, .inl g_chain)), ((q 33), .inl (cy 3, 11600, .inl g_uIs))]) [1, 9, 2, 3, 0, 4, 5, 6, 7, 8] (by decide) rfl) hS (lv_sub hl [1, 0] rfl)
  · have hf := ifn cx hf
    refine lv_lconst (v := 0) hx hb d_M_unspent_25 (by decide) ?_
    obtain rfl := Option.some.inj hf
    exact q_rl hx hb hr hlocks hK hP hD hS d_M_unspent_26
set_option maxHeartbeats 8000000 in
set_option maxRecDepth 100000 in
theorem we_M_unspent {p : Program} {l : Launch} {e : Env} {s : State} {m : MethodId} {args : Array Value} {below : List Frame} {meth : Method} {c : Code} {D : va_G} {cy : Nat → ClassId} {A : Nat → Prop} {ad : Nat → Nat} {o : Nat} {q : Nat → Nat} {g_row : Nat → Int32} {g_tId : Nat → Int32} {g_tOut : Nat → Int32} {g_oValue : Nat → Int64} {g_oTx : Nat → Int32} {g_uOutput : Nat → Int32} {g_uNext : Nat → Int32} {g_chain : Nat → Int32} {g_uIs : Nat → Int32} {fu : Nat} (F : Fx p s m args meth c b_M_unspent 3 "CoinKeeperModel" "unspent" (some .long) D cy ad A) : I_M_unspent_e p l e s m args below meth c D cy A ad o q g_row g_tId g_tOut g_oValue g_oTx g_uOutput g_uNext g_chain g_uIs (x_M_unspent fu g_row g_tId g_tOut g_oValue g_oTx g_uOutput g_uNext g_chain g_uIs) := by
  obtain ⟨hx, hb, hr, hml, hown, hts, hlocks, hK, hA, hSt, hnm, hex⟩ := id F
  intro a1 u0 res hf H locs ls hP hD hS hl
  unfold x_M_unspent at hf
  refine lv_aload_n hx hb d_M_unspent_0 rfl (lv_at hl 0 rfl) ?_
  refine lv_aload_n hx hb d_M_unspent_1 rfl (lv_at hl 0 rfl) ?_
  refine va_get (D := D) (ci := 12) (v := .int (u0 0)) (C := "CoinKeeperModel") (T := F_12) (N := 98) hx hb hts i_12 hown hK hP 0 rfl rfl 2 (by decide) (hts _ gw_1421) (fun _ h9 => h9) rfl d_M_unspent_2 ?_
  refine lv_bipush (v := 32) hx hb d_M_unspent_5 (by decide) ?_
  refine lv_icmp_eq (tgt := 14) hx hb d_M_unspent_7 (by decide) (fun cx => ?_) (fun cx => ?_)
  · have hf := ifp cx hf
    refine lv_iconst (v := 0) hx hb d_M_unspent_14 (by decide) ?_
    exact wb_M_unspent_15 (fu := fu) F _ _ _ _ hf _ _ _ hP hD hS (lv_sub hl [0, 1] rfl)
  · have hf := ifn cx hf
    refine lv_iconst (v := 1) hx hb d_M_unspent_10 (by decide) ?_
    refine lv_goto (tgt := 15) hx hb d_M_unspent_11 (by decide) ?_
    exact wb_M_unspent_15 (fu := fu) F _ _ _ _ hf _ _ _ hP hD hS (lv_sub hl [0, 1] rfl)
theorem c_M_unspent (l : Launch) (D : va_G) (cy : Nat → ClassId) (ad : Nat → Nat) (fu : Nat) (o : Nat) (q : Nat → Nat) (g_row : Nat → Int32) (g_tId : Nat → Int32) (g_tOut : Nat → Int32) (g_oValue : Nat → Int64) (g_oTx : Nat → Int32) (g_uOutput : Nat → Int32) (g_uNext : Nat → Int32) (g_chain : Nat → Int32) (g_uIs : Nat → Int32) (a1 : Int32) (u0 : Nat → Int32) (res : Int64 × (Nat → Int32)) (hf : x_M_unspent fu g_row g_tId g_tOut g_oValue g_oTx g_uOutput g_uNext g_chain g_uIs a1 u0 = some res) (sz : Nat) : Met l ({ cls := "CoinKeeperModel", name := "unspent", desc := "(I)J" } : Jvm.MethodName) (.code ({ cls := "CoinKeeperModel", name := "unspent", desc := "(I)J" } : Jvm.MethodName) b_M_unspent 3 (some .long) :: gw) rm_M_unspent (va_Pc [.ref o, .int a1] (Pr D cy ad [(o, .inr (12, mo q u0)), ((q 0), .inl (cy 0, 3000, .inl g_row)), ((q 14), .inl (cy 1, 17600, .inl g_tId)), ((q 17), .inl (cy 1, 2200, .inl g_tOut)), ((q 25), .inl (cy 2, 11600, .inr (.inl g_oValue))), ((q 28), .inl (cy 1, 11600, .inl g_oTx)), ((q 29), .inl (cy 1, 11600, .inl g_uOutput)), ((q 31), .inl (cy 1, 11600, .inl g_uNext)), ((q 32), .inl (cy 1, 32768, .inl g_chain)), ((q 33), .inl (cy 3, 11600, .inl g_uIs))] sz)) (q_M_unspent D cy (va_A [(o, .inr (12, mo q u0)), ((q 0), .inl (cy 0, 3000, .inl g_row)), ((q 14), .inl (cy 1, 17600, .inl g_tId)), ((q 17), .inl (cy 1, 2200, .inl g_tOut)), ((q 25), .inl (cy 2, 11600, .inr (.inl g_oValue))), ((q 28), .inl (cy 1, 11600, .inl g_oTx)), ((q 29), .inl (cy 1, 11600, .inl g_uOutput)), ((q 31), .inl (cy 1, 11600, .inl g_uNext)), ((q 32), .inl (cy 1, 32768, .inl g_chain)), ((q 33), .inl (cy 3, 11600, .inl g_uIs))] sz) o q g_row g_tId g_tOut g_oValue g_oTx g_uOutput g_uNext g_chain g_uIs res) 0 0 (va_A [(o, .inr (12, mo q u0)), ((q 0), .inl (cy 0, 3000, .inl g_row)), ((q 14), .inl (cy 1, 17600, .inl g_tId)), ((q 17), .inl (cy 1, 2200, .inl g_tOut)), ((q 25), .inl (cy 2, 11600, .inr (.inl g_oValue))), ((q 28), .inl (cy 1, 11600, .inl g_oTx)), ((q 29), .inl (cy 1, 11600, .inl g_uOutput)), ((q 31), .inl (cy 1, 11600, .inl g_uNext)), ((q 32), .inl (cy 1, 32768, .inl g_chain)), ((q 33), .inl (cy 3, 11600, .inl g_uIs))] sz) :=
  q_met (Qc := fun A => q_M_unspent D cy A o q g_row g_tId g_tOut g_oValue g_oTx g_uOutput g_uNext g_chain g_uIs res) (by decide) rfl rfl (Nat.le_of_ble_eq_true rfl) (fun p e s m below meth c ls F hP hD hS hl => we_M_unspent (fu := fu) F a1 u0 res hf _ _ _ hP hD hS hl) sz
