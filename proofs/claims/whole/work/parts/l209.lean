abbrev b_Si_readNumber : ByteArray := prog_12_method_5_code
theorem d_Si_readNumber_0 : decode b_Si_readNumber 0 = .ok (.iload_n 2, 1) := by decide +kernel
theorem d_Si_readNumber_1 : decode b_Si_readNumber 1 = .ok (.ifCond .le 13, 3) := by decide +kernel
theorem d_Si_readNumber_4 : decode b_Si_readNumber 4 = .ok (.aload_n 0, 1) := by decide +kernel
theorem d_Si_readNumber_5 : decode b_Si_readNumber 5 = .ok (.iload_n 1, 1) := by decide +kernel
theorem d_Si_readNumber_6 : decode b_Si_readNumber 6 = .ok (.baload, 1) := by decide +kernel
theorem d_Si_readNumber_7 : decode b_Si_readNumber 7 = .ok (.ifCond .ne 7, 3) := by decide +kernel
theorem d_Si_readNumber_10 : decode b_Si_readNumber 10 = .ok (.iconst 1, 1) := by decide +kernel
theorem d_Si_readNumber_11 : decode b_Si_readNumber 11 = .ok (.goto 4, 3) := by decide +kernel
theorem d_Si_readNumber_14 : decode b_Si_readNumber 14 = .ok (.iconst 0, 1) := by decide +kernel
theorem d_Si_readNumber_15 : decode b_Si_readNumber 15 = .ok (.istore 4, 2) := by decide +kernel
theorem d_Si_readNumber_17 : decode b_Si_readNumber 17 = .ok (.iload_n 2, 1) := by decide +kernel
theorem d_Si_readNumber_18 : decode b_Si_readNumber 18 = .ok (.iload 4, 2) := by decide +kernel
theorem d_Si_readNumber_20 : decode b_Si_readNumber 20 = .ok (.isub, 1) := by decide +kernel
theorem d_Si_readNumber_21 : decode b_Si_readNumber 21 = .ok (.bipush 32, 2) := by decide +kernel
theorem d_Si_readNumber_23 : decode b_Si_readNumber 23 = .ok (.if_icmp .le 5, 3) := by decide +kernel
theorem d_Si_readNumber_26 : decode b_Si_readNumber 26 = .ok (.iconst 0, 1) := by decide +kernel
theorem d_Si_readNumber_27 : decode b_Si_readNumber 27 = .ok (.ireturn, 1) := by decide +kernel
theorem d_Si_readNumber_28 : decode b_Si_readNumber 28 = .ok (.aload_n 0, 1) := by decide +kernel
theorem d_Si_readNumber_29 : decode b_Si_readNumber 29 = .ok (.iload_n 1, 1) := by decide +kernel
theorem d_Si_readNumber_30 : decode b_Si_readNumber 30 = .ok (.iload 4, 2) := by decide +kernel
theorem d_Si_readNumber_32 : decode b_Si_readNumber 32 = .ok (.iadd, 1) := by decide +kernel
theorem d_Si_readNumber_33 : decode b_Si_readNumber 33 = .ok (.iload_n 2, 1) := by decide +kernel
theorem d_Si_readNumber_34 : decode b_Si_readNumber 34 = .ok (.iload 4, 2) := by decide +kernel
theorem d_Si_readNumber_36 : decode b_Si_readNumber 36 = .ok (.isub, 1) := by decide +kernel
theorem d_Si_readNumber_37 : decode b_Si_readNumber 37 = .ok (.aload_n 3, 1) := by decide +kernel
theorem d_Si_readNumber_38 : decode b_Si_readNumber 38 = .ok (.invokestatic 79, 3) := by decide +kernel
theorem d_Si_readNumber_41 : decode b_Si_readNumber 41 = .ok (.aload_n 3, 1) := by decide +kernel
theorem d_Si_readNumber_42 : decode b_Si_readNumber 42 = .ok (.invokestatic 111, 3) := by decide +kernel
theorem d_Si_readNumber_45 : decode b_Si_readNumber 45 = .ok (.ifCond .ne 17, 3) := by decide +kernel
theorem d_Si_readNumber_48 : decode b_Si_readNumber 48 = .ok (.aload_n 3, 1) := by decide +kernel
theorem d_Si_readNumber_49 : decode b_Si_readNumber 49 = .ok (.getstatic 83, 3) := by decide +kernel
theorem d_Si_readNumber_52 : decode b_Si_readNumber 52 = .ok (.invokestatic 86, 3) := by decide +kernel
theorem d_Si_readNumber_55 : decode b_Si_readNumber 55 = .ok (.ifCond .ge 7, 3) := by decide +kernel
theorem d_Si_readNumber_58 : decode b_Si_readNumber 58 = .ok (.iconst 1, 1) := by decide +kernel
theorem d_Si_readNumber_59 : decode b_Si_readNumber 59 = .ok (.goto 4, 3) := by decide +kernel
theorem d_Si_readNumber_62 : decode b_Si_readNumber 62 = .ok (.iconst 0, 1) := by decide +kernel
theorem d_Si_readNumber_63 : decode b_Si_readNumber 63 = .ok (.ireturn, 1) := by decide +kernel
abbrev rm_Si_readNumber : Room := { frames := 1, cells := 0, slots := 0, locals := 28 }
abbrev q_Si_readNumber (D : va_G) (cy : Nat → ClassId) (A : Nat → Prop) (b0 : Nat) (b3 : Nat) (n0 : Nat) (h0 : Nat → Int32) (res : Int32 × (Nat → Int64)) : Array Value → State → Outcome → State → Prop := va_Qi (fun r' (_ : Unit) => r' = res.1) (fun _ t => Po D cy A [(b0, .inl (cy 0, n0, .inl h0)), (b3, .inl (cy 2, 5, .inr (.inl res.2)))] t) A
def I_Si_readNumber_15 (p : Program) (l : Launch) (e : Env) (s : State) (m : MethodId) (args : Array Value) (below : List Frame) (meth : Method) (c : Code) (D : va_G) (cy : Nat → ClassId) (A : Nat → Prop) (ad : Nat → Nat) (b0 : Nat) (b3 : Nat) (n0 : Nat) (h0 : Nat → Int32) (k : Int32 → Int32 → Int32 → (Nat → Int64) → Option (Int32 × (Nat → Int64))) : Prop :=
  ∀ (x1 : Int32) (x2 : Int32) (y0 : Int32) (u0 : Nat → Int64) (res : Int32 × (Nat → Int64)), k x1 x2 y0 u0 = some res → ∀ (H : Heap) (locs : List Loc) (ls : Array Slot), va_P D classes [(b0, .inl (cy 0, n0, .inl h0)), (b3, .inl (cy 2, 5, .inr (.inl u0)))] H → va_D A [(b0, .inl (cy 0, n0, .inl h0)), (b3, .inl (cy 2, 5, .inr (.inl u0)))] → va_S A s.heap H locs → lv_has ls 5 [(0, .ref b0), (1, .int x1), (2, .int x2), (3, .ref b3)] → W p l e rm_Si_readNumber s m args below meth c H locs 0 0 (MQ below (q_Si_readNumber D cy A b0 b3 n0 h0 res) args s 0 0 A) (F0 m 15 ls [.int y0])
def I_Si_readNumber_14 (p : Program) (l : Launch) (e : Env) (s : State) (m : MethodId) (args : Array Value) (below : List Frame) (meth : Method) (c : Code) (D : va_G) (cy : Nat → ClassId) (A : Nat → Prop) (ad : Nat → Nat) (b0 : Nat) (b3 : Nat) (n0 : Nat) (h0 : Nat → Int32) (k : Int32 → Int32 → (Nat → Int64) → Option (Int32 × (Nat → Int64))) : Prop :=
  ∀ (x1 : Int32) (x2 : Int32) (u0 : Nat → Int64) (res : Int32 × (Nat → Int64)), k x1 x2 u0 = some res → ∀ (H : Heap) (locs : List Loc) (ls : Array Slot), va_P D classes [(b0, .inl (cy 0, n0, .inl h0)), (b3, .inl (cy 2, 5, .inr (.inl u0)))] H → va_D A [(b0, .inl (cy 0, n0, .inl h0)), (b3, .inl (cy 2, 5, .inr (.inl u0)))] → va_S A s.heap H locs → lv_has ls 5 [(0, .ref b0), (1, .int x1), (2, .int x2), (3, .ref b3)] → W p l e rm_Si_readNumber s m args below meth c H locs 0 0 (MQ below (q_Si_readNumber D cy A b0 b3 n0 h0 res) args s 0 0 A) (F0 m 14 ls [])
def I_Si_readNumber_e (p : Program) (l : Launch) (e : Env) (s : State) (m : MethodId) (args : Array Value) (below : List Frame) (meth : Method) (c : Code) (D : va_G) (cy : Nat → ClassId) (A : Nat → Prop) (ad : Nat → Nat) (b0 : Nat) (b3 : Nat) (n0 : Nat) (h0 : Nat → Int32) (k : Int32 → Int32 → (Nat → Int64) → Option (Int32 × (Nat → Int64))) : Prop :=
  ∀ (a1 : Int32) (a2 : Int32) (u0 : Nat → Int64) (res : Int32 × (Nat → Int64)), k a1 a2 u0 = some res → ∀ (H : Heap) (locs : List Loc) (ls : Array Slot), va_P D classes [(b0, .inl (cy 0, n0, .inl h0)), (b3, .inl (cy 2, 5, .inr (.inl u0)))] H → va_D A [(b0, .inl (cy 0, n0, .inl h0)), (b3, .inl (cy 2, 5, .inr (.inl u0)))] → va_S A s.heap H locs → lv_has ls 5 [(0, .ref b0), (1, .int a1), (2, .int a2), (3, .ref b3)] → W p l e rm_Si_readNumber s m args below meth c H locs 0 0 (MQ below (q_Si_readNumber D cy A b0 b3 n0 h0 res) args s 0 0 A) (F0 m 0 ls [])
theorem hdc_22 : ({ cls := "CoinKeeper$Scalar", name := "isZero", desc := "([J)Z" } : Jvm.MethodName).cls ≠ "java/lang/invoke/MethodHandle" ∧ ({ cls := "CoinKeeper$Scalar", name := "isZero", desc := "([J)Z" } : Jvm.MethodName).cls ≠ "java/lang/invoke/VarHandle" ∧ (parseMethodDescriptor ({ cls := "CoinKeeper$Scalar", name := "isZero", desc := "([J)Z" } : Jvm.MethodName).desc).map (fun d => d.parameters.length) = some 1 := by decide +kernel
set_option maxHeartbeats 8000000 in
set_option maxRecDepth 100000 in
theorem wb_Si_readNumber_15 {p : Program} {l : Launch} {e : Env} {s : State} {m : MethodId} {args : Array Value} {below : List Frame} {meth : Method} {c : Code} {D : va_G} {cy : Nat → ClassId} {A : Nat → Prop} {ad : Nat → Nat} {b0 : Nat} {b3 : Nat} {n0 : Nat} {h0 : Nat → Int32} {fu : Nat} (F : Fx p s m args meth c b_Si_readNumber 5 "CoinKeeper$Signatures" "readNumber" (some .boolean) D cy ad A) : I_Si_readNumber_15 p l e s m args below meth c D cy A ad b0 b3 n0 h0 (xb_Si_readNumber_15 fu n0 h0) := by
  obtain ⟨hx, hb, hr, hml, hown, hts, hlocks, hK, hA, hSt, hnm, hex⟩ := id F
  intro x1 x2 y0 u0 res hf H locs ls hP hD hS hl
  unfold xb_Si_readNumber_15 at hf
  refine lv_istore (lv' := [(4, .int y0), (0, .ref b0), (1, .int x1), (2, .int x2), (3, .ref b3)]) hx hb d_Si_readNumber_15 hl (by decide) rfl (fun ls hl => ?_)
  refine lv_iload_n hx hb d_Si_readNumber_17 rfl (lv_at hl 3 rfl) ?_
  refine lv_iload hx hb d_Si_readNumber_18 (lv_at hl 0 rfl) ?_
  refine lv_isub hx hb d_Si_readNumber_20 ?_
  refine lv_topi (fun v1 ev => ?_)
  have hf := bn ev hf
  clear ev
  refine lv_bipush (v := 32) hx hb d_Si_readNumber_21 (by decide) ?_
  refine lv_icmp_le (tgt := 28) hx hb d_Si_readNumber_23 (by decide) (fun cx => ?_) (fun cx => ?_)
  · have hf := ifp cx hf
    refine lv_aload_n hx hb d_Si_readNumber_28 rfl (lv_at hl 1 rfl) ?_
    refine lv_iload_n hx hb d_Si_readNumber_29 rfl (lv_at hl 2 rfl) ?_
    refine lv_iload hx hb d_Si_readNumber_30 (lv_at hl 0 rfl) ?_
    refine lv_iadd hx hb d_Si_readNumber_32 ?_
    refine lv_topi (fun v2 ev => ?_)
    have hf := bn ev hf
    clear ev
    refine lv_iload_n hx hb d_Si_readNumber_33 rfl (lv_at hl 3 rfl) ?_
    refine lv_iload hx hb d_Si_readNumber_34 (lv_at hl 0 rfl) ?_
    refine lv_isub hx hb d_Si_readNumber_36 ?_
    refine lv_topi (fun v3 ev => ?_)
    have hf := bn ev hf
    clear ev
    refine lv_aload_n hx hb d_Si_readNumber_37 rfl (lv_at hl 4 rfl) ?_
    obtain ⟨f4, hc, hf⟩ := bdp1 hf
    refine q_av (wr := []) (va_runS (As := [.ref b0, .int v2, .int v3, .ref b3]) (rest := []) ⟨hx, hb, hml, hown, hts⟩ (c_Sc_load l D cy ad fu b0 b3 n0 h0 v2 v3 u0 _ hc H.size) ⟨q_cB hts gw_1049 gw_28 gw_1047 hdc_13 ⟨by decide, by decide⟩, hts _ gw_1048⟩ (q_pre (hP.sub [0, 1] rfl) (hD.sub [0, 1] (by decide) rfl) hK hSt hS (va_free hD hS hA [0, 1] rfl) _) rfl rfl hl.1 rfl (lv_room (Nat.le_of_ble_eq_true rfl)) d_Si_readNumber_38 ⟨Nat.le_of_ble_eq_true rfl, Nat.le_of_ble_eq_true rfl⟩) hP hD hS hA [0, 1] [] rfl rfl (by decide) (by decide) (fun H locs hP hD hS => ?_)
    clear hc
    have hP : va_P D classes [(b0, .inl (cy 0, n0, .inl h0)), (b3, .inl (cy 2, 5, .inr (.inl f4)))] H := hP
    have hD : va_D A [(b0, .inl (cy 0, n0, .inl h0)), (b3, .inl (cy 2, 5, .inr (.inl f4)))] := hD
    refine lv_aload_n hx hb d_Si_readNumber_41 rfl (lv_at hl 4 rfl) ?_
    obtain ⟨v5, hc, hf⟩ := bdp1 hf
    refine q_ai (wr := [(b0, .inl (cy 0, n0, .inl h0))]) (va_runS (As := [.ref b3]) (rest := []) ⟨hx, hb, hml, hown, hts⟩ (c_Sc_isZero l D cy ad fu b3 f4 _ hc H.size) ⟨q_cB hts gw_1054 gw_28 gw_1052 hdc_22 ⟨by decide, by decide⟩, hts _ gw_1053⟩ (q_pre (hP.sub [1] rfl) (hD.sub [1] (by decide) rfl) hK hSt hS (va_free hD hS hA [1] rfl) _) rfl rfl hl.1 rfl (lv_room (Nat.le_of_ble_eq_true rfl)) d_Si_readNumber_42 ⟨Nat.le_of_ble_eq_true rfl, Nat.le_of_ble_eq_true rfl⟩) hP hD hS hA [1] [0] rfl rfl (by decide) (by decide) (fun H locs hP hD hS => ?_)
    clear hc
    have hP : va_P D classes [(b0, .inl (cy 0, n0, .inl h0)), (b3, .inl (cy 2, 5, .inr (.inl f4)))] H := hP
    have hD : va_D A [(b0, .inl (cy 0, n0, .inl h0)), (b3, .inl (cy 2, 5, .inr (.inl f4)))] := hD
    refine lv_if_ne (tgt := 62) hx hb d_Si_readNumber_45 (by decide) (fun cx => ?_) (fun cx => ?_)
    · have hf := ifn cx hf
      refine lv_iconst (v := 0) hx hb d_Si_readNumber_62 (by decide) ?_
      obtain rfl := Option.some.inj hf
      exact q_rz hx hb hr hlocks hK hP hD hS (isb_n (v := 0) (by decide)) d_Si_readNumber_63
    · have hf := ifp cx hf
      refine lv_aload_n hx hb d_Si_readNumber_48 rfl (lv_at hl 4 rfl) ?_
      refine va_gets hx hb (hSt.1 4 _ rfl).1 hS hown (hts _ gw_1055) (fun _ h9 => h9) d_Si_readNumber_49 ?_
      obtain ⟨v6, hc, hf⟩ := bdp1 hf
      refine q_ai (wr := [(b0, .inl (cy 0, n0, .inl h0))]) (va_runS (As := [.ref b3, .ref (ad 4)]) (rest := []) ⟨hx, hb, hml, hown, hts⟩ (c_Sc_compare_s1x4 l D cy ad fu b3 f4 _ hc H.size) ⟨q_cB hts gw_1059 gw_28 gw_1057 hdc_14 ⟨by decide, by decide⟩, hts _ gw_1058⟩ (q_pre (hP.sub [1] rfl) (hD.sub [1] (by decide) rfl) hK hSt hS (va_free hD hS hA [1] rfl) _) rfl rfl hl.1 rfl (lv_room (Nat.le_of_ble_eq_true rfl)) d_Si_readNumber_52 ⟨Nat.le_of_ble_eq_true rfl, Nat.le_of_ble_eq_true rfl⟩) hP hD hS hA [1] [0] rfl rfl (by decide) (by decide) (fun H locs hP hD hS => ?_)
      clear hc
      have hP : va_P D classes [(b0, .inl (cy 0, n0, .inl h0)), (b3, .inl (cy 2, 5, .inr (.inl f4)))] H := hP
      have hD : va_D A [(b0, .inl (cy 0, n0, .inl h0)), (b3, .inl (cy 2, 5, .inr (.inl f4)))] := hD
      refine lv_if_ge (tgt := 62) hx hb d_Si_readNumber_55 (by decide) (fun cx => ?_) (fun cx => ?_)
      · have hf := ifp cx hf
        refine lv_iconst (v := 0) hx hb d_Si_readNumber_62 (by decide) ?_
        obtain rfl := Option.some.inj hf
        exact q_rz hx hb hr hlocks hK hP hD hS (isb_n (v := 0) (by decide)) d_Si_readNumber_63
      · have hf := ifn cx hf
        refine lv_iconst (v := 1) hx hb d_Si_readNumber_58 (by decide) ?_
        refine lv_goto (tgt := 63) hx hb d_Si_readNumber_59 (by decide) ?_
        obtain rfl := Option.some.inj hf
        exact q_rz hx hb hr hlocks hK hP hD hS (isb_n (v := 1) (by decide)) d_Si_readNumber_63
  · have hf := ifn cx hf
    refine lv_iconst (v := 0) hx hb d_Si_readNumber_26 (by decide) ?_
    obtain rfl := Option.some.inj hf
    exact q_rz hx hb hr hlocks hK hP hD hS (isb_n (v := 0) (by decide)) d_Si_readNumber_27
set_option maxHeartbeats 8000000 in
set_option maxRecDepth 100000 in
theorem wb_Si_readNumber_14 {p : Program} {l : Launch} {e : Env} {s : State} {m : MethodId} {args : Array Value} {below : List Frame} {meth : Method} {c : Code} {D : va_G} {cy : Nat → ClassId} {A : Nat → Prop} {ad : Nat → Nat} {b0 : Nat} {b3 : Nat} {n0 : Nat} {h0 : Nat → Int32} {fu : Nat} (F : Fx p s m args meth c b_Si_readNumber 5 "CoinKeeper$Signatures" "readNumber" (some .boolean) D cy ad A) : I_Si_readNumber_14 p l e s m args below meth c D cy A ad b0 b3 n0 h0 (xb_Si_readNumber_14 fu n0 h0) := by
  obtain ⟨hx, hb, hr, hml, hown, hts, hlocks, hK, hA, hSt, hnm, hex⟩ := id F
  intro x1 x2 u0 res hf H locs ls hP hD hS hl
  unfold xb_Si_readNumber_14 at hf
  refine lv_iconst (v := 0) hx hb d_Si_readNumber_14 (by decide) ?_
  exact wb_Si_readNumber_15 (fu := fu) F _ _ _ _ _ hf _ _ _ hP hD hS (lv_sub hl [0, 1, 2, 3] rfl)
set_option maxHeartbeats 8000000 in
set_option maxRecDepth 100000 in
theorem we_Si_readNumber {p : Program} {l : Launch} {e : Env} {s : State} {m : MethodId} {args : Array Value} {below : List Frame} {meth : Method} {c : Code} {D : va_G} {cy : Nat → ClassId} {A : Nat → Prop} {ad : Nat → Nat} {b0 : Nat} {b3 : Nat} {n0 : Nat} {h0 : Nat → Int32} {fu : Nat} (F : Fx p s m args meth c b_Si_readNumber 5 "CoinKeeper$Signatures" "readNumber" (some .boolean) D cy ad A) : I_Si_readNumber_e p l e s m args below meth c D cy A ad b0 b3 n0 h0 (x_Si_readNumber fu n0 h0) := by
  obtain ⟨hx, hb, hr, hml, hown, hts, hlocks, hK, hA, hSt, hnm, hex⟩ := id F
  intro a1 a2 u0 res hf H locs ls hP hD hS hl
  unfold x_Si_readNumber at hf
  refine lv_iload_n hx hb d_Si_readNumber_0 rfl (lv_at hl 2 rfl) ?_
  refine lv_if_le (tgt := 14) hx hb d_Si_readNumber_1 (by decide) (fun cx => ?_) (fun cx => ?_)
  · have hf := ifp cx hf
    exact wb_Si_readNumber_14 (fu := fu) F _ _ _ _ hf _ _ _ hP hD hS (lv_sub hl [0, 1, 2, 3] rfl)
  · have hf := ifn cx hf
    refine lv_aload_n hx hb d_Si_readNumber_4 rfl (lv_at hl 0 rfl) ?_
    refine lv_iload_n hx hb d_Si_readNumber_5 rfl (lv_at hl 1 rfl) ?_
    obtain ⟨hg, hf⟩ := gdp hf
    refine va_bald hx hb hK hP 0 0 rfl rfl (inb_in hg) d_Si_readNumber_6 ?_
    refine lv_topi (fun v1 ev => ?_)
    have hf := bn ev hf
    clear ev
    refine lv_if_ne (tgt := 14) hx hb d_Si_readNumber_7 (by decide) (fun cx => ?_) (fun cx => ?_)
    · have hf := ifn cx hf
      exact wb_Si_readNumber_14 (fu := fu) F _ _ _ _ hf _ _ _ hP hD hS (lv_sub hl [0, 1, 2, 3] rfl)
    · have hf := ifp cx hf
      refine lv_iconst (v := 1) hx hb d_Si_readNumber_10 (by decide) ?_
      refine lv_goto (tgt := 15) hx hb d_Si_readNumber_11 (by decide) ?_
      exact wb_Si_readNumber_15 (fu := fu) F _ _ _ _ _ hf _ _ _ hP hD hS (lv_sub hl [0, 1, 2, 3] rfl)
theorem c_Si_readNumber (l : Launch) (D : va_G) (cy : Nat → ClassId) (ad : Nat → Nat) (fu : Nat) (b0 : Nat) (b3 : Nat) (n0 : Nat) (h0 : Nat → Int32) (a1 : Int32) (a2 : Int32) (u0 : Nat → Int64) (res : Int32 × (Nat → Int64)) (hf : x_Si_readNumber fu n0 h0 a1 a2 u0 = some res) (sz : Nat) : Met l ({ cls := "CoinKeeper$Signatures", name := "readNumber", desc := "([BII[J)Z" } : Jvm.MethodName) (.code ({ cls := "CoinKeeper$Signatures", name := "readNumber", desc := "([BII[J)Z" } : Jvm.MethodName) b_Si_readNumber 5 (some .boolean) :: gw) rm_Si_readNumber (va_Pc [.ref b0, .int a1, .int a2, .ref b3] (Pr D cy ad [(b0, .inl (cy 0, n0, .inl h0)), (b3, .inl (cy 2, 5, .inr (.inl u0)))] sz)) (q_Si_readNumber D cy (va_A [(b0, .inl (cy 0, n0, .inl h0)), (b3, .inl (cy 2, 5, .inr (.inl u0)))] sz) b0 b3 n0 h0 res) 0 0 (va_A [(b0, .inl (cy 0, n0, .inl h0)), (b3, .inl (cy 2, 5, .inr (.inl u0)))] sz) :=
  q_met (Qc := fun A => q_Si_readNumber D cy A b0 b3 n0 h0 res) (by decide) rfl rfl (Nat.le_of_ble_eq_true rfl) (fun p e s m below meth c ls F hP hD hS hl => we_Si_readNumber (fu := fu) F a1 a2 u0 res hf _ _ _ hP hD hS hl) sz
abbrev b_Si_writeDigits : ByteArray := prog_12_method_7_code
theorem d_Si_writeDigits_0 : decode b_Si_writeDigits 0 = .ok (.iconst 0, 1) := by decide +kernel
theorem d_Si_writeDigits_1 : decode b_Si_writeDigits 1 = .ok (.istore_n 2, 1) := by decide +kernel
theorem d_Si_writeDigits_2 : decode b_Si_writeDigits 2 = .ok (.iload_n 2, 1) := by decide +kernel
theorem d_Si_writeDigits_3 : decode b_Si_writeDigits 3 = .ok (.aload_n 1, 1) := by decide +kernel
theorem d_Si_writeDigits_4 : decode b_Si_writeDigits 4 = .ok (.arraylength, 1) := by decide +kernel
theorem d_Si_writeDigits_5 : decode b_Si_writeDigits 5 = .ok (.if_icmp .ge 13, 3) := by decide +kernel
theorem d_Si_writeDigits_8 : decode b_Si_writeDigits 8 = .ok (.aload_n 1, 1) := by decide +kernel
theorem d_Si_writeDigits_9 : decode b_Si_writeDigits 9 = .ok (.iload_n 2, 1) := by decide +kernel
theorem d_Si_writeDigits_10 : decode b_Si_writeDigits 10 = .ok (.iconst 0, 1) := by decide +kernel
theorem d_Si_writeDigits_11 : decode b_Si_writeDigits 11 = .ok (.bastore, 1) := by decide +kernel
theorem d_Si_writeDigits_12 : decode b_Si_writeDigits 12 = .ok (.iinc 2 1, 3) := by decide +kernel
theorem d_Si_writeDigits_15 : decode b_Si_writeDigits 15 = .ok (.goto (-13), 3) := by decide +kernel
theorem d_Si_writeDigits_18 : decode b_Si_writeDigits 18 = .ok (.iconst 0, 1) := by decide +kernel
theorem d_Si_writeDigits_19 : decode b_Si_writeDigits 19 = .ok (.istore_n 2, 1) := by decide +kernel
theorem d_Si_writeDigits_20 : decode b_Si_writeDigits 20 = .ok (.iconst 0, 1) := by decide +kernel
theorem d_Si_writeDigits_21 : decode b_Si_writeDigits 21 = .ok (.istore_n 3, 1) := by decide +kernel
theorem d_Si_writeDigits_22 : decode b_Si_writeDigits 22 = .ok (.iload_n 3, 1) := by decide +kernel
theorem d_Si_writeDigits_23 : decode b_Si_writeDigits 23 = .ok (.sipush 257, 3) := by decide +kernel
theorem d_Si_writeDigits_26 : decode b_Si_writeDigits 26 = .ok (.if_icmp .ge 50, 3) := by decide +kernel
theorem d_Si_writeDigits_29 : decode b_Si_writeDigits 29 = .ok (.aload_n 0, 1) := by decide +kernel
theorem d_Si_writeDigits_30 : decode b_Si_writeDigits 30 = .ok (.iload_n 3, 1) := by decide +kernel
theorem d_Si_writeDigits_31 : decode b_Si_writeDigits 31 = .ok (.iconst 1, 1) := by decide +kernel
theorem d_Si_writeDigits_32 : decode b_Si_writeDigits 32 = .ok (.invokestatic 131, 3) := by decide +kernel
theorem d_Si_writeDigits_35 : decode b_Si_writeDigits 35 = .ok (.iload_n 2, 1) := by decide +kernel
theorem d_Si_writeDigits_36 : decode b_Si_writeDigits 36 = .ok (.if_icmp .ne 9, 3) := by decide +kernel
theorem d_Si_writeDigits_39 : decode b_Si_writeDigits 39 = .ok (.iinc 3 1, 3) := by decide +kernel
theorem d_Si_writeDigits_42 : decode b_Si_writeDigits 42 = .ok (.goto (-20), 3) := by decide +kernel
theorem d_Si_writeDigits_45 : decode b_Si_writeDigits 45 = .ok (.aload_n 0, 1) := by decide +kernel
theorem d_Si_writeDigits_46 : decode b_Si_writeDigits 46 = .ok (.iload_n 3, 1) := by decide +kernel
theorem d_Si_writeDigits_47 : decode b_Si_writeDigits 47 = .ok (.iconst 5, 1) := by decide +kernel
theorem d_Si_writeDigits_48 : decode b_Si_writeDigits 48 = .ok (.invokestatic 131, 3) := by decide +kernel
theorem d_Si_writeDigits_51 : decode b_Si_writeDigits 51 = .ok (.iload_n 2, 1) := by decide +kernel
theorem d_Si_writeDigits_52 : decode b_Si_writeDigits 52 = .ok (.iadd, 1) := by decide +kernel
theorem d_Si_writeDigits_53 : decode b_Si_writeDigits 53 = .ok (.istore 4, 2) := by decide +kernel
theorem d_Si_writeDigits_55 : decode b_Si_writeDigits 55 = .ok (.iload 4, 2) := by decide +kernel
theorem d_Si_writeDigits_57 : decode b_Si_writeDigits 57 = .ok (.iconst 4, 1) := by decide +kernel
theorem d_Si_writeDigits_58 : decode b_Si_writeDigits 58 = .ok (.ishr, 1) := by decide +kernel
theorem d_Si_writeDigits_59 : decode b_Si_writeDigits 59 = .ok (.istore_n 2, 1) := by decide +kernel
theorem d_Si_writeDigits_60 : decode b_Si_writeDigits 60 = .ok (.aload_n 1, 1) := by decide +kernel
theorem d_Si_writeDigits_61 : decode b_Si_writeDigits 61 = .ok (.iload_n 3, 1) := by decide +kernel
theorem d_Si_writeDigits_62 : decode b_Si_writeDigits 62 = .ok (.iload 4, 2) := by decide +kernel
theorem d_Si_writeDigits_64 : decode b_Si_writeDigits 64 = .ok (.iload_n 2, 1) := by decide +kernel
theorem d_Si_writeDigits_65 : decode b_Si_writeDigits 65 = .ok (.iconst 5, 1) := by decide +kernel
theorem d_Si_writeDigits_66 : decode b_Si_writeDigits 66 = .ok (.ishl, 1) := by decide +kernel
theorem d_Si_writeDigits_67 : decode b_Si_writeDigits 67 = .ok (.isub, 1) := by decide +kernel
theorem d_Si_writeDigits_68 : decode b_Si_writeDigits 68 = .ok (.i2b, 1) := by decide +kernel
theorem d_Si_writeDigits_69 : decode b_Si_writeDigits 69 = .ok (.bastore, 1) := by decide +kernel
theorem d_Si_writeDigits_70 : decode b_Si_writeDigits 70 = .ok (.iinc 3 5, 3) := by decide +kernel
theorem d_Si_writeDigits_73 : decode b_Si_writeDigits 73 = .ok (.goto (-51), 3) := by decide +kernel
theorem d_Si_writeDigits_76 : decode b_Si_writeDigits 76 = .ok (.return_, 1) := by decide +kernel
abbrev rm_Si_writeDigits : Room := { frames := 1, cells := 0, slots := 0, locals := 26 }
abbrev q_Si_writeDigits (D : va_G) (cy : Nat → ClassId) (A : Nat → Prop) (b0 : Nat) (b1 : Nat) (h0 : Nat → Int64) (n1 : Nat) (res : (Nat → Int32)) : Array Value → State → Outcome → State → Prop := va_Qv (fun (_ : Unit) => True) (fun _ t => Po D cy A [(b0, .inl (cy 2, 5, .inr (.inl h0))), (b1, .inl (cy 0, n1, .inl res))] t) A
def I_Si_writeDigits_22 (p : Program) (l : Launch) (e : Env) (s : State) (m : MethodId) (args : Array Value) (below : List Frame) (meth : Method) (c : Code) (D : va_G) (cy : Nat → ClassId) (A : Nat → Prop) (ad : Nat → Nat) (b0 : Nat) (b1 : Nat) (h0 : Nat → Int64) (n1 : Nat) (k : Int32 → Int32 → (Nat → Int32) → Option ((Nat → Int32))) : Prop :=
  ∀ (x2 : Int32) (x3 : Int32) (u0 : Nat → Int32) (res : (Nat → Int32)), k x2 x3 u0 = some res → ∀ (H : Heap) (locs : List Loc) (ls : Array Slot), va_P D classes [(b0, .inl (cy 2, 5, .inr (.inl h0))), (b1, .inl (cy 0, n1, .inl u0))] H → va_D A [(b0, .inl (cy 2, 5, .inr (.inl h0))), (b1, .inl (cy 0, n1, .inl u0))] → va_S A s.heap H locs → lv_has ls 5 [(0, .ref b0), (1, .ref b1), (2, .int x2), (3, .int x3)] → W p l e rm_Si_writeDigits s m args below meth c H locs 0 0 (MQ below (q_Si_writeDigits D cy A b0 b1 h0 n1 res) args s 0 0 A) (F0 m 22 ls [])
def I_Si_writeDigits_2 (p : Program) (l : Launch) (e : Env) (s : State) (m : MethodId) (args : Array Value) (below : List Frame) (meth : Method) (c : Code) (D : va_G) (cy : Nat → ClassId) (A : Nat → Prop) (ad : Nat → Nat) (b0 : Nat) (b1 : Nat) (h0 : Nat → Int64) (n1 : Nat) (k : Int32 → (Nat → Int32) → Option ((Nat → Int32))) : Prop :=
  ∀ (x2 : Int32) (u0 : Nat → Int32) (res : (Nat → Int32)), k x2 u0 = some res → ∀ (H : Heap) (locs : List Loc) (ls : Array Slot), va_P D classes [(b0, .inl (cy 2, 5, .inr (.inl h0))), (b1, .inl (cy 0, n1, .inl u0))] H → va_D A [(b0, .inl (cy 2, 5, .inr (.inl h0))), (b1, .inl (cy 0, n1, .inl u0))] → va_S A s.heap H locs → lv_has ls 5 [(0, .ref b0), (1, .ref b1), (2, .int x2)] → W p l e rm_Si_writeDigits s m args below meth c H locs 0 0 (MQ below (q_Si_writeDigits D cy A b0 b1 h0 n1 res) args s 0 0 A) (F0 m 2 ls [])
def I_Si_writeDigits_e (p : Program) (l : Launch) (e : Env) (s : State) (m : MethodId) (args : Array Value) (below : List Frame) (meth : Method) (c : Code) (D : va_G) (cy : Nat → ClassId) (A : Nat → Prop) (ad : Nat → Nat) (b0 : Nat) (b1 : Nat) (h0 : Nat → Int64) (n1 : Nat) (k : (Nat → Int32) → Option ((Nat → Int32))) : Prop :=
  ∀ (u0 : Nat → Int32) (res : (Nat → Int32)), k u0 = some res → ∀ (H : Heap) (locs : List Loc) (ls : Array Slot), va_P D classes [(b0, .inl (cy 2, 5, .inr (.inl h0))), (b1, .inl (cy 0, n1, .inl u0))] H → va_D A [(b0, .inl (cy 2, 5, .inr (.inl h0))), (b1, .inl (cy 0, n1, .inl u0))] → va_S A s.heap H locs → lv_has ls 5 [(0, .ref b0), (1, .ref b1)] → W p l e rm_Si_writeDigits s m args below meth c H locs 0 0 (MQ below (q_Si_writeDigits D cy A b0 b1 h0 n1 res) args s 0 0 A) (F0 m 0 ls [])
theorem hdc_23 : ({ cls := "CoinKeeper$Scalar", name := "bits", desc := "([JII)I" } : Jvm.MethodName).cls ≠ "java/lang/invoke/MethodHandle" ∧ ({ cls := "CoinKeeper$Scalar", name := "bits", desc := "([JII)I" } : Jvm.MethodName).cls ≠ "java/lang/invoke/VarHandle" ∧ (parseMethodDescriptor ({ cls := "CoinKeeper$Scalar", name := "bits", desc := "([JII)I" } : Jvm.MethodName).desc).map (fun d => d.parameters.length) = some 3 := by decide +kernel
set_option maxHeartbeats 8000000 in
set_option maxRecDepth 100000 in
theorem wb_Si_writeDigits_22 {p : Program} {l : Launch} {e : Env} {s : State} {m : MethodId} {args : Array Value} {below : List Frame} {meth : Method} {c : Code} {D : va_G} {cy : Nat → ClassId} {A : Nat → Prop} {ad : Nat → Nat} {b0 : Nat} {b1 : Nat} {h0 : Nat → Int64} {n1 : Nat} {fu : Nat} {k_22 : Int32 → Int32 → (Nat → Int32) → Option ((Nat → Int32))} (F : Fx p s m args meth c b_Si_writeDigits 5 "CoinKeeper$Signatures" "writeDigits" none D cy ad A) (hk_22 : I_Si_writeDigits_22 p l e s m args below meth c D cy A ad b0 b1 h0 n1 k_22) : I_Si_writeDigits_22 p l e s m args below meth c D cy A ad b0 b1 h0 n1 (xb_Si_writeDigits_22 fu h0 n1 k_22) := by
  obtain ⟨hx, hb, hr, hml, hown, hts, hlocks, hK, hA, hSt, hnm, hex⟩ := id F
  intro x2 x3 u0 res hf H locs ls hP hD hS hl
  unfold xb_Si_writeDigits_22 at hf
  refine lv_iload_n hx hb d_Si_writeDigits_22 rfl (lv_at hl 3 rfl) ?_
  refine lv_sipush (v := 257) hx hb d_Si_writeDigits_23 (by decide) ?_
  refine lv_icmp_ge (tgt := 76) hx hb d_Si_writeDigits_26 (by decide) (fun cx => ?_) (fun cx => ?_)
  · have hf := ifp cx hf
    obtain rfl := Option.some.inj hf
    exact q_rv hx hb hr hlocks hK hP hD hS d_Si_writeDigits_76
  · have hf := ifn cx hf
    refine lv_aload_n hx hb d_Si_writeDigits_29 rfl (lv_at hl 0 rfl) ?_
    refine lv_iload_n hx hb d_Si_writeDigits_30 rfl (lv_at hl 3 rfl) ?_
    refine lv_iconst (v := 1) hx hb d_Si_writeDigits_31 (by decide) ?_
    obtain ⟨v1, hc, hf⟩ := bdp1 hf
    refine q_ai (wr := [(b1, .inl (cy 0, n1, .inl u0))]) (va_runS (As := [.ref b0, .int x3, .int (1 : Int32)]) (rest := []) ⟨hx, hb, hml, hown, hts⟩ (c_Sc_bits l D cy ad fu b0 h0 x3 (1 : Int32) _ hc H.size) ⟨q_cB hts gw_1132 gw_28 gw_1130 hdc_23 ⟨by decide, by decide⟩, hts _ gw_1131⟩ (q_pre (hP.sub [0] rfl) (hD.sub [0] (by decide) rfl) hK hSt hS (va_free hD hS hA [0] rfl) _) rfl rfl hl.1 rfl (lv_room (Nat.le_of_ble_eq_true rfl)) d_Si_writeDigits_32 ⟨Nat.le_of_ble_eq_true rfl, Nat.le_of_ble_eq_true rfl⟩) hP hD hS hA [0] [1] rfl rfl (by decide) (by decide) (fun H locs hP hD hS => ?_)
    clear hc
    have hP : va_P D classes [(b1, .inl (cy 0, n1, .inl u0)), (b0, .inl (cy 2, 5, .inr (.inl h0)))] H := hP
    have hD : va_D A [(b1, .inl (cy 0, n1, .inl u0)), (b0, .inl (cy 2, 5, .inr (.inl h0)))] := hD
    refine lv_iload_n hx hb d_Si_writeDigits_35 rfl (lv_at hl 2 rfl) ?_
    refine lv_icmp_ne (tgt := 45) hx hb d_Si_writeDigits_36 (by decide) (fun cx => ?_) (fun cx => ?_)
    · have hf := ifn cx hf
      refine lv_aload_n hx hb d_Si_writeDigits_45 rfl (lv_at hl 0 rfl) ?_
      refine lv_iload_n hx hb d_Si_writeDigits_46 rfl (lv_at hl 3 rfl) ?_
      refine lv_iconst (v := 5) hx hb d_Si_writeDigits_47 (by decide) ?_
      obtain ⟨v2, hc, hf⟩ := bdp1 hf
      refine q_ai (wr := [(b1, .inl (cy 0, n1, .inl u0))]) (va_runS (As := [.ref b0, .int x3, .int (5 : Int32)]) (rest := []) ⟨hx, hb, hml, hown, hts⟩ (c_Sc_bits l D cy ad fu b0 h0 x3 (5 : Int32) _ hc H.size) ⟨q_cB hts gw_1132 gw_28 gw_1130 hdc_23 ⟨by decide, by decide⟩, hts _ gw_1131⟩ (q_pre (hP.sub [1] rfl) (hD.sub [1] (by decide) rfl) hK hSt hS (va_free hD hS hA [1] rfl) _) rfl rfl hl.1 rfl (lv_room (Nat.le_of_ble_eq_true rfl)) d_Si_writeDigits_48 ⟨Nat.le_of_ble_eq_true rfl, Nat.le_of_ble_eq_true rfl⟩) hP hD hS hA [1] [0] rfl rfl (by decide) (by decide) (fun H locs hP hD hS => ?_)
      clear hc
      have hP : va_P D classes [(b1, .inl (cy 0, n1, .inl u0)), (b0, .inl (cy 2, 5, .inr (.inl h0)))] H := hP
      have hD : va_D A [(b1, .inl (cy 0, n1, .inl u0)), (b0, .inl (cy 2, 5, .inr (.inl h0)))] := hD
      refine lv_iload_n hx hb d_Si_writeDigits_51 rfl (lv_at hl 2 rfl) ?_
      refine lv_iadd hx hb d_Si_writeDigits_52 ?_
      refine lv_topi (fun v3 ev => ?_)
      have hf := bn ev hf
      clear ev
      refine lv_istore (lv' := [(4, .int v3), (0, .ref b0), (1, .ref b1), (2, .int x2), (3, .int x3)]) hx hb d_Si_writeDigits_53 hl (by decide) rfl (fun ls hl => ?_)
      refine lv_iload hx hb d_Si_writeDigits_55 (lv_at hl 0 rfl) ?_
      refine lv_iconst (v := 4) hx hb d_Si_writeDigits_57 (by decide) ?_
      refine lv_ishr hx hb d_Si_writeDigits_58 ?_
      refine lv_topi (fun v4 ev => ?_)
      have hf := bn ev hf
      clear ev
      refine lv_istore_n (lv' := [(2, .int v4), (4, .int v3), (0, .ref b0), (1, .ref b1), (3, .int x3)]) hx hb d_Si_writeDigits_59 rfl hl (by decide) rfl (fun ls hl => ?_)
      refine lv_aload_n hx hb d_Si_writeDigits_60 rfl (lv_at hl 3 rfl) ?_
      refine lv_iload_n hx hb d_Si_writeDigits_61 rfl (lv_at hl 4 rfl) ?_
      refine lv_iload hx hb d_Si_writeDigits_62 (lv_at hl 1 rfl) ?_
      refine lv_iload_n hx hb d_Si_writeDigits_64 rfl (lv_at hl 0 rfl) ?_
      refine lv_iconst (v := 5) hx hb d_Si_writeDigits_65 (by decide) ?_
      refine lv_ishl hx hb d_Si_writeDigits_66 ?_
      refine lv_isub hx hb d_Si_writeDigits_67 ?_
      refine lv_i2b hx hb d_Si_writeDigits_68 rfl ?_
      refine lv_topi (fun v5 ev => ?_)
      have hf := bn ev hf
      clear ev
      obtain ⟨hg, hf⟩ := gdp hf
      refine va_bast hx hb hK hP hD hS 0 0 rfl rfl (inb_in hg) d_Si_writeDigits_69 (fun H locs hP hD hS => ?_)
      obtain ⟨f6, ev, hf⟩ := bne hf
      have hP : va_P D classes [(b1, .inl (cy 0, n1, .inl f6)), (b0, .inl (cy 2, 5, .inr (.inl h0)))] H := by rw [ev]; exact hP
      have hD : va_D A [(b1, .inl (cy 0, n1, .inl f6)), (b0, .inl (cy 2, 5, .inr (.inl h0)))] := by rw [ev]; exact hD
      clear ev
      obtain ⟨v7, ev, hf⟩ := bne hf
      refine lv_iinc (v := v7) (lv' := [(3, .int v7), (2, .int v4), (4, .int v3), (0, .ref b0), (1, .ref b1)]) hx hb d_Si_writeDigits_70 hl (k := 4) rfl (by rw [ev]; rfl) (by decide) rfl (fun ls hl => ?_)
      clear ev
      refine lv_goto (tgt := 22) hx hb d_Si_writeDigits_73 (by decide) ?_
      exact hk_22 _ _ _ _ hf _ _ _ (hP.sub (ws' := [(b0, .inl (cy 2, 5, .inr (.inl h0))), (b1, .inl (cy 0, n1, .inl f6))]) [1, 0] rfl) (hD.sub (ws' := [(b0, .inl (cy 2, 5, .inr (.inl h0))), (b1, .inl (cy 0, n1, .inl f6))]) [1, 0] (by decide) rfl) hS (lv_sub hl [3, 4, 1, 0] rfl)
    · have hf := ifp cx hf
      obtain ⟨v8, ev, hf⟩ := bne hf
      refine lv_iinc (v := v8) (lv' := [(3, .int v8), (0, .ref b0), (1, .ref b1), (2, .int x2)]) hx hb d_Si_writeDigits_39 hl (k := 3) rfl (by rw [ev]; rfl) (by decide) rfl (fun ls hl => ?_)
      clear ev
      refine lv_goto (tgt := 22) hx hb d_Si_writeDigits_42 (by decide) ?_
      exact hk_22 _ _ _ _ hf _ _ _ (hP.sub (ws' := [(b0, .inl (cy 2, 5, .inr (.inl h0))), (b1, .inl (cy 0, n1, .inl u0))]) [1, 0] rfl) (hD.sub (ws' := [(b0, .inl (cy 2, 5, .inr (.inl h0))), (b1, .inl (cy 0, n1, .inl u0))]) [1, 0] (by decide) rfl) hS (lv_sub hl [1, 2, 3, 0] rfl)
theorem w_Si_writeDigits_22 {p : Program} {l : Launch} {e : Env} {s : State} {m : MethodId} {args : Array Value} {below : List Frame} {meth : Method} {c : Code} {D : va_G} {cy : Nat → ClassId} {A : Nat → Prop} {ad : Nat → Nat} {b0 : Nat} {b1 : Nat} {h0 : Nat → Int64} {n1 : Nat} {fu : Nat} (F : Fx p s m args meth c b_Si_writeDigits 5 "CoinKeeper$Signatures" "writeDigits" none D cy ad A) : ∀ n : Nat, I_Si_writeDigits_22 p l e s m args below meth c D cy A ad b0 b1 h0 n1 (x_Si_writeDigits_22 fu h0 n1 n)
  | 0 => fun _ _ _ _ hf => nomatch (show (none : Option ((Nat → Int32))) = some _ from hf)
  | n + 1 => wb_Si_writeDigits_22 F (w_Si_writeDigits_22 F n)
set_option maxHeartbeats 8000000 in
set_option maxRecDepth 100000 in
theorem wb_Si_writeDigits_2 {p : Program} {l : Launch} {e : Env} {s : State} {m : MethodId} {args : Array Value} {below : List Frame} {meth : Method} {c : Code} {D : va_G} {cy : Nat → ClassId} {A : Nat → Prop} {ad : Nat → Nat} {b0 : Nat} {b1 : Nat} {h0 : Nat → Int64} {n1 : Nat} {fu : Nat} {k_2 : Int32 → (Nat → Int32) → Option ((Nat → Int32))} (F : Fx p s m args meth c b_Si_writeDigits 5 "CoinKeeper$Signatures" "writeDigits" none D cy ad A) (hk_2 : I_Si_writeDigits_2 p l e s m args below meth c D cy A ad b0 b1 h0 n1 k_2) : I_Si_writeDigits_2 p l e s m args below meth c D cy A ad b0 b1 h0 n1 (xb_Si_writeDigits_2 fu h0 n1 k_2) := by
  obtain ⟨hx, hb, hr, hml, hown, hts, hlocks, hK, hA, hSt, hnm, hex⟩ := id F
  intro x2 u0 res hf H locs ls hP hD hS hl
  unfold xb_Si_writeDigits_2 at hf
  refine lv_iload_n hx hb d_Si_writeDigits_2 rfl (lv_at hl 2 rfl) ?_
  refine lv_aload_n hx hb d_Si_writeDigits_3 rfl (lv_at hl 1 rfl) ?_
  refine va_alen (v := (Int32.ofNat n1)) hx hb hK hP 1 0 rfl rfl rfl d_Si_writeDigits_4 ?_
  refine lv_icmp_ge (tgt := 18) hx hb d_Si_writeDigits_5 (by decide) (fun cx => ?_) (fun cx => ?_)
  · have hf := ifp cx hf
    refine lv_iconst (v := 0) hx hb d_Si_writeDigits_18 (by decide) ?_
    refine lv_istore_n (lv' := [(2, .int (0 : Int32)), (0, .ref b0), (1, .ref b1)]) hx hb d_Si_writeDigits_19 rfl hl (by decide) rfl (fun ls hl => ?_)
    refine lv_iconst (v := 0) hx hb d_Si_writeDigits_20 (by decide) ?_
    refine lv_istore_n (lv' := [(3, .int (0 : Int32)), (2, .int (0 : Int32)), (0, .ref b0), (1, .ref b1)]) hx hb d_Si_writeDigits_21 rfl hl (by decide) rfl (fun ls hl => ?_)
    exact w_Si_writeDigits_22 F fu _ _ _ _ hf _ _ _ hP hD hS (lv_sub hl [2, 3, 1, 0] rfl)
  · have hf := ifn cx hf
    refine lv_aload_n hx hb d_Si_writeDigits_8 rfl (lv_at hl 1 rfl) ?_
    refine lv_iload_n hx hb d_Si_writeDigits_9 rfl (lv_at hl 2 rfl) ?_
    refine lv_iconst (v := 0) hx hb d_Si_writeDigits_10 (by decide) ?_
    obtain ⟨hg, hf⟩ := gdp hf
    refine va_bast hx hb hK hP hD hS 1 0 rfl rfl (inb_in hg) d_Si_writeDigits_11 (fun H locs hP hD hS => ?_)
    obtain ⟨f1, ev, hf⟩ := bne hf
    have hP : va_P D classes [(b0, .inl (cy 2, 5, .inr (.inl h0))), (b1, .inl (cy 0, n1, .inl f1))] H := by rw [ev]; exact hP
    have hD : va_D A [(b0, .inl (cy 2, 5, .inr (.inl h0))), (b1, .inl (cy 0, n1, .inl f1))] := by rw [ev]; exact hD
    clear ev
    obtain ⟨v2, ev, hf⟩ := bne hf
    refine lv_iinc (v := v2) (lv' := [(2, .int v2), (0, .ref b0), (1, .ref b1)]) hx hb d_Si_writeDigits_12 hl (k := 2) rfl (by rw [ev]; rfl) (by decide) rfl (fun ls hl => ?_)
    clear ev
    refine lv_goto (tgt := 2) hx hb d_Si_writeDigits_15 (by decide) ?_
    exact hk_2 _ _ _ hf _ _ _ hP hD hS (lv_sub hl [1, 2, 0] rfl)
theorem w_Si_writeDigits_2 {p : Program} {l : Launch} {e : Env} {s : State} {m : MethodId} {args : Array Value} {below : List Frame} {meth : Method} {c : Code} {D : va_G} {cy : Nat → ClassId} {A : Nat → Prop} {ad : Nat → Nat} {b0 : Nat} {b1 : Nat} {h0 : Nat → Int64} {n1 : Nat} {fu : Nat} (F : Fx p s m args meth c b_Si_writeDigits 5 "CoinKeeper$Signatures" "writeDigits" none D cy ad A) : ∀ n : Nat, I_Si_writeDigits_2 p l e s m args below meth c D cy A ad b0 b1 h0 n1 (x_Si_writeDigits_2 fu h0 n1 n)
  | 0 => fun _ _ _ hf => nomatch (show (none : Option ((Nat → Int32))) = some _ from hf)
  | n + 1 => wb_Si_writeDigits_2 F (w_Si_writeDigits_2 F n)
set_option maxHeartbeats 8000000 in
set_option maxRecDepth 100000 in
theorem we_Si_writeDigits {p : Program} {l : Launch} {e : Env} {s : State} {m : MethodId} {args : Array Value} {below : List Frame} {meth : Method} {c : Code} {D : va_G} {cy : Nat → ClassId} {A : Nat → Prop} {ad : Nat → Nat} {b0 : Nat} {b1 : Nat} {h0 : Nat → Int64} {n1 : Nat} {fu : Nat} (F : Fx p s m args meth c b_Si_writeDigits 5 "CoinKeeper$Signatures" "writeDigits" none D cy ad A) : I_Si_writeDigits_e p l e s m args below meth c D cy A ad b0 b1 h0 n1 (x_Si_writeDigits fu h0 n1) := by
  obtain ⟨hx, hb, hr, hml, hown, hts, hlocks, hK, hA, hSt, hnm, hex⟩ := id F
  intro u0 res hf H locs ls hP hD hS hl
  unfold x_Si_writeDigits at hf
  refine lv_iconst (v := 0) hx hb d_Si_writeDigits_0 (by decide) ?_
  refine lv_istore_n (lv' := [(2, .int (0 : Int32)), (0, .ref b0), (1, .ref b1)]) hx hb d_Si_writeDigits_1 rfl hl (by decide) rfl (fun ls hl => ?_)
  exact w_Si_writeDigits_2 F fu _ _ _ hf _ _ _ hP hD hS (lv_sub hl [1, 2, 0] rfl)
theorem c_Si_writeDigits (l : Launch) (D : va_G) (cy : Nat → ClassId) (ad : Nat → Nat) (fu : Nat) (b0 : Nat) (b1 : Nat) (h0 : Nat → Int64) (n1 : Nat) (u0 : Nat → Int32) (res : (Nat → Int32)) (hf : x_Si_writeDigits fu h0 n1 u0 = some res) (sz : Nat) : Met l ({ cls := "CoinKeeper$Signatures", name := "writeDigits", desc := "([J[B)V" } : Jvm.MethodName) (.code ({ cls := "CoinKeeper$Signatures", name := "writeDigits", desc := "([J[B)V" } : Jvm.MethodName) b_Si_writeDigits 5 none :: gw) rm_Si_writeDigits (va_Pc [.ref b0, .ref b1] (Pr D cy ad [(b0, .inl (cy 2, 5, .inr (.inl h0))), (b1, .inl (cy 0, n1, .inl u0))] sz)) (q_Si_writeDigits D cy (va_A [(b0, .inl (cy 2, 5, .inr (.inl h0))), (b1, .inl (cy 0, n1, .inl u0))] sz) b0 b1 h0 n1 res) 0 0 (va_A [(b0, .inl (cy 2, 5, .inr (.inl h0))), (b1, .inl (cy 0, n1, .inl u0))] sz) :=
  q_met (Qc := fun A => q_Si_writeDigits D cy A b0 b1 h0 n1 res) (by decide) rfl rfl (Nat.le_of_ble_eq_true rfl) (fun p e s m below meth c ls F hP hD hS hl => we_Si_writeDigits (fu := fu) F u0 res hf _ _ _ hP hD hS hl) sz
abbrev b_Bl_scaledBits : ByteArray := prog_2_method_7_code
theorem d_Bl_scaledBits_0 : decode b_Bl_scaledBits 0 = .ok (.iload_n 0, 1) := by decide +kernel
theorem d_Bl_scaledBits_1 : decode b_Bl_scaledBits 1 = .ok (.ldc 78, 2) := by decide +kernel
theorem d_Bl_scaledBits_3 : decode b_Bl_scaledBits 3 = .ok (.iand, 1) := by decide +kernel
theorem d_Bl_scaledBits_4 : decode b_Bl_scaledBits 4 = .ok (.i2l, 1) := by decide +kernel
theorem d_Bl_scaledBits_5 : decode b_Bl_scaledBits 5 = .ok (.lload_n 1, 1) := by decide +kernel
theorem d_Bl_scaledBits_6 : decode b_Bl_scaledBits 6 = .ok (.lmul, 1) := by decide +kernel
theorem d_Bl_scaledBits_7 : decode b_Bl_scaledBits 7 = .ok (.bipush 16, 2) := by decide +kernel
theorem d_Bl_scaledBits_9 : decode b_Bl_scaledBits 9 = .ok (.lshl, 1) := by decide +kernel
theorem d_Bl_scaledBits_10 : decode b_Bl_scaledBits 10 = .ok (.ldc2_w 79, 3) := by decide +kernel
theorem d_Bl_scaledBits_13 : decode b_Bl_scaledBits 13 = .ok (.ldiv, 1) := by decide +kernel
theorem d_Bl_scaledBits_14 : decode b_Bl_scaledBits 14 = .ok (.lstore_n 3, 1) := by decide +kernel
theorem d_Bl_scaledBits_15 : decode b_Bl_scaledBits 15 = .ok (.iload_n 0, 1) := by decide +kernel
theorem d_Bl_scaledBits_16 : decode b_Bl_scaledBits 16 = .ok (.bipush 24, 2) := by decide +kernel
theorem d_Bl_scaledBits_18 : decode b_Bl_scaledBits 18 = .ok (.iushr, 1) := by decide +kernel
theorem d_Bl_scaledBits_19 : decode b_Bl_scaledBits 19 = .ok (.iconst 2, 1) := by decide +kernel
theorem d_Bl_scaledBits_20 : decode b_Bl_scaledBits 20 = .ok (.isub, 1) := by decide +kernel
theorem d_Bl_scaledBits_21 : decode b_Bl_scaledBits 21 = .ok (.istore 5, 2) := by decide +kernel
theorem d_Bl_scaledBits_23 : decode b_Bl_scaledBits 23 = .ok (.lload_n 3, 1) := by decide +kernel
theorem d_Bl_scaledBits_24 : decode b_Bl_scaledBits 24 = .ok (.ldc2_w 81, 3) := by decide +kernel
theorem d_Bl_scaledBits_27 : decode b_Bl_scaledBits 27 = .ok (.lcmp, 1) := by decide +kernel
theorem d_Bl_scaledBits_28 : decode b_Bl_scaledBits 28 = .ok (.ifCond .le 14, 3) := by decide +kernel
theorem d_Bl_scaledBits_31 : decode b_Bl_scaledBits 31 = .ok (.lload_n 3, 1) := by decide +kernel
theorem d_Bl_scaledBits_32 : decode b_Bl_scaledBits 32 = .ok (.bipush 8, 2) := by decide +kernel
theorem d_Bl_scaledBits_34 : decode b_Bl_scaledBits 34 = .ok (.lshr, 1) := by decide +kernel
theorem d_Bl_scaledBits_35 : decode b_Bl_scaledBits 35 = .ok (.lstore_n 3, 1) := by decide +kernel
theorem d_Bl_scaledBits_36 : decode b_Bl_scaledBits 36 = .ok (.iinc 5 1, 3) := by decide +kernel
theorem d_Bl_scaledBits_39 : decode b_Bl_scaledBits 39 = .ok (.goto (-16), 3) := by decide +kernel
theorem d_Bl_scaledBits_42 : decode b_Bl_scaledBits 42 = .ok (.lload_n 3, 1) := by decide +kernel
theorem d_Bl_scaledBits_43 : decode b_Bl_scaledBits 43 = .ok (.ldc2_w 83, 3) := by decide +kernel
theorem d_Bl_scaledBits_46 : decode b_Bl_scaledBits 46 = .ok (.lcmp, 1) := by decide +kernel
theorem d_Bl_scaledBits_47 : decode b_Bl_scaledBits 47 = .ok (.ifCond .le 11, 3) := by decide +kernel
theorem d_Bl_scaledBits_50 : decode b_Bl_scaledBits 50 = .ok (.lload_n 3, 1) := by decide +kernel
theorem d_Bl_scaledBits_51 : decode b_Bl_scaledBits 51 = .ok (.bipush 8, 2) := by decide +kernel
theorem d_Bl_scaledBits_53 : decode b_Bl_scaledBits 53 = .ok (.lshr, 1) := by decide +kernel
theorem d_Bl_scaledBits_54 : decode b_Bl_scaledBits 54 = .ok (.lstore_n 3, 1) := by decide +kernel
theorem d_Bl_scaledBits_55 : decode b_Bl_scaledBits 55 = .ok (.iinc 5 1, 3) := by decide +kernel
theorem d_Bl_scaledBits_58 : decode b_Bl_scaledBits 58 = .ok (.iload 5, 2) := by decide +kernel
theorem d_Bl_scaledBits_60 : decode b_Bl_scaledBits 60 = .ok (.bipush 32, 2) := by decide +kernel
theorem d_Bl_scaledBits_62 : decode b_Bl_scaledBits 62 = .ok (.if_icmp .le 8, 3) := by decide +kernel
theorem d_Bl_scaledBits_65 : decode b_Bl_scaledBits 65 = .ok (.ldc 41, 2) := by decide +kernel
theorem d_Bl_scaledBits_67 : decode b_Bl_scaledBits 67 = .ok (.goto 11, 3) := by decide +kernel
theorem d_Bl_scaledBits_70 : decode b_Bl_scaledBits 70 = .ok (.iload 5, 2) := by decide +kernel
theorem d_Bl_scaledBits_72 : decode b_Bl_scaledBits 72 = .ok (.bipush 24, 2) := by decide +kernel
theorem d_Bl_scaledBits_74 : decode b_Bl_scaledBits 74 = .ok (.ishl, 1) := by decide +kernel
theorem d_Bl_scaledBits_75 : decode b_Bl_scaledBits 75 = .ok (.lload_n 3, 1) := by decide +kernel
theorem d_Bl_scaledBits_76 : decode b_Bl_scaledBits 76 = .ok (.l2i, 1) := by decide +kernel
theorem d_Bl_scaledBits_77 : decode b_Bl_scaledBits 77 = .ok (.ior, 1) := by decide +kernel
theorem d_Bl_scaledBits_78 : decode b_Bl_scaledBits 78 = .ok (.ireturn, 1) := by decide +kernel
abbrev rm_Bl_scaledBits : Room := { frames := 0, cells := 0, slots := 0, locals := 0 }
abbrev q_Bl_scaledBits (D : va_G) (cy : Nat → ClassId) (A : Nat → Prop) (res : Int32) : Array Value → State → Outcome → State → Prop := va_Qi (fun r' (_ : Unit) => r' = res) (fun _ t => Po D cy A [] t) A
def I_Bl_scaledBits_58 (p : Program) (l : Launch) (e : Env) (s : State) (m : MethodId) (args : Array Value) (below : List Frame) (meth : Method) (c : Code) (D : va_G) (cy : Nat → ClassId) (A : Nat → Prop) (ad : Nat → Nat) (k : Int64 → Int32 → Option (Int32)) : Prop :=
  ∀ (x3 : Int64) (x5 : Int32) (res : Int32), k x3 x5 = some res → ∀ (H : Heap) (locs : List Loc) (ls : Array Slot), va_P D classes [] H → va_D A [] → va_S A s.heap H locs → lv_has ls 6 [(3, .long x3), (5, .int x5)] → W p l e rm_Bl_scaledBits s m args below meth c H locs 0 0 (MQ below (q_Bl_scaledBits D cy A res) args s 0 0 A) (F0 m 58 ls [])
def I_Bl_scaledBits_23 (p : Program) (l : Launch) (e : Env) (s : State) (m : MethodId) (args : Array Value) (below : List Frame) (meth : Method) (c : Code) (D : va_G) (cy : Nat → ClassId) (A : Nat → Prop) (ad : Nat → Nat) (k : Int64 → Int32 → Option (Int32)) : Prop :=
  ∀ (x3 : Int64) (x5 : Int32) (res : Int32), k x3 x5 = some res → ∀ (H : Heap) (locs : List Loc) (ls : Array Slot), va_P D classes [] H → va_D A [] → va_S A s.heap H locs → lv_has ls 6 [(3, .long x3), (5, .int x5)] → W p l e rm_Bl_scaledBits s m args below meth c H locs 0 0 (MQ below (q_Bl_scaledBits D cy A res) args s 0 0 A) (F0 m 23 ls [])
def I_Bl_scaledBits_e (p : Program) (l : Launch) (e : Env) (s : State) (m : MethodId) (args : Array Value) (below : List Frame) (meth : Method) (c : Code) (D : va_G) (cy : Nat → ClassId) (A : Nat → Prop) (ad : Nat → Nat) (k : Int32 → Int64 → Option (Int32)) : Prop :=
  ∀ (a0 : Int32) (a1 : Int64) (res : Int32), k a0 a1 = some res → ∀ (H : Heap) (locs : List Loc) (ls : Array Slot), va_P D classes [] H → va_D A [] → va_S A s.heap H locs → lv_has ls 6 [(0, .int a0), (1, .long a1)] → W p l e rm_Bl_scaledBits s m args below meth c H locs 0 0 (MQ below (q_Bl_scaledBits D cy A res) args s 0 0 A) (F0 m 0 ls [])
set_option maxHeartbeats 8000000 in
set_option maxRecDepth 100000 in
theorem wb_Bl_scaledBits_58 {p : Program} {l : Launch} {e : Env} {s : State} {m : MethodId} {args : Array Value} {below : List Frame} {meth : Method} {c : Code} {D : va_G} {cy : Nat → ClassId} {A : Nat → Prop} {ad : Nat → Nat} {fu : Nat} (F : Fx p s m args meth c b_Bl_scaledBits 6 "CoinKeeper$Block" "scaledBits" (some .int) D cy ad A) : I_Bl_scaledBits_58 p l e s m args below meth c D cy A ad (xb_Bl_scaledBits_58 fu) := by
  obtain ⟨hx, hb, hr, hml, hown, hts, hlocks, hK, hA, hSt, hnm, hex⟩ := id F
  intro x3 x5 res hf H locs ls hP hD hS hl
  unfold xb_Bl_scaledBits_58 at hf
  refine lv_iload hx hb d_Bl_scaledBits_58 (lv_at hl 1 rfl) ?_
  refine lv_bipush (v := 32) hx hb d_Bl_scaledBits_60 (by decide) ?_
  refine lv_icmp_le (tgt := 70) hx hb d_Bl_scaledBits_62 (by decide) (fun cx => ?_) (fun cx => ?_)
  · have hf := ifp cx hf
    refine lv_iload hx hb d_Bl_scaledBits_70 (lv_at hl 1 rfl) ?_
    refine lv_bipush (v := 24) hx hb d_Bl_scaledBits_72 (by decide) ?_
    refine lv_ishl hx hb d_Bl_scaledBits_74 ?_
    refine lv_topi (fun v1 ev => ?_)
    have hf := bn ev hf
    clear ev
    refine lv_lload_n hx hb d_Bl_scaledBits_75 rfl (lv_at hl 0 rfl) ?_
    refine lv_l2i hx hb d_Bl_scaledBits_76 rfl ?_
    refine lv_ior hx hb d_Bl_scaledBits_77 ?_
    refine lv_topi (fun v2 ev => ?_)
    have hf := bn ev hf
    clear ev
    obtain rfl := Option.some.inj hf
    exact q_ri hx hb hr hlocks hK hP hD hS d_Bl_scaledBits_78
  · have hf := ifn cx hf
    refine lv_ldc (v := 545259519) hx hb hown (hts _ gw_385) d_Bl_scaledBits_65 ?_
    refine lv_goto (tgt := 78) hx hb d_Bl_scaledBits_67 (by decide) ?_
    obtain rfl := Option.some.inj hf
    exact q_ri hx hb hr hlocks hK hP hD hS d_Bl_scaledBits_78
set_option maxHeartbeats 8000000 in
set_option maxRecDepth 100000 in
theorem wb_Bl_scaledBits_23 {p : Program} {l : Launch} {e : Env} {s : State} {m : MethodId} {args : Array Value} {below : List Frame} {meth : Method} {c : Code} {D : va_G} {cy : Nat → ClassId} {A : Nat → Prop} {ad : Nat → Nat} {fu : Nat} {k_23 : Int64 → Int32 → Option (Int32)} (F : Fx p s m args meth c b_Bl_scaledBits 6 "CoinKeeper$Block" "scaledBits" (some .int) D cy ad A) (hk_23 : I_Bl_scaledBits_23 p l e s m args below meth c D cy A ad k_23) : I_Bl_scaledBits_23 p l e s m args below meth c D cy A ad (xb_Bl_scaledBits_23 fu k_23) := by
  obtain ⟨hx, hb, hr, hml, hown, hts, hlocks, hK, hA, hSt, hnm, hex⟩ := id F
  intro x3 x5 res hf H locs ls hP hD hS hl
  unfold xb_Bl_scaledBits_23 at hf
  refine lv_lload_n hx hb d_Bl_scaledBits_23 rfl (lv_at hl 0 rfl) ?_
  refine lv_ldc2 (v := 16777215) hx hb hown (hts _ gw_769) d_Bl_scaledBits_24 ?_
  refine W.lcmp hx hb d_Bl_scaledBits_27 ?_
  refine lv_if_le (tgt := 42) hx hb d_Bl_scaledBits_28 (by decide) (fun cx => ?_) (fun cx => ?_)
  · have hf := ifp cx hf
    refine lv_lload_n hx hb d_Bl_scaledBits_42 rfl (lv_at hl 0 rfl) ?_
    refine lv_ldc2 (v := 8388607) hx hb hown (hts _ gw_770) d_Bl_scaledBits_43 ?_
    refine W.lcmp hx hb d_Bl_scaledBits_46 ?_
    refine lv_if_le (tgt := 58) hx hb d_Bl_scaledBits_47 (by decide) (fun cx => ?_) (fun cx => ?_)
    · have hf := ifp cx hf
      exact wb_Bl_scaledBits_58 (fu := fu) F _ _ _ hf _ _ _ hP hD hS (lv_sub hl [0, 1] rfl)
    · have hf := ifn cx hf
      refine lv_lload_n hx hb d_Bl_scaledBits_50 rfl (lv_at hl 0 rfl) ?_
      refine lv_bipush (v := 8) hx hb d_Bl_scaledBits_51 (by decide) ?_
      refine lv_lshr hx hb d_Bl_scaledBits_53 rfl ?_
      refine lv_topl (fun v1 ev => ?_)
      have hf := bn ev hf
      clear ev
      refine lv_lstore_n (lv' := [(3, .long v1), (5, .int x5)]) hx hb d_Bl_scaledBits_54 rfl hl (by decide) rfl (fun ls hl => ?_)
      obtain ⟨v2, ev, hf⟩ := bne hf
      refine lv_iinc (v := v2) (lv' := [(5, .int v2), (3, .long v1)]) hx hb d_Bl_scaledBits_55 hl (k := 1) rfl (by rw [ev]; rfl) (by decide) rfl (fun ls hl => ?_)
      clear ev
      exact wb_Bl_scaledBits_58 (fu := fu) F _ _ _ hf _ _ _ hP hD hS (lv_sub hl [1, 0] rfl)
  · have hf := ifn cx hf
    refine lv_lload_n hx hb d_Bl_scaledBits_31 rfl (lv_at hl 0 rfl) ?_
    refine lv_bipush (v := 8) hx hb d_Bl_scaledBits_32 (by decide) ?_
    refine lv_lshr hx hb d_Bl_scaledBits_34 rfl ?_
    refine lv_topl (fun v3 ev => ?_)
    have hf := bn ev hf
    clear ev
    refine lv_lstore_n (lv' := [(3, .long v3), (5, .int x5)]) hx hb d_Bl_scaledBits_35 rfl hl (by decide) rfl (fun ls hl => ?_)
    obtain ⟨v4, ev, hf⟩ := bne hf
    refine lv_iinc (v := v4) (lv' := [(5, .int v4), (3, .long v3)]) hx hb d_Bl_scaledBits_36 hl (k := 1) rfl (by rw [ev]; rfl) (by decide) rfl (fun ls hl => ?_)
    clear ev
    refine lv_goto (tgt := 23) hx hb d_Bl_scaledBits_39 (by decide) ?_
    exact hk_23 _ _ _ hf _ _ _ hP hD hS (lv_sub hl [1, 0] rfl)
theorem w_Bl_scaledBits_23 {p : Program} {l : Launch} {e : Env} {s : State} {m : MethodId} {args : Array Value} {below : List Frame} {meth : Method} {c : Code} {D : va_G} {cy : Nat → ClassId} {A : Nat → Prop} {ad : Nat → Nat} {fu : Nat} (F : Fx p s m args meth c b_Bl_scaledBits 6 "CoinKeeper$Block" "scaledBits" (some .int) D cy ad A) : ∀ n : Nat, I_Bl_scaledBits_23 p l e s m args below meth c D cy A ad (x_Bl_scaledBits_23 fu n)
  | 0 => fun _ _ _ hf => nomatch (show (none : Option (Int32)) = some _ from hf)
  | n + 1 => wb_Bl_scaledBits_23 F (w_Bl_scaledBits_23 F n)
set_option maxHeartbeats 8000000 in
set_option maxRecDepth 100000 in
theorem we_Bl_scaledBits {p : Program} {l : Launch} {e : Env} {s : State} {m : MethodId} {args : Array Value} {below : List Frame} {meth : Method} {c : Code} {D : va_G} {cy : Nat → ClassId} {A : Nat → Prop} {ad : Nat → Nat} {fu : Nat} (F : Fx p s m args meth c b_Bl_scaledBits 6 "CoinKeeper$Block" "scaledBits" (some .int) D cy ad A) : I_Bl_scaledBits_e p l e s m args below meth c D cy A ad (x_Bl_scaledBits fu) := by
  obtain ⟨hx, hb, hr, hml, hown, hts, hlocks, hK, hA, hSt, hnm, hex⟩ := id F
  intro a0 a1 res hf H locs ls hP hD hS hl
  unfold x_Bl_scaledBits at hf
  refine lv_iload_n hx hb d_Bl_scaledBits_0 rfl (lv_at hl 0 rfl) ?_
  refine lv_ldc (v := 16777215) hx hb hown (hts _ gw_767) d_Bl_scaledBits_1 ?_
  refine lv_iand hx hb d_Bl_scaledBits_3 ?_
  refine lv_i2l hx hb d_Bl_scaledBits_4 rfl ?_
  refine lv_topl (fun v1 ev => ?_)
  have hf := bn ev hf
  clear ev
  refine lv_lload_n hx hb d_Bl_scaledBits_5 rfl (lv_at hl 1 rfl) ?_
  refine lv_lmul hx hb d_Bl_scaledBits_6 ?_
  refine lv_topl (fun v2 ev => ?_)
  have hf := bn ev hf
  clear ev
  refine lv_bipush (v := 16) hx hb d_Bl_scaledBits_7 (by decide) ?_
  refine lv_lshl hx hb d_Bl_scaledBits_9 rfl ?_
  refine lv_topl (fun v3 ev => ?_)
  have hf := bn ev hf
  clear ev
  refine lv_ldc2 (v := 4800) hx hb hown (hts _ gw_768) d_Bl_scaledBits_10 ?_
  refine lv_ldiv hx hb d_Bl_scaledBits_13 (by decide) ?_
  refine lv_topl (fun v4 ev => ?_)
  have hf := bn ev hf
  clear ev
  refine lv_lstore_n (lv' := [(3, .long v4), (0, .int a0), (1, .long a1)]) hx hb d_Bl_scaledBits_14 rfl hl (by decide) rfl (fun ls hl => ?_)
  refine lv_iload_n hx hb d_Bl_scaledBits_15 rfl (lv_at hl 1 rfl) ?_
  refine lv_bipush (v := 24) hx hb d_Bl_scaledBits_16 (by decide) ?_
  refine lv_iushr hx hb d_Bl_scaledBits_18 rfl ?_
  refine lv_topi (fun v5 ev => ?_)
  have hf := bn ev hf
  clear ev
  refine lv_iconst (v := 2) hx hb d_Bl_scaledBits_19 (by decide) ?_
  refine lv_isub hx hb d_Bl_scaledBits_20 ?_
  refine lv_topi (fun v6 ev => ?_)
  have hf := bn ev hf
  clear ev
  refine lv_istore (lv' := [(5, .int v6), (3, .long v4), (0, .int a0), (1, .long a1)]) hx hb d_Bl_scaledBits_21 hl (by decide) rfl (fun ls hl => ?_)
  exact w_Bl_scaledBits_23 F fu _ _ _ hf _ _ _ hP hD hS (lv_sub hl [1, 0] rfl)
theorem c_Bl_scaledBits (l : Launch) (D : va_G) (cy : Nat → ClassId) (ad : Nat → Nat) (fu : Nat) (a0 : Int32) (a1 : Int64) (res : Int32) (hf : x_Bl_scaledBits fu a0 a1 = some res) (sz : Nat) : Met l ({ cls := "CoinKeeper$Block", name := "scaledBits", desc := "(IJ)I" } : Jvm.MethodName) (.code ({ cls := "CoinKeeper$Block", name := "scaledBits", desc := "(IJ)I" } : Jvm.MethodName) b_Bl_scaledBits 6 (some .int) :: gw) rm_Bl_scaledBits (va_Pc [.int a0, .long a1] (Pr D cy ad [] sz)) (q_Bl_scaledBits D cy (va_A [] sz) res) 0 0 (va_A [] sz) :=
  q_met (Qc := fun A => q_Bl_scaledBits D cy A res) (by decide) rfl rfl (Nat.le_of_ble_eq_true rfl) (fun p e s m below meth c ls F hP hD hS hl => we_Bl_scaledBits (fu := fu) F a0 a1 res hf _ _ _ hP hD hS hl) sz
abbrev b_Bl_workOf : ByteArray := prog_2_method_8_code
theorem d_Bl_workOf_0 : decode b_Bl_workOf 0 = .ok (.iload_n 0, 1) := by decide +kernel
theorem d_Bl_workOf_1 : decode b_Bl_workOf 1 = .ok (.ldc 85, 2) := by decide +kernel
theorem d_Bl_workOf_3 : decode b_Bl_workOf 3 = .ok (.iand, 1) := by decide +kernel
theorem d_Bl_workOf_4 : decode b_Bl_workOf 4 = .ok (.i2l, 1) := by decide +kernel
theorem d_Bl_workOf_5 : decode b_Bl_workOf 5 = .ok (.lstore_n 1, 1) := by decide +kernel
theorem d_Bl_workOf_6 : decode b_Bl_workOf 6 = .ok (.lload_n 1, 1) := by decide +kernel
theorem d_Bl_workOf_7 : decode b_Bl_workOf 7 = .ok (.lconst 0, 1) := by decide +kernel
theorem d_Bl_workOf_8 : decode b_Bl_workOf 8 = .ok (.lcmp, 1) := by decide +kernel
theorem d_Bl_workOf_9 : decode b_Bl_workOf 9 = .ok (.ifCond .ne 5, 3) := by decide +kernel
theorem d_Bl_workOf_12 : decode b_Bl_workOf 12 = .ok (.lconst 0, 1) := by decide +kernel
theorem d_Bl_workOf_13 : decode b_Bl_workOf 13 = .ok (.lreturn, 1) := by decide +kernel
theorem d_Bl_workOf_14 : decode b_Bl_workOf 14 = .ok (.lconst 0, 1) := by decide +kernel
theorem d_Bl_workOf_15 : decode b_Bl_workOf 15 = .ok (.lstore_n 3, 1) := by decide +kernel
theorem d_Bl_workOf_16 : decode b_Bl_workOf 16 = .ok (.lconst 1, 1) := by decide +kernel
theorem d_Bl_workOf_17 : decode b_Bl_workOf 17 = .ok (.lstore 5, 2) := by decide +kernel
theorem d_Bl_workOf_19 : decode b_Bl_workOf 19 = .ok (.iload_n 0, 1) := by decide +kernel
theorem d_Bl_workOf_20 : decode b_Bl_workOf 20 = .ok (.bipush 24, 2) := by decide +kernel
theorem d_Bl_workOf_22 : decode b_Bl_workOf 22 = .ok (.iushr, 1) := by decide +kernel
theorem d_Bl_workOf_23 : decode b_Bl_workOf 23 = .ok (.iconst 3, 1) := by decide +kernel
theorem d_Bl_workOf_24 : decode b_Bl_workOf 24 = .ok (.isub, 1) := by decide +kernel
theorem d_Bl_workOf_25 : decode b_Bl_workOf 25 = .ok (.istore 7, 2) := by decide +kernel
theorem d_Bl_workOf_27 : decode b_Bl_workOf 27 = .ok (.iload 7, 2) := by decide +kernel
theorem d_Bl_workOf_29 : decode b_Bl_workOf 29 = .ok (.bipush 32, 2) := by decide +kernel
theorem d_Bl_workOf_31 : decode b_Bl_workOf 31 = .ok (.if_icmp .ge 32, 3) := by decide +kernel
theorem d_Bl_workOf_34 : decode b_Bl_workOf 34 = .ok (.lload 5, 2) := by decide +kernel
theorem d_Bl_workOf_36 : decode b_Bl_workOf 36 = .ok (.bipush 8, 2) := by decide +kernel
theorem d_Bl_workOf_38 : decode b_Bl_workOf 38 = .ok (.lshl, 1) := by decide +kernel
theorem d_Bl_workOf_39 : decode b_Bl_workOf 39 = .ok (.lstore 5, 2) := by decide +kernel
theorem d_Bl_workOf_41 : decode b_Bl_workOf 41 = .ok (.lload_n 3, 1) := by decide +kernel
theorem d_Bl_workOf_42 : decode b_Bl_workOf 42 = .ok (.bipush 8, 2) := by decide +kernel
theorem d_Bl_workOf_44 : decode b_Bl_workOf 44 = .ok (.lshl, 1) := by decide +kernel
theorem d_Bl_workOf_45 : decode b_Bl_workOf 45 = .ok (.lload 5, 2) := by decide +kernel
theorem d_Bl_workOf_47 : decode b_Bl_workOf 47 = .ok (.lload_n 1, 1) := by decide +kernel
theorem d_Bl_workOf_48 : decode b_Bl_workOf 48 = .ok (.ldiv, 1) := by decide +kernel
theorem d_Bl_workOf_49 : decode b_Bl_workOf 49 = .ok (.ladd, 1) := by decide +kernel
theorem d_Bl_workOf_50 : decode b_Bl_workOf 50 = .ok (.lstore_n 3, 1) := by decide +kernel
theorem d_Bl_workOf_51 : decode b_Bl_workOf 51 = .ok (.lload 5, 2) := by decide +kernel
theorem d_Bl_workOf_53 : decode b_Bl_workOf 53 = .ok (.lload_n 1, 1) := by decide +kernel
theorem d_Bl_workOf_54 : decode b_Bl_workOf 54 = .ok (.lrem, 1) := by decide +kernel
theorem d_Bl_workOf_55 : decode b_Bl_workOf 55 = .ok (.lstore 5, 2) := by decide +kernel
theorem d_Bl_workOf_57 : decode b_Bl_workOf 57 = .ok (.iinc 7 1, 3) := by decide +kernel
theorem d_Bl_workOf_60 : decode b_Bl_workOf 60 = .ok (.goto (-33), 3) := by decide +kernel
theorem d_Bl_workOf_63 : decode b_Bl_workOf 63 = .ok (.lload 5, 2) := by decide +kernel
theorem d_Bl_workOf_65 : decode b_Bl_workOf 65 = .ok (.lconst 0, 1) := by decide +kernel
theorem d_Bl_workOf_66 : decode b_Bl_workOf 66 = .ok (.lcmp, 1) := by decide +kernel
theorem d_Bl_workOf_67 : decode b_Bl_workOf 67 = .ok (.ifCond .ne 9, 3) := by decide +kernel
theorem d_Bl_workOf_70 : decode b_Bl_workOf 70 = .ok (.lload_n 3, 1) := by decide +kernel
theorem d_Bl_workOf_71 : decode b_Bl_workOf 71 = .ok (.lconst 1, 1) := by decide +kernel
theorem d_Bl_workOf_72 : decode b_Bl_workOf 72 = .ok (.lsub, 1) := by decide +kernel
theorem d_Bl_workOf_73 : decode b_Bl_workOf 73 = .ok (.goto 4, 3) := by decide +kernel
theorem d_Bl_workOf_76 : decode b_Bl_workOf 76 = .ok (.lload_n 3, 1) := by decide +kernel
theorem d_Bl_workOf_77 : decode b_Bl_workOf 77 = .ok (.lreturn, 1) := by decide +kernel
abbrev rm_Bl_workOf : Room := { frames := 0, cells := 0, slots := 0, locals := 0 }
abbrev q_Bl_workOf (D : va_G) (cy : Nat → ClassId) (A : Nat → Prop) (res : Int64) : Array Value → State → Outcome → State → Prop := va_Ql (fun r' (_ : Unit) => r' = res) (fun _ t => Po D cy A [] t) A
def I_Bl_workOf_27 (p : Program) (l : Launch) (e : Env) (s : State) (m : MethodId) (args : Array Value) (below : List Frame) (meth : Method) (c : Code) (D : va_G) (cy : Nat → ClassId) (A : Nat → Prop) (ad : Nat → Nat) (k : Int64 → Int64 → Int64 → Int32 → Option (Int64)) : Prop :=
  ∀ (x1 : Int64) (x3 : Int64) (x5 : Int64) (x7 : Int32) (res : Int64), k x1 x3 x5 x7 = some res → ∀ (H : Heap) (locs : List Loc) (ls : Array Slot), va_P D classes [] H → va_D A [] → va_S A s.heap H locs → lv_has ls 8 [(1, .long x1), (3, .long x3), (5, .long x5), (7, .int x7)] → W p l e rm_Bl_workOf s m args below meth c H locs 0 0 (MQ below (q_Bl_workOf D cy A res) args s 0 0 A) (F0 m 27 ls [])
def I_Bl_workOf_e (p : Program) (l : Launch) (e : Env) (s : State) (m : MethodId) (args : Array Value) (below : List Frame) (meth : Method) (c : Code) (D : va_G) (cy : Nat → ClassId) (A : Nat → Prop) (ad : Nat → Nat) (k : Int32 → Option (Int64)) : Prop :=
  ∀ (a0 : Int32) (res : Int64), k a0 = some res → ∀ (H : Heap) (locs : List Loc) (ls : Array Slot), va_P D classes [] H → va_D A [] → va_S A s.heap H locs → lv_has ls 8 [(0, .int a0)] → W p l e rm_Bl_workOf s m args below meth c H locs 0 0 (MQ below (q_Bl_workOf D cy A res) args s 0 0 A) (F0 m 0 ls [])
set_option maxHeartbeats 8000000 in
set_option maxRecDepth 100000 in
theorem wb_Bl_workOf_27 {p : Program} {l : Launch} {e : Env} {s : State} {m : MethodId} {args : Array Value} {below : List Frame} {meth : Method} {c : Code} {D : va_G} {cy : Nat → ClassId} {A : Nat → Prop} {ad : Nat → Nat} {fu : Nat} {k_27 : Int64 → Int64 → Int64 → Int32 → Option (Int64)} (F : Fx p s m args meth c b_Bl_workOf 8 "CoinKeeper$Block" "workOf" (some .long) D cy ad A) (hk_27 : I_Bl_workOf_27 p l e s m args below meth c D cy A ad k_27) : I_Bl_workOf_27 p l e s m args below meth c D cy A ad (xb_Bl_workOf_27 fu k_27) := by
  obtain ⟨hx, hb, hr, hml, hown, hts, hlocks, hK, hA, hSt, hnm, hex⟩ := id F
  intro x1 x3 x5 x7 res hf H locs ls hP hD hS hl
  unfold xb_Bl_workOf_27 at hf
  refine lv_iload hx hb d_Bl_workOf_27 (lv_at hl 3 rfl) ?_
  refine lv_bipush (v := 32) hx hb d_Bl_workOf_29 (by decide) ?_
  refine lv_icmp_ge (tgt := 63) hx hb d_Bl_workOf_31 (by decide) (fun cx => ?_) (fun cx => ?_)
  · have hf := ifp cx hf
    refine lv_lload hx hb d_Bl_workOf_63 (lv_at hl 2 rfl) ?_
    refine lv_lconst (v := 0) hx hb d_Bl_workOf_65 (by decide) ?_
    refine W.lcmp hx hb d_Bl_workOf_66 ?_
    refine lv_if_ne (tgt := 76) hx hb d_Bl_workOf_67 (by decide) (fun cx => ?_) (fun cx => ?_)
    · have hf := ifn cx hf
      refine lv_lload_n hx hb d_Bl_workOf_76 rfl (lv_at hl 1 rfl) ?_
      obtain rfl := Option.some.inj hf
      exact q_rl hx hb hr hlocks hK hP hD hS d_Bl_workOf_77
    · have hf := ifp cx hf
      refine lv_lload_n hx hb d_Bl_workOf_70 rfl (lv_at hl 1 rfl) ?_
      refine lv_lconst (v := 1) hx hb d_Bl_workOf_71 (by decide) ?_
      refine lv_lsub hx hb d_Bl_workOf_72 ?_
      refine lv_goto (tgt := 77) hx hb d_Bl_workOf_73 (by decide) ?_
      refine lv_topl (fun v1 ev => ?_)
      have hf := bn ev hf
      clear ev
      obtain rfl := Option.some.inj hf
      exact q_rl hx hb hr hlocks hK hP hD hS d_Bl_workOf_77
  · have hf := ifn cx hf
    refine lv_lload hx hb d_Bl_workOf_34 (lv_at hl 2 rfl) ?_
    refine lv_bipush (v := 8) hx hb d_Bl_workOf_36 (by decide) ?_
    refine lv_lshl hx hb d_Bl_workOf_38 rfl ?_
    refine lv_topl (fun v2 ev => ?_)
    have hf := bn ev hf
    clear ev
    refine lv_lstore (lv' := [(5, .long v2), (1, .long x1), (3, .long x3), (7, .int x7)]) hx hb d_Bl_workOf_39 hl (by decide) rfl (fun ls hl => ?_)
    refine lv_lload_n hx hb d_Bl_workOf_41 rfl (lv_at hl 2 rfl) ?_
    refine lv_bipush (v := 8) hx hb d_Bl_workOf_42 (by decide) ?_
    refine lv_lshl hx hb d_Bl_workOf_44 rfl ?_
    refine lv_topl (fun v3 ev => ?_)
    have hf := bn ev hf
    clear ev
    refine lv_lload hx hb d_Bl_workOf_45 (lv_at hl 0 rfl) ?_
    refine lv_lload_n hx hb d_Bl_workOf_47 rfl (lv_at hl 1 rfl) ?_
    obtain ⟨hg, hf⟩ := gdp hf
    refine lv_ldiv hx hb d_Bl_workOf_48 (nzl_p hg) ?_
    refine lv_ladd hx hb d_Bl_workOf_49 ?_
    refine lv_topl (fun v4 ev => ?_)
    have hf := bn ev hf
    clear ev
    refine lv_lstore_n (lv' := [(3, .long v4), (5, .long v2), (1, .long x1), (7, .int x7)]) hx hb d_Bl_workOf_50 rfl hl (by decide) rfl (fun ls hl => ?_)
    refine lv_lload hx hb d_Bl_workOf_51 (lv_at hl 1 rfl) ?_
    refine lv_lload_n hx hb d_Bl_workOf_53 rfl (lv_at hl 2 rfl) ?_
    obtain ⟨hg, hf⟩ := gdp hf
    refine lv_lrem hx hb d_Bl_workOf_54 (nzl_p hg) ?_
    refine lv_topl (fun v5 ev => ?_)
    have hf := bn ev hf
    clear ev
    refine lv_lstore (lv' := [(5, .long v5), (3, .long v4), (1, .long x1), (7, .int x7)]) hx hb d_Bl_workOf_55 hl (by decide) rfl (fun ls hl => ?_)
    obtain ⟨v6, ev, hf⟩ := bne hf
    refine lv_iinc (v := v6) (lv' := [(7, .int v6), (5, .long v5), (3, .long v4), (1, .long x1)]) hx hb d_Bl_workOf_57 hl (k := 3) rfl (by rw [ev]; rfl) (by decide) rfl (fun ls hl => ?_)
    clear ev
    refine lv_goto (tgt := 27) hx hb d_Bl_workOf_60 (by decide) ?_
    exact hk_27 _ _ _ _ _ hf _ _ _ hP hD hS (lv_sub hl [3, 2, 1, 0] rfl)
theorem w_Bl_workOf_27 {p : Program} {l : Launch} {e : Env} {s : State} {m : MethodId} {args : Array Value} {below : List Frame} {meth : Method} {c : Code} {D : va_G} {cy : Nat → ClassId} {A : Nat → Prop} {ad : Nat → Nat} {fu : Nat} (F : Fx p s m args meth c b_Bl_workOf 8 "CoinKeeper$Block" "workOf" (some .long) D cy ad A) : ∀ n : Nat, I_Bl_workOf_27 p l e s m args below meth c D cy A ad (x_Bl_workOf_27 fu n)
  | 0 => fun _ _ _ _ _ hf => nomatch (show (none : Option (Int64)) = some _ from hf)
  | n + 1 => wb_Bl_workOf_27 F (w_Bl_workOf_27 F n)
set_option maxHeartbeats 8000000 in
set_option maxRecDepth 100000 in
theorem we_Bl_workOf {p : Program} {l : Launch} {e : Env} {s : State} {m : MethodId} {args : Array Value} {below : List Frame} {meth : Method} {c : Code} {D : va_G} {cy : Nat → ClassId} {A : Nat → Prop} {ad : Nat → Nat} {fu : Nat} (F : Fx p s m args meth c b_Bl_workOf 8 "CoinKeeper$Block" "workOf" (some .long) D cy ad A) : I_Bl_workOf_e p l e s m args below meth c D cy A ad (x_Bl_workOf fu) := by
  obtain ⟨hx, hb, hr, hml, hown, hts, hlocks, hK, hA, hSt, hnm, hex⟩ := id F
  intro a0 res hf H locs ls hP hD hS hl
  unfold x_Bl_workOf at hf
  refine lv_iload_n hx hb d_Bl_workOf_0 rfl (lv_at hl 0 rfl) ?_
  refine lv_ldc (v := 8388607) hx hb hown (hts _ gw_389) d_Bl_workOf_1 ?_
  refine lv_iand hx hb d_Bl_workOf_3 ?_
  refine lv_i2l hx hb d_Bl_workOf_4 rfl ?_
  refine lv_topl (fun v1 ev => ?_)
  have hf := bn ev hf
  clear ev
  refine lv_lstore_n (lv' := [(1, .long v1), (0, .int a0)]) hx hb d_Bl_workOf_5 rfl hl (by decide) rfl (fun ls hl => ?_)
  refine lv_lload_n hx hb d_Bl_workOf_6 rfl (lv_at hl 0 rfl) ?_
  refine lv_lconst (v := 0) hx hb d_Bl_workOf_7 (by decide) ?_
  refine W.lcmp hx hb d_Bl_workOf_8 ?_
  refine lv_if_ne (tgt := 14) hx hb d_Bl_workOf_9 (by decide) (fun cx => ?_) (fun cx => ?_)
  · have hf := ifn cx hf
    refine lv_lconst (v := 0) hx hb d_Bl_workOf_14 (by decide) ?_
    refine lv_lstore_n (lv' := [(3, .long (0 : Int64)), (1, .long v1), (0, .int a0)]) hx hb d_Bl_workOf_15 rfl hl (by decide) rfl (fun ls hl => ?_)
    refine lv_lconst (v := 1) hx hb d_Bl_workOf_16 (by decide) ?_
    refine lv_lstore (lv' := [(5, .long (1 : Int64)), (3, .long (0 : Int64)), (1, .long v1), (0, .int a0)]) hx hb d_Bl_workOf_17 hl (by decide) rfl (fun ls hl => ?_)
    refine lv_iload_n hx hb d_Bl_workOf_19 rfl (lv_at hl 3 rfl) ?_
    refine lv_bipush (v := 24) hx hb d_Bl_workOf_20 (by decide) ?_
    refine lv_iushr hx hb d_Bl_workOf_22 rfl ?_
    refine lv_topi (fun v2 ev => ?_)
    have hf := bn ev hf
    clear ev
    refine lv_iconst (v := 3) hx hb d_Bl_workOf_23 (by decide) ?_
    refine lv_isub hx hb d_Bl_workOf_24 ?_
    refine lv_topi (fun v3 ev => ?_)
    have hf := bn ev hf
    clear ev
    refine lv_istore (lv' := [(7, .int v3), (5, .long (1 : Int64)), (3, .long (0 : Int64)), (1, .long v1), (0, .int a0)]) hx hb d_Bl_workOf_25 hl (by decide) rfl (fun ls hl => ?_)
    exact w_Bl_workOf_27 F fu _ _ _ _ _ hf _ _ _ hP hD hS (lv_sub hl [3, 2, 1, 0] rfl)
  · have hf := ifp cx hf
    refine lv_lconst (v := 0) hx hb d_Bl_workOf_12 (by decide) ?_
    obtain rfl := Option.some.inj hf
    exact q_rl hx hb hr hlocks hK hP hD hS d_Bl_workOf_13
theorem c_Bl_workOf (l : Launch) (D : va_G) (cy : Nat → ClassId) (ad : Nat → Nat) (fu : Nat) (a0 : Int32) (res : Int64) (hf : x_Bl_workOf fu a0 = some res) (sz : Nat) : Met l ({ cls := "CoinKeeper$Block", name := "workOf", desc := "(I)J" } : Jvm.MethodName) (.code ({ cls := "CoinKeeper$Block", name := "workOf", desc := "(I)J" } : Jvm.MethodName) b_Bl_workOf 8 (some .long) :: gw) rm_Bl_workOf (va_Pc [.int a0] (Pr D cy ad [] sz)) (q_Bl_workOf D cy (va_A [] sz) res) 0 0 (va_A [] sz) :=
  q_met (Qc := fun A => q_Bl_workOf D cy A res) (by decide) rfl rfl (Nat.le_of_ble_eq_true rfl) (fun p e s m below meth c ls F hP hD hS hl => we_Bl_workOf (fu := fu) F a0 res hf _ _ _ hP hD hS hl) sz
abbrev b_Bl_isAbove : ByteArray := prog_2_method_9_code
theorem d_Bl_isAbove_0 : decode b_Bl_isAbove 0 = .ok (.iload_n 1, 1) := by decide +kernel
theorem d_Bl_isAbove_1 : decode b_Bl_isAbove 1 = .ok (.bipush 24, 2) := by decide +kernel
theorem d_Bl_isAbove_3 : decode b_Bl_isAbove 3 = .ok (.iushr, 1) := by decide +kernel
theorem d_Bl_isAbove_4 : decode b_Bl_isAbove 4 = .ok (.iconst 3, 1) := by decide +kernel
theorem d_Bl_isAbove_5 : decode b_Bl_isAbove 5 = .ok (.isub, 1) := by decide +kernel
theorem d_Bl_isAbove_6 : decode b_Bl_isAbove 6 = .ok (.istore_n 2, 1) := by decide +kernel
theorem d_Bl_isAbove_7 : decode b_Bl_isAbove 7 = .ok (.bipush 31, 2) := by decide +kernel
theorem d_Bl_isAbove_9 : decode b_Bl_isAbove 9 = .ok (.istore_n 3, 1) := by decide +kernel
theorem d_Bl_isAbove_10 : decode b_Bl_isAbove 10 = .ok (.iload_n 3, 1) := by decide +kernel
theorem d_Bl_isAbove_11 : decode b_Bl_isAbove 11 = .ok (.ifCond .lt 72, 3) := by decide +kernel
theorem d_Bl_isAbove_14 : decode b_Bl_isAbove 14 = .ok (.iload_n 3, 1) := by decide +kernel
theorem d_Bl_isAbove_15 : decode b_Bl_isAbove 15 = .ok (.iload_n 2, 1) := by decide +kernel
theorem d_Bl_isAbove_16 : decode b_Bl_isAbove 16 = .ok (.isub, 1) := by decide +kernel
theorem d_Bl_isAbove_17 : decode b_Bl_isAbove 17 = .ok (.istore 4, 2) := by decide +kernel
theorem d_Bl_isAbove_19 : decode b_Bl_isAbove 19 = .ok (.iload 4, 2) := by decide +kernel
theorem d_Bl_isAbove_21 : decode b_Bl_isAbove 21 = .ok (.ifCond .lt 9, 3) := by decide +kernel
theorem d_Bl_isAbove_24 : decode b_Bl_isAbove 24 = .ok (.iload 4, 2) := by decide +kernel
theorem d_Bl_isAbove_26 : decode b_Bl_isAbove 26 = .ok (.iconst 2, 1) := by decide +kernel
theorem d_Bl_isAbove_27 : decode b_Bl_isAbove 27 = .ok (.if_icmp .le 7, 3) := by decide +kernel
theorem d_Bl_isAbove_30 : decode b_Bl_isAbove 30 = .ok (.iconst 0, 1) := by decide +kernel
theorem d_Bl_isAbove_31 : decode b_Bl_isAbove 31 = .ok (.goto 14, 3) := by decide +kernel
theorem d_Bl_isAbove_34 : decode b_Bl_isAbove 34 = .ok (.iload_n 1, 1) := by decide +kernel
theorem d_Bl_isAbove_35 : decode b_Bl_isAbove 35 = .ok (.bipush 8, 2) := by decide +kernel
theorem d_Bl_isAbove_37 : decode b_Bl_isAbove 37 = .ok (.iload 4, 2) := by decide +kernel
theorem d_Bl_isAbove_39 : decode b_Bl_isAbove 39 = .ok (.imul, 1) := by decide +kernel
theorem d_Bl_isAbove_40 : decode b_Bl_isAbove 40 = .ok (.iushr, 1) := by decide +kernel
theorem d_Bl_isAbove_41 : decode b_Bl_isAbove 41 = .ok (.sipush 255, 3) := by decide +kernel
theorem d_Bl_isAbove_44 : decode b_Bl_isAbove 44 = .ok (.iand, 1) := by decide +kernel
theorem d_Bl_isAbove_45 : decode b_Bl_isAbove 45 = .ok (.istore 5, 2) := by decide +kernel
theorem d_Bl_isAbove_47 : decode b_Bl_isAbove 47 = .ok (.aload_n 0, 1) := by decide +kernel
theorem d_Bl_isAbove_48 : decode b_Bl_isAbove 48 = .ok (.iload_n 3, 1) := by decide +kernel
theorem d_Bl_isAbove_49 : decode b_Bl_isAbove 49 = .ok (.baload, 1) := by decide +kernel
theorem d_Bl_isAbove_50 : decode b_Bl_isAbove 50 = .ok (.sipush 255, 3) := by decide +kernel
theorem d_Bl_isAbove_53 : decode b_Bl_isAbove 53 = .ok (.iand, 1) := by decide +kernel
theorem d_Bl_isAbove_54 : decode b_Bl_isAbove 54 = .ok (.iload 5, 2) := by decide +kernel
theorem d_Bl_isAbove_56 : decode b_Bl_isAbove 56 = .ok (.if_icmp .eq 21, 3) := by decide +kernel
theorem d_Bl_isAbove_59 : decode b_Bl_isAbove 59 = .ok (.aload_n 0, 1) := by decide +kernel
theorem d_Bl_isAbove_60 : decode b_Bl_isAbove 60 = .ok (.iload_n 3, 1) := by decide +kernel
theorem d_Bl_isAbove_61 : decode b_Bl_isAbove 61 = .ok (.baload, 1) := by decide +kernel
theorem d_Bl_isAbove_62 : decode b_Bl_isAbove 62 = .ok (.sipush 255, 3) := by decide +kernel
theorem d_Bl_isAbove_65 : decode b_Bl_isAbove 65 = .ok (.iand, 1) := by decide +kernel
theorem d_Bl_isAbove_66 : decode b_Bl_isAbove 66 = .ok (.iload 5, 2) := by decide +kernel
theorem d_Bl_isAbove_68 : decode b_Bl_isAbove 68 = .ok (.if_icmp .le 7, 3) := by decide +kernel
theorem d_Bl_isAbove_71 : decode b_Bl_isAbove 71 = .ok (.iconst 1, 1) := by decide +kernel
theorem d_Bl_isAbove_72 : decode b_Bl_isAbove 72 = .ok (.goto 4, 3) := by decide +kernel
theorem d_Bl_isAbove_75 : decode b_Bl_isAbove 75 = .ok (.iconst 0, 1) := by decide +kernel
theorem d_Bl_isAbove_76 : decode b_Bl_isAbove 76 = .ok (.ireturn, 1) := by decide +kernel
theorem d_Bl_isAbove_77 : decode b_Bl_isAbove 77 = .ok (.iinc 3 (-1), 3) := by decide +kernel
theorem d_Bl_isAbove_80 : decode b_Bl_isAbove 80 = .ok (.goto (-70), 3) := by decide +kernel
theorem d_Bl_isAbove_83 : decode b_Bl_isAbove 83 = .ok (.iconst 0, 1) := by decide +kernel
theorem d_Bl_isAbove_84 : decode b_Bl_isAbove 84 = .ok (.ireturn, 1) := by decide +kernel
abbrev rm_Bl_isAbove : Room := { frames := 0, cells := 0, slots := 0, locals := 0 }
abbrev q_Bl_isAbove (D : va_G) (cy : Nat → ClassId) (A : Nat → Prop) (b0 : Nat) (n0 : Nat) (h0 : Nat → Int32) (res : Int32) : Array Value → State → Outcome → State → Prop := va_Qi (fun r' (_ : Unit) => r' = res) (fun _ t => Po D cy A [(b0, .inl (cy 0, n0, .inl h0))] t) A
def I_Bl_isAbove_45 (p : Program) (l : Launch) (e : Env) (s : State) (m : MethodId) (args : Array Value) (below : List Frame) (meth : Method) (c : Code) (D : va_G) (cy : Nat → ClassId) (A : Nat → Prop) (ad : Nat → Nat) (b0 : Nat) (n0 : Nat) (h0 : Nat → Int32) (k : Int32 → Int32 → Int32 → Int32 → Option (Int32)) : Prop :=
  ∀ (x1 : Int32) (x2 : Int32) (x3 : Int32) (y0 : Int32) (res : Int32), k x1 x2 x3 y0 = some res → ∀ (H : Heap) (locs : List Loc) (ls : Array Slot), va_P D classes [(b0, .inl (cy 0, n0, .inl h0))] H → va_D A [(b0, .inl (cy 0, n0, .inl h0))] → va_S A s.heap H locs → lv_has ls 6 [(0, .ref b0), (1, .int x1), (2, .int x2), (3, .int x3)] → W p l e rm_Bl_isAbove s m args below meth c H locs 0 0 (MQ below (q_Bl_isAbove D cy A b0 n0 h0 res) args s 0 0 A) (F0 m 45 ls [.int y0])
def I_Bl_isAbove_30 (p : Program) (l : Launch) (e : Env) (s : State) (m : MethodId) (args : Array Value) (below : List Frame) (meth : Method) (c : Code) (D : va_G) (cy : Nat → ClassId) (A : Nat → Prop) (ad : Nat → Nat) (b0 : Nat) (n0 : Nat) (h0 : Nat → Int32) (k : Int32 → Int32 → Int32 → Option (Int32)) : Prop :=
  ∀ (x1 : Int32) (x2 : Int32) (x3 : Int32) (res : Int32), k x1 x2 x3 = some res → ∀ (H : Heap) (locs : List Loc) (ls : Array Slot), va_P D classes [(b0, .inl (cy 0, n0, .inl h0))] H → va_D A [(b0, .inl (cy 0, n0, .inl h0))] → va_S A s.heap H locs → lv_has ls 6 [(0, .ref b0), (1, .int x1), (2, .int x2), (3, .int x3)] → W p l e rm_Bl_isAbove s m args below meth c H locs 0 0 (MQ below (q_Bl_isAbove D cy A b0 n0 h0 res) args s 0 0 A) (F0 m 30 ls [])
def I_Bl_isAbove_10 (p : Program) (l : Launch) (e : Env) (s : State) (m : MethodId) (args : Array Value) (below : List Frame) (meth : Method) (c : Code) (D : va_G) (cy : Nat → ClassId) (A : Nat → Prop) (ad : Nat → Nat) (b0 : Nat) (n0 : Nat) (h0 : Nat → Int32) (k : Int32 → Int32 → Int32 → Option (Int32)) : Prop :=
  ∀ (x1 : Int32) (x2 : Int32) (x3 : Int32) (res : Int32), k x1 x2 x3 = some res → ∀ (H : Heap) (locs : List Loc) (ls : Array Slot), va_P D classes [(b0, .inl (cy 0, n0, .inl h0))] H → va_D A [(b0, .inl (cy 0, n0, .inl h0))] → va_S A s.heap H locs → lv_has ls 6 [(0, .ref b0), (1, .int x1), (2, .int x2), (3, .int x3)] → W p l e rm_Bl_isAbove s m args below meth c H locs 0 0 (MQ below (q_Bl_isAbove D cy A b0 n0 h0 res) args s 0 0 A) (F0 m 10 ls [])
def I_Bl_isAbove_e (p : Program) (l : Launch) (e : Env) (s : State) (m : MethodId) (args : Array Value) (below : List Frame) (meth : Method) (c : Code) (D : va_G) (cy : Nat → ClassId) (A : Nat → Prop) (ad : Nat → Nat) (b0 : Nat) (n0 : Nat) (h0 : Nat → Int32) (k : Int32 → Option (Int32)) : Prop :=
  ∀ (a1 : Int32) (res : Int32), k a1 = some res → ∀ (H : Heap) (locs : List Loc) (ls : Array Slot), va_P D classes [(b0, .inl (cy 0, n0, .inl h0))] H → va_D A [(b0, .inl (cy 0, n0, .inl h0))] → va_S A s.heap H locs → lv_has ls 6 [(0, .ref b0), (1, .int a1)] → W p l e rm_Bl_isAbove s m args below meth c H locs 0 0 (MQ below (q_Bl_isAbove D cy A b0 n0 h0 res) args s 0 0 A) (F0 m 0 ls [])
set_option maxHeartbeats 8000000 in
set_option maxRecDepth 100000 in
theorem wb_Bl_isAbove_45 {p : Program} {l : Launch} {e : Env} {s : State} {m : MethodId} {args : Array Value} {below : List Frame} {meth : Method} {c : Code} {D : va_G} {cy : Nat → ClassId} {A : Nat → Prop} {ad : Nat → Nat} {b0 : Nat} {n0 : Nat} {h0 : Nat → Int32} {fu : Nat} {k_10 : Int32 → Int32 → Int32 → Option (Int32)} (F : Fx p s m args meth c b_Bl_isAbove 6 "CoinKeeper$Block" "isAbove" (some .boolean) D cy ad A) (hk_10 : I_Bl_isAbove_10 p l e s m args below meth c D cy A ad b0 n0 h0 k_10) : I_Bl_isAbove_45 p l e s m args below meth c D cy A ad b0 n0 h0 (xb_Bl_isAbove_45 fu n0 h0 k_10) := by
  obtain ⟨hx, hb, hr, hml, hown, hts, hlocks, hK, hA, hSt, hnm, hex⟩ := id F
  intro x1 x2 x3 y0 res hf H locs ls hP hD hS hl
  unfold xb_Bl_isAbove_45 at hf
  refine lv_istore (lv' := [(5, .int y0), (0, .ref b0), (1, .int x1), (2, .int x2), (3, .int x3)]) hx hb d_Bl_isAbove_45 hl (by decide) rfl (fun ls hl => ?_)
  refine lv_aload_n hx hb d_Bl_isAbove_47 rfl (lv_at hl 1 rfl) ?_
  refine lv_iload_n hx hb d_Bl_isAbove_48 rfl (lv_at hl 4 rfl) ?_
  obtain ⟨hg, hf⟩ := gdp hf
  refine va_bald hx hb hK hP 0 0 rfl rfl (inb_in hg) d_Bl_isAbove_49 ?_
  refine lv_topi (fun v1 ev => ?_)
  have hf := bn ev hf
  clear ev
  refine lv_sipush (v := 255) hx hb d_Bl_isAbove_50 (by decide) ?_
  refine lv_iand hx hb d_Bl_isAbove_53 ?_
  refine lv_topi (fun v2 ev => ?_)
  have hf := bn ev hf
  clear ev
  refine lv_iload hx hb d_Bl_isAbove_54 (lv_at hl 0 rfl) ?_
  refine lv_icmp_eq (tgt := 77) hx hb d_Bl_isAbove_56 (by decide) (fun cx => ?_) (fun cx => ?_)
  · have hf := ifp cx hf
    obtain ⟨v3, ev, hf⟩ := bne hf
    refine lv_iinc (v := v3) (lv' := [(3, .int v3), (5, .int y0), (0, .ref b0), (1, .int x1), (2, .int x2)]) hx hb d_Bl_isAbove_77 hl (k := 4) rfl (by rw [ev]; rfl) (by decide) rfl (fun ls hl => ?_)
    clear ev
    refine lv_goto (tgt := 10) hx hb d_Bl_isAbove_80 (by decide) ?_
    exact hk_10 _ _ _ _ hf _ _ _ hP hD hS (lv_sub hl [2, 3, 4, 0] rfl)
  · have hf := ifn cx hf
    refine lv_aload_n hx hb d_Bl_isAbove_59 rfl (lv_at hl 1 rfl) ?_
    refine lv_iload_n hx hb d_Bl_isAbove_60 rfl (lv_at hl 4 rfl) ?_
    obtain ⟨hg, hf⟩ := gdp hf
    refine va_bald hx hb hK hP 0 0 rfl rfl (inb_in hg) d_Bl_isAbove_61 ?_
    refine lv_topi (fun v4 ev => ?_)
    have hf := bn ev hf
    clear ev
    refine lv_sipush (v := 255) hx hb d_Bl_isAbove_62 (by decide) ?_
    refine lv_iand hx hb d_Bl_isAbove_65 ?_
    refine lv_topi (fun v5 ev => ?_)
    have hf := bn ev hf
    clear ev
    refine lv_iload hx hb d_Bl_isAbove_66 (lv_at hl 0 rfl) ?_
    refine lv_icmp_le (tgt := 75) hx hb d_Bl_isAbove_68 (by decide) (fun cx => ?_) (fun cx => ?_)
    · have hf := ifp cx hf
      refine lv_iconst (v := 0) hx hb d_Bl_isAbove_75 (by decide) ?_
      obtain rfl := Option.some.inj hf
      exact q_rz hx hb hr hlocks hK hP hD hS (isb_n (v := 0) (by decide)) d_Bl_isAbove_76
    · have hf := ifn cx hf
      refine lv_iconst (v := 1) hx hb d_Bl_isAbove_71 (by decide) ?_
      refine lv_goto (tgt := 76) hx hb d_Bl_isAbove_72 (by decide) ?_
      obtain rfl := Option.some.inj hf
      exact q_rz hx hb hr hlocks hK hP hD hS (isb_n (v := 1) (by decide)) d_Bl_isAbove_76
set_option maxHeartbeats 8000000 in
set_option maxRecDepth 100000 in
theorem wb_Bl_isAbove_30 {p : Program} {l : Launch} {e : Env} {s : State} {m : MethodId} {args : Array Value} {below : List Frame} {meth : Method} {c : Code} {D : va_G} {cy : Nat → ClassId} {A : Nat → Prop} {ad : Nat → Nat} {b0 : Nat} {n0 : Nat} {h0 : Nat → Int32} {fu : Nat} {k_10 : Int32 → Int32 → Int32 → Option (Int32)} (F : Fx p s m args meth c b_Bl_isAbove 6 "CoinKeeper$Block" "isAbove" (some .boolean) D cy ad A) (hk_10 : I_Bl_isAbove_10 p l e s m args below meth c D cy A ad b0 n0 h0 k_10) : I_Bl_isAbove_30 p l e s m args below meth c D cy A ad b0 n0 h0 (xb_Bl_isAbove_30 fu n0 h0 k_10) := by
  obtain ⟨hx, hb, hr, hml, hown, hts, hlocks, hK, hA, hSt, hnm, hex⟩ := id F
  intro x1 x2 x3 res hf H locs ls hP hD hS hl
  unfold xb_Bl_isAbove_30 at hf
  refine lv_iconst (v := 0) hx hb d_Bl_isAbove_30 (by decide) ?_
  refine lv_goto (tgt := 45) hx hb d_Bl_isAbove_31 (by decide) ?_
  exact wb_Bl_isAbove_45 (fu := fu) F hk_10 _ _ _ _ _ hf _ _ _ hP hD hS (lv_sub hl [0, 1, 2, 3] rfl)
set_option maxHeartbeats 8000000 in
set_option maxRecDepth 100000 in
theorem wb_Bl_isAbove_10 {p : Program} {l : Launch} {e : Env} {s : State} {m : MethodId} {args : Array Value} {below : List Frame} {meth : Method} {c : Code} {D : va_G} {cy : Nat → ClassId} {A : Nat → Prop} {ad : Nat → Nat} {b0 : Nat} {n0 : Nat} {h0 : Nat → Int32} {fu : Nat} {k_10 : Int32 → Int32 → Int32 → Option (Int32)} (F : Fx p s m args meth c b_Bl_isAbove 6 "CoinKeeper$Block" "isAbove" (some .boolean) D cy ad A) (hk_10 : I_Bl_isAbove_10 p l e s m args below meth c D cy A ad b0 n0 h0 k_10) : I_Bl_isAbove_10 p l e s m args below meth c D cy A ad b0 n0 h0 (xb_Bl_isAbove_10 fu n0 h0 k_10) := by
  obtain ⟨hx, hb, hr, hml, hown, hts, hlocks, hK, hA, hSt, hnm, hex⟩ := id F
  intro x1 x2 x3 res hf H locs ls hP hD hS hl
  unfold xb_Bl_isAbove_10 at hf
  refine lv_iload_n hx hb d_Bl_isAbove_10 rfl (lv_at hl 3 rfl) ?_
  refine lv_if_lt (tgt := 83) hx hb d_Bl_isAbove_11 (by decide) (fun cx => ?_) (fun cx => ?_)
  · have hf := ifp cx hf
    refine lv_iconst (v := 0) hx hb d_Bl_isAbove_83 (by decide) ?_
    obtain rfl := Option.some.inj hf
    exact q_rz hx hb hr hlocks hK hP hD hS (isb_n (v := 0) (by decide)) d_Bl_isAbove_84
  · have hf := ifn cx hf
    refine lv_iload_n hx hb d_Bl_isAbove_14 rfl (lv_at hl 3 rfl) ?_
    refine lv_iload_n hx hb d_Bl_isAbove_15 rfl (lv_at hl 2 rfl) ?_
    refine lv_isub hx hb d_Bl_isAbove_16 ?_
    refine lv_topi (fun v1 ev => ?_)
    have hf := bn ev hf
    clear ev
    refine lv_istore (lv' := [(4, .int v1), (0, .ref b0), (1, .int x1), (2, .int x2), (3, .int x3)]) hx hb d_Bl_isAbove_17 hl (by decide) rfl (fun ls hl => ?_)
    refine lv_iload hx hb d_Bl_isAbove_19 (lv_at hl 0 rfl) ?_
    refine lv_if_lt (tgt := 30) hx hb d_Bl_isAbove_21 (by decide) (fun cx => ?_) (fun cx => ?_)
    · have hf := ifp cx hf
      exact wb_Bl_isAbove_30 (fu := fu) F hk_10 _ _ _ _ hf _ _ _ hP hD hS (lv_sub hl [1, 2, 3, 4] rfl)
    · have hf := ifn cx hf
      refine lv_iload hx hb d_Bl_isAbove_24 (lv_at hl 0 rfl) ?_
      refine lv_iconst (v := 2) hx hb d_Bl_isAbove_26 (by decide) ?_
      refine lv_icmp_le (tgt := 34) hx hb d_Bl_isAbove_27 (by decide) (fun cx => ?_) (fun cx => ?_)
      · have hf := ifp cx hf
        refine lv_iload_n hx hb d_Bl_isAbove_34 rfl (lv_at hl 2 rfl) ?_
        refine lv_bipush (v := 8) hx hb d_Bl_isAbove_35 (by decide) ?_
        refine lv_iload hx hb d_Bl_isAbove_37 (lv_at hl 0 rfl) ?_
        refine lv_imul hx hb d_Bl_isAbove_39 ?_
        refine lv_iushr hx hb d_Bl_isAbove_40 rfl ?_
        refine lv_topi (fun v2 ev => ?_)
        have hf := bn ev hf
        clear ev
        refine lv_sipush (v := 255) hx hb d_Bl_isAbove_41 (by decide) ?_
        refine lv_iand hx hb d_Bl_isAbove_44 ?_
        exact wb_Bl_isAbove_45 (fu := fu) F hk_10 _ _ _ _ _ hf _ _ _ hP hD hS (lv_sub hl [1, 2, 3, 4] rfl)
      · have hf := ifn cx hf
        exact wb_Bl_isAbove_30 (fu := fu) F hk_10 _ _ _ _ hf _ _ _ hP hD hS (lv_sub hl [1, 2, 3, 4] rfl)
theorem w_Bl_isAbove_10 {p : Program} {l : Launch} {e : Env} {s : State} {m : MethodId} {args : Array Value} {below : List Frame} {meth : Method} {c : Code} {D : va_G} {cy : Nat → ClassId} {A : Nat → Prop} {ad : Nat → Nat} {b0 : Nat} {n0 : Nat} {h0 : Nat → Int32} {fu : Nat} (F : Fx p s m args meth c b_Bl_isAbove 6 "CoinKeeper$Block" "isAbove" (some .boolean) D cy ad A) : ∀ n : Nat, I_Bl_isAbove_10 p l e s m args below meth c D cy A ad b0 n0 h0 (x_Bl_isAbove_10 fu n0 h0 n)
  | 0 => fun _ _ _ _ hf => nomatch (show (none : Option (Int32)) = some _ from hf)
  | n + 1 => wb_Bl_isAbove_10 F (w_Bl_isAbove_10 F n)
set_option maxHeartbeats 8000000 in
set_option maxRecDepth 100000 in
theorem we_Bl_isAbove {p : Program} {l : Launch} {e : Env} {s : State} {m : MethodId} {args : Array Value} {below : List Frame} {meth : Method} {c : Code} {D : va_G} {cy : Nat → ClassId} {A : Nat → Prop} {ad : Nat → Nat} {b0 : Nat} {n0 : Nat} {h0 : Nat → Int32} {fu : Nat} (F : Fx p s m args meth c b_Bl_isAbove 6 "CoinKeeper$Block" "isAbove" (some .boolean) D cy ad A) : I_Bl_isAbove_e p l e s m args below meth c D cy A ad b0 n0 h0 (x_Bl_isAbove fu n0 h0) := by
  obtain ⟨hx, hb, hr, hml, hown, hts, hlocks, hK, hA, hSt, hnm, hex⟩ := id F
  intro a1 res hf H locs ls hP hD hS hl
  unfold x_Bl_isAbove at hf
  refine lv_iload_n hx hb d_Bl_isAbove_0 rfl (lv_at hl 1 rfl) ?_
  refine lv_bipush (v := 24) hx hb d_Bl_isAbove_1 (by decide) ?_
  refine lv_iushr hx hb d_Bl_isAbove_3 rfl ?_
  refine lv_topi (fun v1 ev => ?_)
  have hf := bn ev hf
  clear ev
  refine lv_iconst (v := 3) hx hb d_Bl_isAbove_4 (by decide) ?_
  refine lv_isub hx hb d_Bl_isAbove_5 ?_
  refine lv_topi (fun v2 ev => ?_)
  have hf := bn ev hf
  clear ev
  refine lv_istore_n (lv' := [(2, .int v2), (0, .ref b0), (1, .int a1)]) hx hb d_Bl_isAbove_6 rfl hl (by decide) rfl (fun ls hl => ?_)
  refine lv_bipush (v := 31) hx hb d_Bl_isAbove_7 (by decide) ?_
  refine lv_istore_n (lv' := [(3, .int (31 : Int32)), (2, .int v2), (0, .ref b0), (1, .int a1)]) hx hb d_Bl_isAbove_9 rfl hl (by decide) rfl (fun ls hl => ?_)
  exact w_Bl_isAbove_10 F fu _ _ _ _ hf _ _ _ hP hD hS (lv_sub hl [2, 3, 1, 0] rfl)
theorem c_Bl_isAbove (l : Launch) (D : va_G) (cy : Nat → ClassId) (ad : Nat → Nat) (fu : Nat) (b0 : Nat) (n0 : Nat) (h0 : Nat → Int32) (a1 : Int32) (res : Int32) (hf : x_Bl_isAbove fu n0 h0 a1 = some res) (sz : Nat) : Met l ({ cls := "CoinKeeper$Block", name := "isAbove", desc := "([BI)Z" } : Jvm.MethodName) (.code ({ cls := "CoinKeeper$Block", name := "isAbove", desc := "([BI)Z" } : Jvm.MethodName) b_Bl_isAbove 6 (some .boolean) :: gw) rm_Bl_isAbove (va_Pc [.ref b0, .int a1] (Pr D cy ad [(b0, .inl (cy 0, n0, .inl h0))] sz)) (q_Bl_isAbove D cy (va_A [(b0, .inl (cy 0, n0, .inl h0))] sz) b0 n0 h0 res) 0 0 (va_A [(b0, .inl (cy 0, n0, .inl h0))] sz) :=
  q_met (Qc := fun A => q_Bl_isAbove D cy A b0 n0 h0 res) (by decide) rfl rfl (Nat.le_of_ble_eq_true rfl) (fun p e s m below meth c ls F hP hD hS hl => we_Bl_isAbove (fu := fu) F a1 res hf _ _ _ hP hD hS hl) sz
abbrev b_La_readCount : ByteArray := prog_5_method_6_code
theorem d_La_readCount_0 : decode b_La_readCount 0 = .ok (.aload_n 0, 1) := by decide +kernel
theorem d_La_readCount_1 : decode b_La_readCount 1 = .ok (.getfield 47, 3) := by decide +kernel
theorem d_La_readCount_4 : decode b_La_readCount 4 = .ok (.aload_n 0, 1) := by decide +kernel
theorem d_La_readCount_5 : decode b_La_readCount 5 = .ok (.getfield 43, 3) := by decide +kernel
theorem d_La_readCount_8 : decode b_La_readCount 8 = .ok (.if_icmp .lt 7, 3) := by decide +kernel
theorem d_La_readCount_11 : decode b_La_readCount 11 = .ok (.ldc2_w 59, 3) := by decide +kernel
theorem d_La_readCount_14 : decode b_La_readCount 14 = .ok (.lreturn, 1) := by decide +kernel
theorem d_La_readCount_15 : decode b_La_readCount 15 = .ok (.aload_n 0, 1) := by decide +kernel
theorem d_La_readCount_16 : decode b_La_readCount 16 = .ok (.getfield 39, 3) := by decide +kernel
theorem d_La_readCount_19 : decode b_La_readCount 19 = .ok (.aload_n 0, 1) := by decide +kernel
theorem d_La_readCount_20 : decode b_La_readCount 20 = .ok (.getfield 47, 3) := by decide +kernel
theorem d_La_readCount_23 : decode b_La_readCount 23 = .ok (.baload, 1) := by decide +kernel
theorem d_La_readCount_24 : decode b_La_readCount 24 = .ok (.sipush 255, 3) := by decide +kernel
theorem d_La_readCount_27 : decode b_La_readCount 27 = .ok (.iand, 1) := by decide +kernel
theorem d_La_readCount_28 : decode b_La_readCount 28 = .ok (.istore_n 1, 1) := by decide +kernel
theorem d_La_readCount_29 : decode b_La_readCount 29 = .ok (.aload_n 0, 1) := by decide +kernel
theorem d_La_readCount_30 : decode b_La_readCount 30 = .ok (.dup, 1) := by decide +kernel
theorem d_La_readCount_31 : decode b_La_readCount 31 = .ok (.getfield 47, 3) := by decide +kernel
theorem d_La_readCount_34 : decode b_La_readCount 34 = .ok (.iconst 1, 1) := by decide +kernel
theorem d_La_readCount_35 : decode b_La_readCount 35 = .ok (.iadd, 1) := by decide +kernel
theorem d_La_readCount_36 : decode b_La_readCount 36 = .ok (.putfield 47, 3) := by decide +kernel
theorem d_La_readCount_39 : decode b_La_readCount 39 = .ok (.iload_n 1, 1) := by decide +kernel
theorem d_La_readCount_40 : decode b_La_readCount 40 = .ok (.sipush 253, 3) := by decide +kernel
theorem d_La_readCount_43 : decode b_La_readCount 43 = .ok (.if_icmp .ge 6, 3) := by decide +kernel
theorem d_La_readCount_46 : decode b_La_readCount 46 = .ok (.iload_n 1, 1) := by decide +kernel
theorem d_La_readCount_47 : decode b_La_readCount 47 = .ok (.i2l, 1) := by decide +kernel
theorem d_La_readCount_48 : decode b_La_readCount 48 = .ok (.lreturn, 1) := by decide +kernel
theorem d_La_readCount_49 : decode b_La_readCount 49 = .ok (.iload_n 1, 1) := by decide +kernel
theorem d_La_readCount_50 : decode b_La_readCount 50 = .ok (.sipush 253, 3) := by decide +kernel
theorem d_La_readCount_53 : decode b_La_readCount 53 = .ok (.if_icmp .ne 7, 3) := by decide +kernel
theorem d_La_readCount_56 : decode b_La_readCount 56 = .ok (.iconst 2, 1) := by decide +kernel
theorem d_La_readCount_57 : decode b_La_readCount 57 = .ok (.goto 4, 3) := by decide +kernel
theorem d_La_readCount_60 : decode b_La_readCount 60 = .ok (.iconst 4, 1) := by decide +kernel
theorem d_La_readCount_61 : decode b_La_readCount 61 = .ok (.istore_n 2, 1) := by decide +kernel
theorem d_La_readCount_62 : decode b_La_readCount 62 = .ok (.iload_n 1, 1) := by decide +kernel
theorem d_La_readCount_63 : decode b_La_readCount 63 = .ok (.sipush 255, 3) := by decide +kernel
theorem d_La_readCount_66 : decode b_La_readCount 66 = .ok (.if_icmp .eq 16, 3) := by decide +kernel
theorem d_La_readCount_69 : decode b_La_readCount 69 = .ok (.iload_n 2, 1) := by decide +kernel
theorem d_La_readCount_70 : decode b_La_readCount 70 = .ok (.aload_n 0, 1) := by decide +kernel
theorem d_La_readCount_71 : decode b_La_readCount 71 = .ok (.getfield 43, 3) := by decide +kernel
theorem d_La_readCount_74 : decode b_La_readCount 74 = .ok (.aload_n 0, 1) := by decide +kernel
theorem d_La_readCount_75 : decode b_La_readCount 75 = .ok (.getfield 47, 3) := by decide +kernel
theorem d_La_readCount_78 : decode b_La_readCount 78 = .ok (.isub, 1) := by decide +kernel
theorem d_La_readCount_79 : decode b_La_readCount 79 = .ok (.if_icmp .le 7, 3) := by decide +kernel
theorem d_La_readCount_82 : decode b_La_readCount 82 = .ok (.ldc2_w 59, 3) := by decide +kernel
theorem d_La_readCount_85 : decode b_La_readCount 85 = .ok (.lreturn, 1) := by decide +kernel
theorem d_La_readCount_86 : decode b_La_readCount 86 = .ok (.lconst 0, 1) := by decide +kernel
theorem d_La_readCount_87 : decode b_La_readCount 87 = .ok (.lstore_n 3, 1) := by decide +kernel
theorem d_La_readCount_88 : decode b_La_readCount 88 = .ok (.iload_n 2, 1) := by decide +kernel
theorem d_La_readCount_89 : decode b_La_readCount 89 = .ok (.iconst 1, 1) := by decide +kernel
theorem d_La_readCount_90 : decode b_La_readCount 90 = .ok (.isub, 1) := by decide +kernel
theorem d_La_readCount_91 : decode b_La_readCount 91 = .ok (.istore 5, 2) := by decide +kernel
theorem d_La_readCount_93 : decode b_La_readCount 93 = .ok (.iload 5, 2) := by decide +kernel
theorem d_La_readCount_95 : decode b_La_readCount 95 = .ok (.ifCond .lt 32, 3) := by decide +kernel
theorem d_La_readCount_98 : decode b_La_readCount 98 = .ok (.lload_n 3, 1) := by decide +kernel
theorem d_La_readCount_99 : decode b_La_readCount 99 = .ok (.bipush 8, 2) := by decide +kernel
theorem d_La_readCount_101 : decode b_La_readCount 101 = .ok (.lshl, 1) := by decide +kernel
theorem d_La_readCount_102 : decode b_La_readCount 102 = .ok (.aload_n 0, 1) := by decide +kernel
theorem d_La_readCount_103 : decode b_La_readCount 103 = .ok (.getfield 39, 3) := by decide +kernel
theorem d_La_readCount_106 : decode b_La_readCount 106 = .ok (.aload_n 0, 1) := by decide +kernel
theorem d_La_readCount_107 : decode b_La_readCount 107 = .ok (.getfield 47, 3) := by decide +kernel
theorem d_La_readCount_110 : decode b_La_readCount 110 = .ok (.iload 5, 2) := by decide +kernel
theorem d_La_readCount_112 : decode b_La_readCount 112 = .ok (.iadd, 1) := by decide +kernel
theorem d_La_readCount_113 : decode b_La_readCount 113 = .ok (.baload, 1) := by decide +kernel
theorem d_La_readCount_114 : decode b_La_readCount 114 = .ok (.sipush 255, 3) := by decide +kernel
theorem d_La_readCount_117 : decode b_La_readCount 117 = .ok (.iand, 1) := by decide +kernel
theorem d_La_readCount_118 : decode b_La_readCount 118 = .ok (.i2l, 1) := by decide +kernel
theorem d_La_readCount_119 : decode b_La_readCount 119 = .ok (.lor, 1) := by decide +kernel
theorem d_La_readCount_120 : decode b_La_readCount 120 = .ok (.lstore_n 3, 1) := by decide +kernel
theorem d_La_readCount_121 : decode b_La_readCount 121 = .ok (.iinc 5 (-1), 3) := by decide +kernel
theorem d_La_readCount_124 : decode b_La_readCount 124 = .ok (.goto (-31), 3) := by decide +kernel
theorem d_La_readCount_127 : decode b_La_readCount 127 = .ok (.aload_n 0, 1) := by decide +kernel
theorem d_La_readCount_128 : decode b_La_readCount 128 = .ok (.dup, 1) := by decide +kernel
theorem d_La_readCount_129 : decode b_La_readCount 129 = .ok (.getfield 47, 3) := by decide +kernel
theorem d_La_readCount_132 : decode b_La_readCount 132 = .ok (.iload_n 2, 1) := by decide +kernel
theorem d_La_readCount_133 : decode b_La_readCount 133 = .ok (.iadd, 1) := by decide +kernel
theorem d_La_readCount_134 : decode b_La_readCount 134 = .ok (.putfield 47, 3) := by decide +kernel
theorem d_La_readCount_137 : decode b_La_readCount 137 = .ok (.lload_n 3, 1) := by decide +kernel
theorem d_La_readCount_138 : decode b_La_readCount 138 = .ok (.iload_n 2, 1) := by decide +kernel
theorem d_La_readCount_139 : decode b_La_readCount 139 = .ok (.iconst 2, 1) := by decide +kernel
theorem d_La_readCount_140 : decode b_La_readCount 140 = .ok (.if_icmp .ne 9, 3) := by decide +kernel
theorem d_La_readCount_143 : decode b_La_readCount 143 = .ok (.sipush 253, 3) := by decide +kernel
theorem d_La_readCount_146 : decode b_La_readCount 146 = .ok (.goto 5, 3) := by decide +kernel
theorem d_La_readCount_149 : decode b_La_readCount 149 = .ok (.ldc 82, 2) := by decide +kernel
theorem d_La_readCount_151 : decode b_La_readCount 151 = .ok (.i2l, 1) := by decide +kernel
theorem d_La_readCount_152 : decode b_La_readCount 152 = .ok (.lcmp, 1) := by decide +kernel
theorem d_La_readCount_153 : decode b_La_readCount 153 = .ok (.ifCond .ge 9, 3) := by decide +kernel
theorem d_La_readCount_156 : decode b_La_readCount 156 = .ok (.ldc2_w 59, 3) := by decide +kernel
theorem d_La_readCount_159 : decode b_La_readCount 159 = .ok (.goto 4, 3) := by decide +kernel
theorem d_La_readCount_162 : decode b_La_readCount 162 = .ok (.lload_n 3, 1) := by decide +kernel
theorem d_La_readCount_163 : decode b_La_readCount 163 = .ok (.lreturn, 1) := by decide +kernel
abbrev rm_La_readCount : Room := { frames := 0, cells := 0, slots := 0, locals := 0 }
abbrev q_La_readCount (D : va_G) (cy : Nat → ClassId) (A : Nat → Prop) (o : Nat) (v_a_txAt : Value) (v_a_firstIn : Value) (v_a_firstOut : Value) (v_a_inAt : Value) (v_a_inScript : Value) (v_a_inEnd : Value) (v_a_outAt : Value) (v_a_outScript : Value) (v_a_outEnd : Value) (a_raw : Nat) (i_txs : Int32) (i_end : Int32) (i_ins : Int32) (i_outs : Int32) (n_raw : Nat) (g_raw : Nat → Int32) (res : Int64 × Int32) : Array Value → State → Outcome → State → Prop := va_Ql (fun r' (_ : Unit) => r' = res.1) (fun _ t => Po D cy A [(o, .inr (4, [.ref a_raw, .int i_txs, v_a_txAt, v_a_firstIn, v_a_firstOut, v_a_inAt, v_a_inScript, v_a_inEnd, v_a_outAt, v_a_outScript, v_a_outEnd, .int i_end, .int res.2, .int i_ins, .int i_outs])), (a_raw, .inl (cy 0, n_raw, .inl g_raw))] t) A
def I_La_readCount_151 (p : Program) (l : Launch) (e : Env) (s : State) (m : MethodId) (args : Array Value) (below : List Frame) (meth : Method) (c : Code) (D : va_G) (cy : Nat → ClassId) (A : Nat → Prop) (ad : Nat → Nat) (o : Nat) (v_a_txAt : Value) (v_a_firstIn : Value) (v_a_firstOut : Value) (v_a_inAt : Value) (v_a_inScript : Value) (v_a_inEnd : Value) (v_a_outAt : Value) (v_a_outScript : Value) (v_a_outEnd : Value) (a_raw : Nat) (i_txs : Int32) (i_end : Int32) (i_ins : Int32) (i_outs : Int32) (n_raw : Nat) (g_raw : Nat → Int32) (k : Int64 → Int32 → Int64 → Int32 → Option (Int64 × Int32)) : Prop :=
  ∀ (x3 : Int64) (y0 : Int32) (y1 : Int64) (u0 : Int32) (res : Int64 × Int32), k x3 y0 y1 u0 = some res → ∀ (H : Heap) (locs : List Loc) (ls : Array Slot), va_P D classes [(o, .inr (4, [.ref a_raw, .int i_txs, v_a_txAt, v_a_firstIn, v_a_firstOut, v_a_inAt, v_a_inScript, v_a_inEnd, v_a_outAt, v_a_outScript, v_a_outEnd, .int i_end, .int u0, .int i_ins, .int i_outs])), (a_raw, .inl (cy 0, n_raw, .inl g_raw))] H → va_D A [(o, .inr (4, [.ref a_raw, .int i_txs, v_a_txAt, v_a_firstIn, v_a_firstOut, v_a_inAt, v_a_inScript, v_a_inEnd, v_a_outAt, v_a_outScript, v_a_outEnd, .int i_end, .int u0, .int i_ins, .int i_outs])), (a_raw, .inl (cy 0, n_raw, .inl g_raw))] → va_S A s.heap H locs → lv_has ls 6 [(3, .long x3)] → W p l e rm_La_readCount s m args below meth c H locs 0 0 (MQ below (q_La_readCount D cy A o v_a_txAt v_a_firstIn v_a_firstOut v_a_inAt v_a_inScript v_a_inEnd v_a_outAt v_a_outScript v_a_outEnd a_raw i_txs i_end i_ins i_outs n_raw g_raw res) args s 0 0 A) (F0 m 151 ls [.int y0, .long y1])
def I_La_readCount_93 (p : Program) (l : Launch) (e : Env) (s : State) (m : MethodId) (args : Array Value) (below : List Frame) (meth : Method) (c : Code) (D : va_G) (cy : Nat → ClassId) (A : Nat → Prop) (ad : Nat → Nat) (o : Nat) (v_a_txAt : Value) (v_a_firstIn : Value) (v_a_firstOut : Value) (v_a_inAt : Value) (v_a_inScript : Value) (v_a_inEnd : Value) (v_a_outAt : Value) (v_a_outScript : Value) (v_a_outEnd : Value) (a_raw : Nat) (i_txs : Int32) (i_end : Int32) (i_ins : Int32) (i_outs : Int32) (n_raw : Nat) (g_raw : Nat → Int32) (k : Int32 → Int64 → Int32 → Int32 → Option (Int64 × Int32)) : Prop :=
  ∀ (x2 : Int32) (x3 : Int64) (x5 : Int32) (u0 : Int32) (res : Int64 × Int32), k x2 x3 x5 u0 = some res → ∀ (H : Heap) (locs : List Loc) (ls : Array Slot), va_P D classes [(o, .inr (4, [.ref a_raw, .int i_txs, v_a_txAt, v_a_firstIn, v_a_firstOut, v_a_inAt, v_a_inScript, v_a_inEnd, v_a_outAt, v_a_outScript, v_a_outEnd, .int i_end, .int u0, .int i_ins, .int i_outs])), (a_raw, .inl (cy 0, n_raw, .inl g_raw))] H → va_D A [(o, .inr (4, [.ref a_raw, .int i_txs, v_a_txAt, v_a_firstIn, v_a_firstOut, v_a_inAt, v_a_inScript, v_a_inEnd, v_a_outAt, v_a_outScript, v_a_outEnd, .int i_end, .int u0, .int i_ins, .int i_outs])), (a_raw, .inl (cy 0, n_raw, .inl g_raw))] → va_S A s.heap H locs → lv_has ls 6 [(0, .ref o), (2, .int x2), (3, .long x3), (5, .int x5)] → W p l e rm_La_readCount s m args below meth c H locs 0 0 (MQ below (q_La_readCount D cy A o v_a_txAt v_a_firstIn v_a_firstOut v_a_inAt v_a_inScript v_a_inEnd v_a_outAt v_a_outScript v_a_outEnd a_raw i_txs i_end i_ins i_outs n_raw g_raw res) args s 0 0 A) (F0 m 93 ls [])
def I_La_readCount_61 (p : Program) (l : Launch) (e : Env) (s : State) (m : MethodId) (args : Array Value) (below : List Frame) (meth : Method) (c : Code) (D : va_G) (cy : Nat → ClassId) (A : Nat → Prop) (ad : Nat → Nat) (o : Nat) (v_a_txAt : Value) (v_a_firstIn : Value) (v_a_firstOut : Value) (v_a_inAt : Value) (v_a_inScript : Value) (v_a_inEnd : Value) (v_a_outAt : Value) (v_a_outScript : Value) (v_a_outEnd : Value) (a_raw : Nat) (i_txs : Int32) (i_end : Int32) (i_ins : Int32) (i_outs : Int32) (n_raw : Nat) (g_raw : Nat → Int32) (k : Int32 → Int32 → Int32 → Option (Int64 × Int32)) : Prop :=
  ∀ (x1 : Int32) (y0 : Int32) (u0 : Int32) (res : Int64 × Int32), k x1 y0 u0 = some res → ∀ (H : Heap) (locs : List Loc) (ls : Array Slot), va_P D classes [(o, .inr (4, [.ref a_raw, .int i_txs, v_a_txAt, v_a_firstIn, v_a_firstOut, v_a_inAt, v_a_inScript, v_a_inEnd, v_a_outAt, v_a_outScript, v_a_outEnd, .int i_end, .int u0, .int i_ins, .int i_outs])), (a_raw, .inl (cy 0, n_raw, .inl g_raw))] H → va_D A [(o, .inr (4, [.ref a_raw, .int i_txs, v_a_txAt, v_a_firstIn, v_a_firstOut, v_a_inAt, v_a_inScript, v_a_inEnd, v_a_outAt, v_a_outScript, v_a_outEnd, .int i_end, .int u0, .int i_ins, .int i_outs])), (a_raw, .inl (cy 0, n_raw, .inl g_raw))] → va_S A s.heap H locs → lv_has ls 6 [(0, .ref o), (1, .int x1)] → W p l e rm_La_readCount s m args below meth c H locs 0 0 (MQ below (q_La_readCount D cy A o v_a_txAt v_a_firstIn v_a_firstOut v_a_inAt v_a_inScript v_a_inEnd v_a_outAt v_a_outScript v_a_outEnd a_raw i_txs i_end i_ins i_outs n_raw g_raw res) args s 0 0 A) (F0 m 61 ls [.int y0])
def I_La_readCount_e (p : Program) (l : Launch) (e : Env) (s : State) (m : MethodId) (args : Array Value) (below : List Frame) (meth : Method) (c : Code) (D : va_G) (cy : Nat → ClassId) (A : Nat → Prop) (ad : Nat → Nat) (o : Nat) (v_a_txAt : Value) (v_a_firstIn : Value) (v_a_firstOut : Value) (v_a_inAt : Value) (v_a_inScript : Value) (v_a_inEnd : Value) (v_a_outAt : Value) (v_a_outScript : Value) (v_a_outEnd : Value) (a_raw : Nat) (i_txs : Int32) (i_end : Int32) (i_ins : Int32) (i_outs : Int32) (n_raw : Nat) (g_raw : Nat → Int32) (k : Int32 → Option (Int64 × Int32)) : Prop :=
  ∀ (u0 : Int32) (res : Int64 × Int32), k u0 = some res → ∀ (H : Heap) (locs : List Loc) (ls : Array Slot), va_P D classes [(o, .inr (4, [.ref a_raw, .int i_txs, v_a_txAt, v_a_firstIn, v_a_firstOut, v_a_inAt, v_a_inScript, v_a_inEnd, v_a_outAt, v_a_outScript, v_a_outEnd, .int i_end, .int u0, .int i_ins, .int i_outs])), (a_raw, .inl (cy 0, n_raw, .inl g_raw))] H → va_D A [(o, .inr (4, [.ref a_raw, .int i_txs, v_a_txAt, v_a_firstIn, v_a_firstOut, v_a_inAt, v_a_inScript, v_a_inEnd, v_a_outAt, v_a_outScript, v_a_outEnd, .int i_end, .int u0, .int i_ins, .int i_outs])), (a_raw, .inl (cy 0, n_raw, .inl g_raw))] → va_S A s.heap H locs → lv_has ls 6 [(0, .ref o)] → W p l e rm_La_readCount s m args below meth c H locs 0 0 (MQ below (q_La_readCount D cy A o v_a_txAt v_a_firstIn v_a_firstOut v_a_inAt v_a_inScript v_a_inEnd v_a_outAt v_a_outScript v_a_outEnd a_raw i_txs i_end i_ins i_outs n_raw g_raw res) args s 0 0 A) (F0 m 0 ls [])
set_option maxHeartbeats 8000000 in
set_option maxRecDepth 100000 in
theorem wb_La_readCount_151 {p : Program} {l : Launch} {e : Env} {s : State} {m : MethodId} {args : Array Value} {below : List Frame} {meth : Method} {c : Code} {D : va_G} {cy : Nat → ClassId} {A : Nat → Prop} {ad : Nat → Nat} {o : Nat} {v_a_txAt : Value} {v_a_firstIn : Value} {v_a_firstOut : Value} {v_a_inAt : Value} {v_a_inScript : Value} {v_a_inEnd : Value} {v_a_outAt : Value} {v_a_outScript : Value} {v_a_outEnd : Value} {a_raw : Nat} {i_txs : Int32} {i_end : Int32} {i_ins : Int32} {i_outs : Int32} {n_raw : Nat} {g_raw : Nat → Int32} {fu : Nat} (F : Fx p s m args meth c b_La_readCount 6 "CoinKeeper$Layout" "readCount" (some .long) D cy ad A) : I_La_readCount_151 p l e s m args below meth c D cy A ad o v_a_txAt v_a_firstIn v_a_firstOut v_a_inAt v_a_inScript v_a_inEnd v_a_outAt v_a_outScript v_a_outEnd a_raw i_txs i_end i_ins i_outs n_raw g_raw (xb_La_readCount_151 fu i_txs i_end i_ins i_outs n_raw g_raw) := by
  obtain ⟨hx, hb, hr, hml, hown, hts, hlocks, hK, hA, hSt, hnm, hex⟩ := id F
  intro x3 y0 y1 u0 res hf H locs ls hP hD hS hl
  unfold xb_La_readCount_151 at hf
  refine lv_i2l hx hb d_La_readCount_151 rfl ?_
  refine W.lcmp hx hb d_La_readCount_152 ?_
  refine lv_if_ge (tgt := 162) hx hb d_La_readCount_153 (by decide) (fun cx => ?_) (fun cx => ?_)
  · have hf := ifp cx hf
    refine lv_lload_n hx hb d_La_readCount_162 rfl (lv_at hl 0 rfl) ?_
    obtain rfl := Option.some.inj hf
    exact q_rl hx hb hr hlocks hK hP hD hS d_La_readCount_163
  · have hf := ifn cx hf
    refine lv_ldc2 (v := (-1)) hx hb hown (hts _ gw_683) d_La_readCount_156 ?_
    refine lv_goto (tgt := 163) hx hb d_La_readCount_159 (by decide) ?_
    obtain rfl := Option.some.inj hf
    exact q_rl hx hb hr hlocks hK hP hD hS d_La_readCount_163
set_option maxHeartbeats 8000000 in
set_option maxRecDepth 100000 in
theorem wb_La_readCount_93 {p : Program} {l : Launch} {e : Env} {s : State} {m : MethodId} {args : Array Value} {below : List Frame} {meth : Method} {c : Code} {D : va_G} {cy : Nat → ClassId} {A : Nat → Prop} {ad : Nat → Nat} {o : Nat} {v_a_txAt : Value} {v_a_firstIn : Value} {v_a_firstOut : Value} {v_a_inAt : Value} {v_a_inScript : Value} {v_a_inEnd : Value} {v_a_outAt : Value} {v_a_outScript : Value} {v_a_outEnd : Value} {a_raw : Nat} {i_txs : Int32} {i_end : Int32} {i_ins : Int32} {i_outs : Int32} {n_raw : Nat} {g_raw : Nat → Int32} {fu : Nat} {k_93 : Int32 → Int64 → Int32 → Int32 → Option (Int64 × Int32)} (F : Fx p s m args meth c b_La_readCount 6 "CoinKeeper$Layout" "readCount" (some .long) D cy ad A) (hk_93 : I_La_readCount_93 p l e s m args below meth c D cy A ad o v_a_txAt v_a_firstIn v_a_firstOut v_a_inAt v_a_inScript v_a_inEnd v_a_outAt v_a_outScript v_a_outEnd a_raw i_txs i_end i_ins i_outs n_raw g_raw k_93) : I_La_readCount_93 p l e s m args below meth c D cy A ad o v_a_txAt v_a_firstIn v_a_firstOut v_a_inAt v_a_inScript v_a_inEnd v_a_outAt v_a_outScript v_a_outEnd a_raw i_txs i_end i_ins i_outs n_raw g_raw (xb_La_readCount_93 fu i_txs i_end i_ins i_outs n_raw g_raw k_93) := by
  obtain ⟨hx, hb, hr, hml, hown, hts, hlocks, hK, hA, hSt, hnm, hex⟩ := id F
  intro x2 x3 x5 u0 res hf H locs ls hP hD hS hl
  unfold xb_La_readCount_93 at hf
  refine lv_iload hx hb d_La_readCount_93 (lv_at hl 3 rfl) ?_
  refine lv_if_lt (tgt := 127) hx hb d_La_readCount_95 (by decide) (fun cx => ?_) (fun cx => ?_)
  · have hf := ifp cx hf
    refine lv_aload_n hx hb d_La_readCount_127 rfl (lv_at hl 0 rfl) ?_
    refine lv_dup hx hb d_La_readCount_128 rfl ?_
    refine va_get (D := D) (ci := 4) (v := .int u0) (C := "CoinKeeper$Layout") (T := F_4) (N := 15) hx hb hts i_4 hown hK hP 0 rfl rfl 12 (by decide) (hts _ gw_297) (fun _ h9 => h9) rfl d_La_readCount_129 ?_
    refine lv_iload_n hx hb d_La_readCount_132 rfl (lv_at hl 1 rfl) ?_
    refine lv_iadd hx hb d_La_readCount_133 ?_
    refine lv_topi (fun v1 ev => ?_)
    have hf := bn ev hf
    clear ev
    refine va_put (D := D) (ci := 4) (v := .int v1) (ty := .int) (C := "CoinKeeper$Layout") (T := F_4) (N := 15) hx hb hts i_4 t_4 t_4_ok n_4 hown hK hP hD hS 0 rfl rfl 12 (by decide) (hts _ gw_297) (fun _ h9 => h9) rfl (by decide +kernel) rfl rfl (Nat.le_of_ble_eq_true rfl) d_La_readCount_134 (fun H locs hP hD hS => ?_)
    have hP : va_P D classes [(o, .inr (4, [.ref a_raw, .int i_txs, v_a_txAt, v_a_firstIn, v_a_firstOut, v_a_inAt, v_a_inScript, v_a_inEnd, v_a_outAt, v_a_outScript, v_a_outEnd, .int i_end, .int v1, .int i_ins, .int i_outs])), (a_raw, .inl (cy 0, n_raw, .inl g_raw))] H := hP
    have hD : va_D A [(o, .inr (4, [.ref a_raw, .int i_txs, v_a_txAt, v_a_firstIn, v_a_firstOut, v_a_inAt, v_a_inScript, v_a_inEnd, v_a_outAt, v_a_outScript, v_a_outEnd, .int i_end, .int v1, .int i_ins, .int i_outs])), (a_raw, .inl (cy 0, n_raw, .inl g_raw))] := hD
    refine lv_lload_n hx hb d_La_readCount_137 rfl (lv_at hl 2 rfl) ?_
    refine lv_iload_n hx hb d_La_readCount_138 rfl (lv_at hl 1 rfl) ?_
    refine lv_iconst (v := 2) hx hb d_La_readCount_139 (by decide) ?_
    refine lv_icmp_ne (tgt := 149) hx hb d_La_readCount_140 (by decide) (fun cx => ?_) (fun cx => ?_)
    · have hf := ifn cx hf
      refine lv_ldc (v := 65536) hx hb hown (hts _ gw_688) d_La_readCount_149 ?_
      exact wb_La_readCount_151 (fu := fu) F _ _ _ _ _ hf _ _ _ hP hD hS (lv_sub hl [2] rfl)
    · have hf := ifp cx hf
      refine lv_sipush (v := 253) hx hb d_La_readCount_143 (by decide) ?_
      refine lv_goto (tgt := 151) hx hb d_La_readCount_146 (by decide) ?_
      exact wb_La_readCount_151 (fu := fu) F _ _ _ _ _ hf _ _ _ hP hD hS (lv_sub hl [2] rfl)
  · have hf := ifn cx hf
    refine lv_lload_n hx hb d_La_readCount_98 rfl (lv_at hl 2 rfl) ?_
    refine lv_bipush (v := 8) hx hb d_La_readCount_99 (by decide) ?_
    refine lv_lshl hx hb d_La_readCount_101 rfl ?_
    refine lv_topl (fun v2 ev => ?_)
    have hf := bn ev hf
    clear ev
    refine lv_aload_n hx hb d_La_readCount_102 rfl (lv_at hl 0 rfl) ?_
    refine va_get (D := D) (ci := 4) (v := .ref a_raw) (C := "CoinKeeper$Layout") (T := F_4) (N := 15) hx hb hts i_4 hown hK hP 0 rfl rfl 0 (by decide) (hts _ gw_269) (fun _ h9 => h9) rfl d_La_readCount_103 ?_
    refine lv_aload_n hx hb d_La_readCount_106 rfl (lv_at hl 0 rfl) ?_
    refine va_get (D := D) (ci := 4) (v := .int u0) (C := "CoinKeeper$Layout") (T := F_4) (N := 15) hx hb hts i_4 hown hK hP 0 rfl rfl 12 (by decide) (hts _ gw_297) (fun _ h9 => h9) rfl d_La_readCount_107 ?_
    refine lv_iload hx hb d_La_readCount_110 (lv_at hl 3 rfl) ?_
    refine lv_iadd hx hb d_La_readCount_112 ?_
    refine lv_topi (fun v3 ev => ?_)
    have hf := bn ev hf
    clear ev
    obtain ⟨hg, hf⟩ := gdp hf
    refine va_bald hx hb hK hP 1 0 rfl rfl (inb_in hg) d_La_readCount_113 ?_
    refine lv_topi (fun v4 ev => ?_)
    have hf := bn ev hf
    clear ev
    refine lv_sipush (v := 255) hx hb d_La_readCount_114 (by decide) ?_
    refine lv_iand hx hb d_La_readCount_117 ?_
    refine lv_i2l hx hb d_La_readCount_118 rfl ?_
    refine lv_lor hx hb d_La_readCount_119 ?_
    refine lv_topl (fun v5 ev => ?_)
    have hf := bn ev hf
    clear ev
    refine lv_lstore_n (lv' := [(3, .long v5), (0, .ref o), (2, .int x2), (5, .int x5)]) hx hb d_La_readCount_120 rfl hl (by decide) rfl (fun ls hl => ?_)
    obtain ⟨v6, ev, hf⟩ := bne hf
    refine lv_iinc (v := v6) (lv' := [(5, .int v6), (3, .long v5), (0, .ref o), (2, .int x2)]) hx hb d_La_readCount_121 hl (k := 3) rfl (by rw [ev]; rfl) (by decide) rfl (fun ls hl => ?_)
    clear ev
    refine lv_goto (tgt := 93) hx hb d_La_readCount_124 (by decide) ?_
    exact hk_93 _ _ _ _ _ hf _ _ _ hP hD hS (lv_sub hl [2, 3, 1, 0] rfl)
theorem w_La_readCount_93 {p : Program} {l : Launch} {e : Env} {s : State} {m : MethodId} {args : Array Value} {below : List Frame} {meth : Method} {c : Code} {D : va_G} {cy : Nat → ClassId} {A : Nat → Prop} {ad : Nat → Nat} {o : Nat} {v_a_txAt : Value} {v_a_firstIn : Value} {v_a_firstOut : Value} {v_a_inAt : Value} {v_a_inScript : Value} {v_a_inEnd : Value} {v_a_outAt : Value} {v_a_outScript : Value} {v_a_outEnd : Value} {a_raw : Nat} {i_txs : Int32} {i_end : Int32} {i_ins : Int32} {i_outs : Int32} {n_raw : Nat} {g_raw : Nat → Int32} {fu : Nat} (F : Fx p s m args meth c b_La_readCount 6 "CoinKeeper$Layout" "readCount" (some .long) D cy ad A) : ∀ n : Nat, I_La_readCount_93 p l e s m args below meth c D cy A ad o v_a_txAt v_a_firstIn v_a_firstOut v_a_inAt v_a_inScript v_a_inEnd v_a_outAt v_a_outScript v_a_outEnd a_raw i_txs i_end i_ins i_outs n_raw g_raw (x_La_readCount_93 fu i_txs i_end i_ins i_outs n_raw g_raw n)
  | 0 => fun _ _ _ _ _ hf => nomatch (show (none : Option (Int64 × Int32)) = some _ from hf)
  | n + 1 => wb_La_readCount_93 F (w_La_readCount_93 F n)
set_option maxHeartbeats 8000000 in
set_option maxRecDepth 100000 in
theorem wb_La_readCount_61 {p : Program} {l : Launch} {e : Env} {s : State} {m : MethodId} {args : Array Value} {below : List Frame} {meth : Method} {c : Code} {D : va_G} {cy : Nat → ClassId} {A : Nat → Prop} {ad : Nat → Nat} {o : Nat} {v_a_txAt : Value} {v_a_firstIn : Value} {v_a_firstOut : Value} {v_a_inAt : Value} {v_a_inScript : Value} {v_a_inEnd : Value} {v_a_outAt : Value} {v_a_outScript : Value} {v_a_outEnd : Value} {a_raw : Nat} {i_txs : Int32} {i_end : Int32} {i_ins : Int32} {i_outs : Int32} {n_raw : Nat} {g_raw : Nat → Int32} {fu : Nat} (F : Fx p s m args meth c b_La_readCount 6 "CoinKeeper$Layout" "readCount" (some .long) D cy ad A) : I_La_readCount_61 p l e s m args below meth c D cy A ad o v_a_txAt v_a_firstIn v_a_firstOut v_a_inAt v_a_inScript v_a_inEnd v_a_outAt v_a_outScript v_a_outEnd a_raw i_txs i_end i_ins i_outs n_raw g_raw (xb_La_readCount_61 fu i_txs i_end i_ins i_outs n_raw g_raw) := by
  obtain ⟨hx, hb, hr, hml, hown, hts, hlocks, hK, hA, hSt, hnm, hex⟩ := id F
  intro x1 y0 u0 res hf H locs ls hP hD hS hl
  unfold xb_La_readCount_61 at hf
  refine lv_istore_n (lv' := [(2, .int y0), (0, .ref o), (1, .int x1)]) hx hb d_La_readCount_61 rfl hl (by decide) rfl (fun ls hl => ?_)
  refine lv_iload_n hx hb d_La_readCount_62 rfl (lv_at hl 2 rfl) ?_
  refine lv_sipush (v := 255) hx hb d_La_readCount_63 (by decide) ?_
  refine lv_icmp_eq (tgt := 82) hx hb d_La_readCount_66 (by decide) (fun cx => ?_) (fun cx => ?_)
  · have hf := ifp cx hf
    refine lv_ldc2 (v := (-1)) hx hb hown (hts _ gw_683) d_La_readCount_82 ?_
    obtain rfl := Option.some.inj hf
    exact q_rl hx hb hr hlocks hK hP hD hS d_La_readCount_85
  · have hf := ifn cx hf
    refine lv_iload_n hx hb d_La_readCount_69 rfl (lv_at hl 0 rfl) ?_
    refine lv_aload_n hx hb d_La_readCount_70 rfl (lv_at hl 1 rfl) ?_
    refine va_get (D := D) (ci := 4) (v := .int i_end) (C := "CoinKeeper$Layout") (T := F_4) (N := 15) hx hb hts i_4 hown hK hP 0 rfl rfl 11 (by decide) (hts _ gw_296) (fun _ h9 => h9) rfl d_La_readCount_71 ?_
    refine lv_aload_n hx hb d_La_readCount_74 rfl (lv_at hl 1 rfl) ?_
    refine va_get (D := D) (ci := 4) (v := .int u0) (C := "CoinKeeper$Layout") (T := F_4) (N := 15) hx hb hts i_4 hown hK hP 0 rfl rfl 12 (by decide) (hts _ gw_297) (fun _ h9 => h9) rfl d_La_readCount_75 ?_
    refine lv_isub hx hb d_La_readCount_78 ?_
    refine lv_icmp_le (tgt := 86) hx hb d_La_readCount_79 (by decide) (fun cx => ?_) (fun cx => ?_)
    · have hf := ifp cx hf
      refine lv_lconst (v := 0) hx hb d_La_readCount_86 (by decide) ?_
      refine lv_lstore_n (lv' := [(3, .long (0 : Int64)), (2, .int y0), (0, .ref o), (1, .int x1)]) hx hb d_La_readCount_87 rfl hl (by decide) rfl (fun ls hl => ?_)
      refine lv_iload_n hx hb d_La_readCount_88 rfl (lv_at hl 1 rfl) ?_
      refine lv_iconst (v := 1) hx hb d_La_readCount_89 (by decide) ?_
      refine lv_isub hx hb d_La_readCount_90 ?_
      refine lv_topi (fun v1 ev => ?_)
      have hf := bn ev hf
      clear ev
      refine lv_istore (lv' := [(5, .int v1), (3, .long (0 : Int64)), (2, .int y0), (0, .ref o), (1, .int x1)]) hx hb d_La_readCount_91 hl (by decide) rfl (fun ls hl => ?_)
      exact w_La_readCount_93 F fu _ _ _ _ _ hf _ _ _ hP hD hS (lv_sub hl [3, 2, 1, 0] rfl)
    · have hf := ifn cx hf
      refine lv_ldc2 (v := (-1)) hx hb hown (hts _ gw_683) d_La_readCount_82 ?_
      obtain rfl := Option.some.inj hf
      exact q_rl hx hb hr hlocks hK hP hD hS d_La_readCount_85
set_option maxHeartbeats 8000000 in
set_option maxRecDepth 100000 in
theorem we_La_readCount {p : Program} {l : Launch} {e : Env} {s : State} {m : MethodId} {args : Array Value} {below : List Frame} {meth : Method} {c : Code} {D : va_G} {cy : Nat → ClassId} {A : Nat → Prop} {ad : Nat → Nat} {o : Nat} {v_a_txAt : Value} {v_a_firstIn : Value} {v_a_firstOut : Value} {v_a_inAt : Value} {v_a_inScript : Value} {v_a_inEnd : Value} {v_a_outAt : Value} {v_a_outScript : Value} {v_a_outEnd : Value} {a_raw : Nat} {i_txs : Int32} {i_end : Int32} {i_ins : Int32} {i_outs : Int32} {n_raw : Nat} {g_raw : Nat → Int32} {fu : Nat} (F : Fx p s m args meth c b_La_readCount 6 "CoinKeeper$Layout" "readCount" (some .long) D cy ad A) : I_La_readCount_e p l e s m args below meth c D cy A ad o v_a_txAt v_a_firstIn v_a_firstOut v_a_inAt v_a_inScript v_a_inEnd v_a_outAt v_a_outScript v_a_outEnd a_raw i_txs i_end i_ins i_outs n_raw g_raw (x_La_readCount fu i_txs i_end i_ins i_outs n_raw g_raw) := by
  obtain ⟨hx, hb, hr, hml, hown, hts, hlocks, hK, hA, hSt, hnm, hex⟩ := id F
  intro u0 res hf H locs ls hP hD hS hl
  unfold x_La_readCount at hf
  refine lv_aload_n hx hb d_La_readCount_0 rfl (lv_at hl 0 rfl) ?_
  refine va_get (D := D) (ci := 4) (v := .int u0) (C := "CoinKeeper$Layout") (T := F_4) (N := 15) hx hb hts i_4 hown hK hP 0 rfl rfl 12 (by decide) (hts _ gw_297) (fun _ h9 => h9) rfl d_La_readCount_1 ?_
  refine lv_aload_n hx hb d_La_readCount_4 rfl (lv_at hl 0 rfl) ?_
  refine va_get (D := D) (ci := 4) (v := .int i_end) (C := "CoinKeeper$Layout") (T := F_4) (N := 15) hx hb hts i_4 hown hK hP 0 rfl rfl 11 (by decide) (hts _ gw_296) (fun _ h9 => h9) rfl d_La_readCount_5 ?_
  refine lv_icmp_lt (tgt := 15) hx hb d_La_readCount_8 (by decide) (fun cx => ?_) (fun cx => ?_)
  · have hf := ifp cx hf
    refine lv_aload_n hx hb d_La_readCount_15 rfl (lv_at hl 0 rfl) ?_
    refine va_get (D := D) (ci := 4) (v := .ref a_raw) (C := "CoinKeeper$Layout") (T := F_4) (N := 15) hx hb hts i_4 hown hK hP 0 rfl rfl 0 (by decide) (hts _ gw_269) (fun _ h9 => h9) rfl d_La_readCount_16 ?_
    refine lv_aload_n hx hb d_La_readCount_19 rfl (lv_at hl 0 rfl) ?_
    refine va_get (D := D) (ci := 4) (v := .int u0) (C := "CoinKeeper$Layout") (T := F_4) (N := 15) hx hb hts i_4 hown hK hP 0 rfl rfl 12 (by decide) (hts _ gw_297) (fun _ h9 => h9) rfl d_La_readCount_20 ?_
    obtain ⟨hg, hf⟩ := gdp hf
    refine va_bald hx hb hK hP 1 0 rfl rfl (inb_in hg) d_La_readCount_23 ?_
    refine lv_topi (fun v1 ev => ?_)
    have hf := bn ev hf
    clear ev
    refine lv_sipush (v := 255) hx hb d_La_readCount_24 (by decide) ?_
    refine lv_iand hx hb d_La_readCount_27 ?_
    refine lv_topi (fun v2 ev => ?_)
    have hf := bn ev hf
    clear ev
    refine lv_istore_n (lv' := [(1, .int v2), (0, .ref o)]) hx hb d_La_readCount_28 rfl hl (by decide) rfl (fun ls hl => ?_)
    refine lv_aload_n hx hb d_La_readCount_29 rfl (lv_at hl 1 rfl) ?_
    refine lv_dup hx hb d_La_readCount_30 rfl ?_
    refine va_get (D := D) (ci := 4) (v := .int u0) (C := "CoinKeeper$Layout") (T := F_4) (N := 15) hx hb hts i_4 hown hK hP 0 rfl rfl 12 (by decide) (hts _ gw_297) (fun _ h9 => h9) rfl d_La_readCount_31 ?_
    refine lv_iconst (v := 1) hx hb d_La_readCount_34 (by decide) ?_
    refine lv_iadd hx hb d_La_readCount_35 ?_
    refine lv_topi (fun v3 ev => ?_)
    have hf := bn ev hf
    clear ev
    refine va_put (D := D) (ci := 4) (v := .int v3) (ty := .int) (C := "CoinKeeper$Layout") (T := F_4) (N := 15) hx hb hts i_4 t_4 t_4_ok n_4 hown hK hP hD hS 0 rfl rfl 12 (by decide) (hts _ gw_297) (fun _ h9 => h9) rfl (by decide +kernel) rfl rfl (Nat.le_of_ble_eq_true rfl) d_La_readCount_36 (fun H locs hP hD hS => ?_)
    have hP : va_P D classes [(o, .inr (4, [.ref a_raw, .int i_txs, v_a_txAt, v_a_firstIn, v_a_firstOut, v_a_inAt, v_a_inScript, v_a_inEnd, v_a_outAt, v_a_outScript, v_a_outEnd, .int i_end, .int v3, .int i_ins, .int i_outs])), (a_raw, .inl (cy 0, n_raw, .inl g_raw))] H := hP
    have hD : va_D A [(o, .inr (4, [.ref a_raw, .int i_txs, v_a_txAt, v_a_firstIn, v_a_firstOut, v_a_inAt, v_a_inScript, v_a_inEnd, v_a_outAt, v_a_outScript, v_a_outEnd, .int i_end, .int v3, .int i_ins, .int i_outs])), (a_raw, .inl (cy 0, n_raw, .inl g_raw))] := hD
    refine lv_iload_n hx hb d_La_readCount_39 rfl (lv_at hl 0 rfl) ?_
    refine lv_sipush (v := 253) hx hb d_La_readCount_40 (by decide) ?_
    refine lv_icmp_ge (tgt := 49) hx hb d_La_readCount_43 (by decide) (fun cx => ?_) (fun cx => ?_)
    · have hf := ifp cx hf
      refine lv_iload_n hx hb d_La_readCount_49 rfl (lv_at hl 0 rfl) ?_
      refine lv_sipush (v := 253) hx hb d_La_readCount_50 (by decide) ?_
      refine lv_icmp_ne (tgt := 60) hx hb d_La_readCount_53 (by decide) (fun cx => ?_) (fun cx => ?_)
      · have hf := ifn cx hf
        refine lv_iconst (v := 4) hx hb d_La_readCount_60 (by decide) ?_
        exact wb_La_readCount_61 (fu := fu) F _ _ _ _ hf _ _ _ hP hD hS (lv_sub hl [1, 0] rfl)
      · have hf := ifp cx hf
        refine lv_iconst (v := 2) hx hb d_La_readCount_56 (by decide) ?_
        refine lv_goto (tgt := 61) hx hb d_La_readCount_57 (by decide) ?_
        exact wb_La_readCount_61 (fu := fu) F _ _ _ _ hf _ _ _ hP hD hS (lv_sub hl [1, 0] rfl)
    · have hf := ifn cx hf
      refine lv_iload_n hx hb d_La_readCount_46 rfl (lv_at hl 0 rfl) ?_
      refine lv_i2l hx hb d_La_readCount_47 rfl ?_
      refine lv_topl (fun v4 ev => ?_)
      have hf := bn ev hf
      clear ev
      obtain rfl := Option.some.inj hf
      exact q_rl hx hb hr hlocks hK hP hD hS d_La_readCount_48
  · have hf := ifn cx hf
    refine lv_ldc2 (v := (-1)) hx hb hown (hts _ gw_683) d_La_readCount_11 ?_
    obtain rfl := Option.some.inj hf
    exact q_rl hx hb hr hlocks hK hP hD hS d_La_readCount_14
theorem c_La_readCount (l : Launch) (D : va_G) (cy : Nat → ClassId) (ad : Nat → Nat) (fu : Nat) (o : Nat) (v_a_txAt : Value) (v_a_firstIn : Value) (v_a_firstOut : Value) (v_a_inAt : Value) (v_a_inScript : Value) (v_a_inEnd : Value) (v_a_outAt : Value) (v_a_outScript : Value) (v_a_outEnd : Value) (a_raw : Nat) (i_txs : Int32) (i_end : Int32) (i_ins : Int32) (i_outs : Int32) (n_raw : Nat) (g_raw : Nat → Int32) (u0 : Int32) (res : Int64 × Int32) (hf : x_La_readCount fu i_txs i_end i_ins i_outs n_raw g_raw u0 = some res) (sz : Nat) : Met l ({ cls := "CoinKeeper$Layout", name := "readCount", desc := "()J" } : Jvm.MethodName) (.code ({ cls := "CoinKeeper$Layout", name := "readCount", desc := "()J" } : Jvm.MethodName) b_La_readCount 6 (some .long) :: gw) rm_La_readCount (va_Pc [.ref o] (Pr D cy ad [(o, .inr (4, [.ref a_raw, .int i_txs, v_a_txAt, v_a_firstIn, v_a_firstOut, v_a_inAt, v_a_inScript, v_a_inEnd, v_a_outAt, v_a_outScript, v_a_outEnd, .int i_end, .int u0, .int i_ins, .int i_outs])), (a_raw, .inl (cy 0, n_raw, .inl g_raw))] sz)) (q_La_readCount D cy (va_A [(o, .inr (4, [.ref a_raw, .int i_txs, v_a_txAt, v_a_firstIn, v_a_firstOut, v_a_inAt, v_a_inScript, v_a_inEnd, v_a_outAt, v_a_outScript, v_a_outEnd, .int i_end, .int u0, .int i_ins, .int i_outs])), (a_raw, .inl (cy 0, n_raw, .inl g_raw))] sz) o v_a_txAt v_a_firstIn v_a_firstOut v_a_inAt v_a_inScript v_a_inEnd v_a_outAt v_a_outScript v_a_outEnd a_raw i_txs i_end i_ins i_outs n_raw g_raw res) 0 0 (va_A [(o, .inr (4, [.ref a_raw, .int i_txs, v_a_txAt, v_a_firstIn, v_a_firstOut, v_a_inAt, v_a_inScript, v_a_inEnd, v_a_outAt, v_a_outScript, v_a_outEnd, .int i_end, .int u0, .int i_ins, .int i_outs])), (a_raw, .inl (cy 0, n_raw, .inl g_raw))] sz) :=
  q_met (Qc := fun A => q_La_readCount D cy A o v_a_txAt v_a_firstIn v_a_firstOut v_a_inAt v_a_inScript v_a_inEnd v_a_outAt v_a_outScript v_a_outEnd a_raw i_txs i_end i_ins i_outs n_raw g_raw res) (by decide) rfl rfl (Nat.le_of_ble_eq_true rfl) (fun p e s m below meth c ls F hP hD hS hl => we_La_readCount (fu := fu) F u0 res hf _ _ _ hP hD hS hl) sz
abbrev b_La_readIn : ByteArray := prog_5_method_4_code
theorem d_La_readIn_0 : decode b_La_readIn 0 = .ok (.aload_n 0, 1) := by decide +kernel
theorem d_La_readIn_1 : decode b_La_readIn 1 = .ok (.getfield 21, 3) := by decide +kernel
theorem d_La_readIn_4 : decode b_La_readIn 4 = .ok (.aload_n 0, 1) := by decide +kernel
theorem d_La_readIn_5 : decode b_La_readIn 5 = .ok (.getfield 53, 3) := by decide +kernel
theorem d_La_readIn_8 : decode b_La_readIn 8 = .ok (.aload_n 0, 1) := by decide +kernel
theorem d_La_readIn_9 : decode b_La_readIn 9 = .ok (.getfield 47, 3) := by decide +kernel
theorem d_La_readIn_12 : decode b_La_readIn 12 = .ok (.iastore, 1) := by decide +kernel
theorem d_La_readIn_13 : decode b_La_readIn 13 = .ok (.aload_n 0, 1) := by decide +kernel
theorem d_La_readIn_14 : decode b_La_readIn 14 = .ok (.dup, 1) := by decide +kernel
theorem d_La_readIn_15 : decode b_La_readIn 15 = .ok (.getfield 47, 3) := by decide +kernel
theorem d_La_readIn_18 : decode b_La_readIn 18 = .ok (.bipush 36, 2) := by decide +kernel
theorem d_La_readIn_20 : decode b_La_readIn 20 = .ok (.iadd, 1) := by decide +kernel
theorem d_La_readIn_21 : decode b_La_readIn 21 = .ok (.putfield 47, 3) := by decide +kernel
theorem d_La_readIn_24 : decode b_La_readIn 24 = .ok (.aload_n 0, 1) := by decide +kernel
theorem d_La_readIn_25 : decode b_La_readIn 25 = .ok (.invokevirtual 61, 3) := by decide +kernel
theorem d_La_readIn_28 : decode b_La_readIn 28 = .ok (.lstore_n 1, 1) := by decide +kernel
theorem d_La_readIn_29 : decode b_La_readIn 29 = .ok (.lload_n 1, 1) := by decide +kernel
theorem d_La_readIn_30 : decode b_La_readIn 30 = .ok (.lconst 0, 1) := by decide +kernel
theorem d_La_readIn_31 : decode b_La_readIn 31 = .ok (.lcmp, 1) := by decide +kernel
theorem d_La_readIn_32 : decode b_La_readIn 32 = .ok (.ifCond .lt 20, 3) := by decide +kernel
theorem d_La_readIn_35 : decode b_La_readIn 35 = .ok (.lload_n 1, 1) := by decide +kernel
theorem d_La_readIn_36 : decode b_La_readIn 36 = .ok (.aload_n 0, 1) := by decide +kernel
theorem d_La_readIn_37 : decode b_La_readIn 37 = .ok (.getfield 43, 3) := by decide +kernel
theorem d_La_readIn_40 : decode b_La_readIn 40 = .ok (.aload_n 0, 1) := by decide +kernel
theorem d_La_readIn_41 : decode b_La_readIn 41 = .ok (.getfield 47, 3) := by decide +kernel
theorem d_La_readIn_44 : decode b_La_readIn 44 = .ok (.isub, 1) := by decide +kernel
theorem d_La_readIn_45 : decode b_La_readIn 45 = .ok (.iconst 4, 1) := by decide +kernel
theorem d_La_readIn_46 : decode b_La_readIn 46 = .ok (.isub, 1) := by decide +kernel
theorem d_La_readIn_47 : decode b_La_readIn 47 = .ok (.i2l, 1) := by decide +kernel
theorem d_La_readIn_48 : decode b_La_readIn 48 = .ok (.lcmp, 1) := by decide +kernel
theorem d_La_readIn_49 : decode b_La_readIn 49 = .ok (.ifCond .le 5, 3) := by decide +kernel
theorem d_La_readIn_52 : decode b_La_readIn 52 = .ok (.iconst 0, 1) := by decide +kernel
theorem d_La_readIn_53 : decode b_La_readIn 53 = .ok (.ireturn, 1) := by decide +kernel
theorem d_La_readIn_54 : decode b_La_readIn 54 = .ok (.aload_n 0, 1) := by decide +kernel
theorem d_La_readIn_55 : decode b_La_readIn 55 = .ok (.getfield 24, 3) := by decide +kernel
theorem d_La_readIn_58 : decode b_La_readIn 58 = .ok (.aload_n 0, 1) := by decide +kernel
theorem d_La_readIn_59 : decode b_La_readIn 59 = .ok (.getfield 53, 3) := by decide +kernel
theorem d_La_readIn_62 : decode b_La_readIn 62 = .ok (.aload_n 0, 1) := by decide +kernel
theorem d_La_readIn_63 : decode b_La_readIn 63 = .ok (.getfield 47, 3) := by decide +kernel
theorem d_La_readIn_66 : decode b_La_readIn 66 = .ok (.iastore, 1) := by decide +kernel
theorem d_La_readIn_67 : decode b_La_readIn 67 = .ok (.aload_n 0, 1) := by decide +kernel
theorem d_La_readIn_68 : decode b_La_readIn 68 = .ok (.dup, 1) := by decide +kernel
theorem d_La_readIn_69 : decode b_La_readIn 69 = .ok (.getfield 47, 3) := by decide +kernel
theorem d_La_readIn_72 : decode b_La_readIn 72 = .ok (.lload_n 1, 1) := by decide +kernel
theorem d_La_readIn_73 : decode b_La_readIn 73 = .ok (.l2i, 1) := by decide +kernel
theorem d_La_readIn_74 : decode b_La_readIn 74 = .ok (.iadd, 1) := by decide +kernel
theorem d_La_readIn_75 : decode b_La_readIn 75 = .ok (.putfield 47, 3) := by decide +kernel
theorem d_La_readIn_78 : decode b_La_readIn 78 = .ok (.aload_n 0, 1) := by decide +kernel
theorem d_La_readIn_79 : decode b_La_readIn 79 = .ok (.getfield 27, 3) := by decide +kernel
theorem d_La_readIn_82 : decode b_La_readIn 82 = .ok (.aload_n 0, 1) := by decide +kernel
theorem d_La_readIn_83 : decode b_La_readIn 83 = .ok (.getfield 53, 3) := by decide +kernel
theorem d_La_readIn_86 : decode b_La_readIn 86 = .ok (.aload_n 0, 1) := by decide +kernel
theorem d_La_readIn_87 : decode b_La_readIn 87 = .ok (.getfield 47, 3) := by decide +kernel
theorem d_La_readIn_90 : decode b_La_readIn 90 = .ok (.iastore, 1) := by decide +kernel
theorem d_La_readIn_91 : decode b_La_readIn 91 = .ok (.aload_n 0, 1) := by decide +kernel
theorem d_La_readIn_92 : decode b_La_readIn 92 = .ok (.dup, 1) := by decide +kernel
theorem d_La_readIn_93 : decode b_La_readIn 93 = .ok (.getfield 47, 3) := by decide +kernel
theorem d_La_readIn_96 : decode b_La_readIn 96 = .ok (.iconst 4, 1) := by decide +kernel
theorem d_La_readIn_97 : decode b_La_readIn 97 = .ok (.iadd, 1) := by decide +kernel
theorem d_La_readIn_98 : decode b_La_readIn 98 = .ok (.putfield 47, 3) := by decide +kernel
theorem d_La_readIn_101 : decode b_La_readIn 101 = .ok (.aload_n 0, 1) := by decide +kernel
theorem d_La_readIn_102 : decode b_La_readIn 102 = .ok (.dup, 1) := by decide +kernel
theorem d_La_readIn_103 : decode b_La_readIn 103 = .ok (.getfield 53, 3) := by decide +kernel
theorem d_La_readIn_106 : decode b_La_readIn 106 = .ok (.iconst 1, 1) := by decide +kernel
theorem d_La_readIn_107 : decode b_La_readIn 107 = .ok (.iadd, 1) := by decide +kernel
theorem d_La_readIn_108 : decode b_La_readIn 108 = .ok (.putfield 53, 3) := by decide +kernel
theorem d_La_readIn_111 : decode b_La_readIn 111 = .ok (.iconst 1, 1) := by decide +kernel
theorem d_La_readIn_112 : decode b_La_readIn 112 = .ok (.ireturn, 1) := by decide +kernel
abbrev rm_La_readIn : Room := { frames := 1, cells := 0, slots := 0, locals := 25 }
abbrev q_La_readIn (D : va_G) (cy : Nat → ClassId) (A : Nat → Prop) (o : Nat) (v_a_txAt : Value) (v_a_firstIn : Value) (v_a_firstOut : Value) (v_a_outAt : Value) (v_a_outScript : Value) (v_a_outEnd : Value) (a_raw : Nat) (a_inAt : Nat) (a_inScript : Nat) (a_inEnd : Nat) (i_txs : Int32) (i_end : Int32) (i_outs : Int32) (n_raw : Nat) (g_raw : Nat → Int32) (res : Int32 × Int32 × Int32 × (Nat → Int32) × (Nat → Int32) × (Nat → Int32)) : Array Value → State → Outcome → State → Prop := va_Qi (fun r' (_ : Unit) => r' = res.1) (fun _ t => Po D cy A [(o, .inr (4, [.ref a_raw, .int i_txs, v_a_txAt, v_a_firstIn, v_a_firstOut, .ref a_inAt, .ref a_inScript, .ref a_inEnd, v_a_outAt, v_a_outScript, v_a_outEnd, .int i_end, .int res.2.1, .int res.2.2.1, .int i_outs])), (a_raw, .inl (cy 0, n_raw, .inl g_raw)), (a_inAt, .inl (cy 1, 73, .inl res.2.2.2.1)), (a_inScript, .inl (cy 1, 73, .inl res.2.2.2.2.1)), (a_inEnd, .inl (cy 1, 73, .inl res.2.2.2.2.2))] t) A
def I_La_readIn_e (p : Program) (l : Launch) (e : Env) (s : State) (m : MethodId) (args : Array Value) (below : List Frame) (meth : Method) (c : Code) (D : va_G) (cy : Nat → ClassId) (A : Nat → Prop) (ad : Nat → Nat) (o : Nat) (v_a_txAt : Value) (v_a_firstIn : Value) (v_a_firstOut : Value) (v_a_outAt : Value) (v_a_outScript : Value) (v_a_outEnd : Value) (a_raw : Nat) (a_inAt : Nat) (a_inScript : Nat) (a_inEnd : Nat) (i_txs : Int32) (i_end : Int32) (i_outs : Int32) (n_raw : Nat) (g_raw : Nat → Int32) (k : Int32 → Int32 → (Nat → Int32) → (Nat → Int32) → (Nat → Int32) → Option (Int32 × Int32 × Int32 × (Nat → Int32) × (Nat → Int32) × (Nat → Int32))) : Prop :=
  ∀ (u0 : Int32) (u1 : Int32) (u2 : Nat → Int32) (u3 : Nat → Int32) (u4 : Nat → Int32) (res : Int32 × Int32 × Int32 × (Nat → Int32) × (Nat → Int32) × (Nat → Int32)), k u0 u1 u2 u3 u4 = some res → ∀ (H : Heap) (locs : List Loc) (ls : Array Slot), va_P D classes [(o, .inr (4, [.ref a_raw, .int i_txs, v_a_txAt, v_a_firstIn, v_a_firstOut, .ref a_inAt, .ref a_inScript, .ref a_inEnd, v_a_outAt, v_a_outScript, v_a_outEnd, .int i_end, .int u0, .int u1, .int i_outs])), (a_raw, .inl (cy 0, n_raw, .inl g_raw)), (a_inAt, .inl (cy 1, 73, .inl u2)), (a_inScript, .inl (cy 1, 73, .inl u3)), (a_inEnd, .inl (cy 1, 73, .inl u4))] H → va_D A [(o, .inr (4, [.ref a_raw, .int i_txs, v_a_txAt, v_a_firstIn, v_a_firstOut, .ref a_inAt, .ref a_inScript, .ref a_inEnd, v_a_outAt, v_a_outScript, v_a_outEnd, .int i_end, .int u0, .int u1, .int i_outs])), (a_raw, .inl (cy 0, n_raw, .inl g_raw)), (a_inAt, .inl (cy 1, 73, .inl u2)), (a_inScript, .inl (cy 1, 73, .inl u3)), (a_inEnd, .inl (cy 1, 73, .inl u4))] → va_S A s.heap H locs → lv_has ls 3 [(0, .ref o)] → W p l e rm_La_readIn s m args below meth c H locs 0 0 (MQ below (q_La_readIn D cy A o v_a_txAt v_a_firstIn v_a_firstOut v_a_outAt v_a_outScript v_a_outEnd a_raw a_inAt a_inScript a_inEnd i_txs i_end i_outs n_raw g_raw res) args s 0 0 A) (F0 m 0 ls [])
theorem hdc_24 : ({ cls := "CoinKeeper$Layout", name := "readCount", desc := "()J" } : Jvm.MethodName).cls ≠ "java/lang/invoke/MethodHandle" ∧ ({ cls := "CoinKeeper$Layout", name := "readCount", desc := "()J" } : Jvm.MethodName).cls ≠ "java/lang/invoke/VarHandle" ∧ (parseMethodDescriptor ({ cls := "CoinKeeper$Layout", name := "readCount", desc := "()J" } : Jvm.MethodName).desc).map (fun d => d.parameters.length) = some 0 := by decide +kernel
set_option maxHeartbeats 8000000 in
set_option maxRecDepth 100000 in
theorem we_La_readIn {p : Program} {l : Launch} {e : Env} {s : State} {m : MethodId} {args : Array Value} {below : List Frame} {meth : Method} {c : Code} {D : va_G} {cy : Nat → ClassId} {A : Nat → Prop} {ad : Nat → Nat} {o : Nat} {v_a_txAt : Value} {v_a_firstIn : Value} {v_a_firstOut : Value} {v_a_outAt : Value} {v_a_outScript : Value} {v_a_outEnd : Value} {a_raw : Nat} {a_inAt : Nat} {a_inScript : Nat} {a_inEnd : Nat} {i_txs : Int32} {i_end : Int32} {i_outs : Int32} {n_raw : Nat} {g_raw : Nat → Int32} {fu : Nat} (F : Fx p s m args meth c b_La_readIn 3 "CoinKeeper$Layout" "readIn" (some .boolean) D cy ad A) : I_La_readIn_e p l e s m args below meth c D cy A ad o v_a_txAt v_a_firstIn v_a_firstOut v_a_outAt v_a_outScript v_a_outEnd a_raw a_inAt a_inScript a_inEnd i_txs i_end i_outs n_raw g_raw (x_La_readIn fu i_txs i_end i_outs n_raw g_raw) := by
  obtain ⟨hx, hb, hr, hml, hown, hts, hlocks, hK, hA, hSt, hnm, hex⟩ := id F
  intro u0 u1 u2 u3 u4 res hf H locs ls hP hD hS hl
  unfold x_La_readIn at hf
  refine lv_aload_n hx hb d_La_readIn_0 rfl (lv_at hl 0 rfl) ?_
  refine va_get (D := D) (ci := 4) (v := .ref a_inAt) (C := "CoinKeeper$Layout") (T := F_4) (N := 15) hx hb hts i_4 hown hK hP 0 rfl rfl 5 (by decide) (hts _ gw_282) (fun _ h9 => h9) rfl d_La_readIn_1 ?_
  refine lv_aload_n hx hb d_La_readIn_4 rfl (lv_at hl 0 rfl) ?_
  refine va_get (D := D) (ci := 4) (v := .int u1) (C := "CoinKeeper$Layout") (T := F_4) (N := 15) hx hb hts i_4 hown hK hP 0 rfl rfl 13 (by decide) (hts _ gw_298) (fun _ h9 => h9) rfl d_La_readIn_5 ?_
  refine lv_aload_n hx hb d_La_readIn_8 rfl (lv_at hl 0 rfl) ?_
  refine va_get (D := D) (ci := 4) (v := .int u0) (C := "CoinKeeper$Layout") (T := F_4) (N := 15) hx hb hts i_4 hown hK hP 0 rfl rfl 12 (by decide) (hts _ gw_297) (fun _ h9 => h9) rfl d_La_readIn_9 ?_
  obtain ⟨hg, hf⟩ := gdp hf
  refine va_iast hx hb hK hP hD hS 2 1 rfl rfl (inb_in hg) d_La_readIn_12 (fun H locs hP hD hS => ?_)
  obtain ⟨f1, ev, hf⟩ := bne hf
  have hP : va_P D classes [(o, .inr (4, [.ref a_raw, .int i_txs, v_a_txAt, v_a_firstIn, v_a_firstOut, .ref a_inAt, .ref a_inScript, .ref a_inEnd, v_a_outAt, v_a_outScript, v_a_outEnd, .int i_end, .int u0, .int u1, .int i_outs])), (a_raw, .inl (cy 0, n_raw, .inl g_raw)), (a_inAt, .inl (cy 1, 73, .inl f1)), (a_inScript, .inl (cy 1, 73, .inl u3)), (a_inEnd, .inl (cy 1, 73, .inl u4))] H := by rw [ev]; exact hP
  have hD : va_D A [(o, .inr (4, [.ref a_raw, .int i_txs, v_a_txAt, v_a_firstIn, v_a_firstOut, .ref a_inAt, .ref a_inScript, .ref a_inEnd, v_a_outAt, v_a_outScript, v_a_outEnd, .int i_end, .int u0, .int u1, .int i_outs])), (a_raw, .inl (cy 0, n_raw, .inl g_raw)), (a_inAt, .inl (cy 1, 73, .inl f1)), (a_inScript, .inl (cy 1, 73, .inl u3)), (a_inEnd, .inl (cy 1, 73, .inl u4))] := by rw [ev]; exact hD
  clear ev
  refine lv_aload_n hx hb d_La_readIn_13 rfl (lv_at hl 0 rfl) ?_
  refine lv_dup hx hb d_La_readIn_14 rfl ?_
  refine va_get (D := D) (ci := 4) (v := .int u0) (C := "CoinKeeper$Layout") (T := F_4) (N := 15) hx hb hts i_4 hown hK hP 0 rfl rfl 12 (by decide) (hts _ gw_297) (fun _ h9 => h9) rfl d_La_readIn_15 ?_
  refine lv_bipush (v := 36) hx hb d_La_readIn_18 (by decide) ?_
  refine lv_iadd hx hb d_La_readIn_20 ?_
  refine lv_topi (fun v2 ev => ?_)
  have hf := bn ev hf
  clear ev
  refine va_put (D := D) (ci := 4) (v := .int v2) (ty := .int) (C := "CoinKeeper$Layout") (T := F_4) (N := 15) hx hb hts i_4 t_4 t_4_ok n_4 hown hK hP hD hS 0 rfl rfl 12 (by decide) (hts _ gw_297) (fun _ h9 => h9) rfl (by decide +kernel) rfl rfl (Nat.le_of_ble_eq_true rfl) d_La_readIn_21 (fun H locs hP hD hS => ?_)
  have hP : va_P D classes [(o, .inr (4, [.ref a_raw, .int i_txs, v_a_txAt, v_a_firstIn, v_a_firstOut, .ref a_inAt, .ref a_inScript, .ref a_inEnd, v_a_outAt, v_a_outScript, v_a_outEnd, .int i_end, .int v2, .int u1, .int i_outs])), (a_raw, .inl (cy 0, n_raw, .inl g_raw)), (a_inAt, .inl (cy 1, 73, .inl f1)), (a_inScript, .inl (cy 1, 73, .inl u3)), (a_inEnd, .inl (cy 1, 73, .inl u4))] H := hP
  have hD : va_D A [(o, .inr (4, [.ref a_raw, .int i_txs, v_a_txAt, v_a_firstIn, v_a_firstOut, .ref a_inAt, .ref a_inScript, .ref a_inEnd, v_a_outAt, v_a_outScript, v_a_outEnd, .int i_end, .int v2, .int u1, .int i_outs])), (a_raw, .inl (cy 0, n_raw, .inl g_raw)), (a_inAt, .inl (cy 1, 73, .inl f1)), (a_inScript, .inl (cy 1, 73, .inl u3)), (a_inEnd, .inl (cy 1, 73, .inl u4))] := hD
  refine lv_aload_n hx hb d_La_readIn_24 rfl (lv_at hl 0 rfl) ?_
  obtain ⟨v3, e4, hc, hf⟩ := bdp2 hf
  refine q_al (wr := [(a_inAt, .inl (cy 1, 73, .inl f1)), (a_inScript, .inl (cy 1, 73, .inl u3)), (a_inEnd, .inl (cy 1, 73, .inl u4))]) (va_runV (C := "CoinKeeper$Layout") (As := []) (rest := []) ⟨hx, hb, hml, hown, hts⟩ (c_La_readCount l D cy ad fu o v_a_txAt v_a_firstIn v_a_firstOut (.ref a_inAt) (.ref a_inScript) (.ref a_inEnd) v_a_outAt v_a_outScript v_a_outEnd a_raw i_txs i_end u1 i_outs n_raw g_raw v2 _ hc H.size) ⟨q_cB hts gw_687 gw_8 gw_684 hdc_24 ⟨by decide, by decide⟩, hts _ gw_686, hts _ gs_6⟩ (q_preV (q_pre (hP.sub [0, 1] rfl) (hD.sub [0, 1] (by decide) rfl) hK hSt hS (va_free hD hS hA [0, 1] rfl) _) (va_recv hK (hP.sub [0, 1] rfl) (ci := 4) (q0 := 0) rfl rfl)) rfl rfl hl.1 rfl (lv_room (Nat.le_of_ble_eq_true rfl)) d_La_readIn_25 ⟨Nat.le_of_ble_eq_true rfl, Nat.le_of_ble_eq_true rfl⟩) hP hD hS hA [0, 1] [2, 3, 4] rfl rfl (by decide) (by decide) (fun H locs hP hD hS => ?_)
  clear hc
  have hP : va_P D classes [(a_inAt, .inl (cy 1, 73, .inl f1)), (a_inScript, .inl (cy 1, 73, .inl u3)), (a_inEnd, .inl (cy 1, 73, .inl u4)), (o, .inr (4, [.ref a_raw, .int i_txs, v_a_txAt, v_a_firstIn, v_a_firstOut, .ref a_inAt, .ref a_inScript, .ref a_inEnd, v_a_outAt, v_a_outScript, v_a_outEnd, .int i_end, .int e4, .int u1, .int i_outs])), (a_raw, .inl (cy 0, n_raw, .inl g_raw))] H := hP
  have hD : va_D A [(a_inAt, .inl (cy 1, 73, .inl f1)), (a_inScript, .inl (cy 1, 73, .inl u3)), (a_inEnd, .inl (cy 1, 73, .inl u4)), (o, .inr (4, [.ref a_raw, .int i_txs, v_a_txAt, v_a_firstIn, v_a_firstOut, .ref a_inAt, .ref a_inScript, .ref a_inEnd, v_a_outAt, v_a_outScript, v_a_outEnd, .int i_end, .int e4, .int u1, .int i_outs])), (a_raw, .inl (cy 0, n_raw, .inl g_raw))] := hD
  refine lv_lstore_n (lv' := [(1, .long v3), (0, .ref o)]) hx hb d_La_readIn_28 rfl hl (by decide) rfl (fun ls hl => ?_)
  refine lv_lload_n hx hb d_La_readIn_29 rfl (lv_at hl 0 rfl) ?_
  refine lv_lconst (v := 0) hx hb d_La_readIn_30 (by decide) ?_
  refine W.lcmp hx hb d_La_readIn_31 ?_
  refine lv_if_lt (tgt := 52) hx hb d_La_readIn_32 (by decide) (fun cx => ?_) (fun cx => ?_)
  · have hf := ifp cx hf
    refine lv_iconst (v := 0) hx hb d_La_readIn_52 (by decide) ?_
    obtain rfl := Option.some.inj hf
    exact q_rz hx hb hr hlocks hK (hP.sub [3, 4, 0, 1, 2] rfl) (hD.sub [3, 4, 0, 1, 2] (by decide) rfl) hS (isb_n (v := 0) (by decide)) d_La_readIn_53
  · have hf := ifn cx hf
    refine lv_lload_n hx hb d_La_readIn_35 rfl (lv_at hl 0 rfl) ?_
    refine lv_aload_n hx hb d_La_readIn_36 rfl (lv_at hl 1 rfl) ?_
    refine va_get (D := D) (ci := 4) (v := .int i_end) (C := "CoinKeeper$Layout") (T := F_4) (N := 15) hx hb hts i_4 hown hK hP 3 rfl rfl 11 (by decide) (hts _ gw_296) (fun _ h9 => h9) rfl d_La_readIn_37 ?_
    refine lv_aload_n hx hb d_La_readIn_40 rfl (lv_at hl 1 rfl) ?_
    refine va_get (D := D) (ci := 4) (v := .int e4) (C := "CoinKeeper$Layout") (T := F_4) (N := 15) hx hb hts i_4 hown hK hP 3 rfl rfl 12 (by decide) (hts _ gw_297) (fun _ h9 => h9) rfl d_La_readIn_41 ?_
    refine lv_isub hx hb d_La_readIn_44 ?_
    refine lv_topi (fun v5 ev => ?_)
    have hf := bn ev hf
    clear ev
    refine lv_iconst (v := 4) hx hb d_La_readIn_45 (by decide) ?_
    refine lv_isub hx hb d_La_readIn_46 ?_
    refine lv_i2l hx hb d_La_readIn_47 rfl ?_
    refine W.lcmp hx hb d_La_readIn_48 ?_
    refine lv_if_le (tgt := 54) hx hb d_La_readIn_49 (by decide) (fun cx => ?_) (fun cx => ?_)
    · have hf := ifp cx hf
      refine lv_aload_n hx hb d_La_readIn_54 rfl (lv_at hl 1 rfl) ?_
      refine va_get (D := D) (ci := 4) (v := .ref a_inScript) (C := "CoinKeeper$Layout") (T := F_4) (N := 15) hx hb hts i_4 hown hK hP 3 rfl rfl 6 (by decide) (hts _ gw_285) (fun _ h9 => h9) rfl d_La_readIn_55 ?_
      refine lv_aload_n hx hb d_La_readIn_58 rfl (lv_at hl 1 rfl) ?_
      refine va_get (D := D) (ci := 4) (v := .int u1) (C := "CoinKeeper$Layout") (T := F_4) (N := 15) hx hb hts i_4 hown hK hP 3 rfl rfl 13 (by decide) (hts _ gw_298) (fun _ h9 => h9) rfl d_La_readIn_59 ?_
      refine lv_aload_n hx hb d_La_readIn_62 rfl (lv_at hl 1 rfl) ?_
      refine va_get (D := D) (ci := 4) (v := .int e4) (C := "CoinKeeper$Layout") (T := F_4) (N := 15) hx hb hts i_4 hown hK hP 3 rfl rfl 12 (by decide) (hts _ gw_297) (fun _ h9 => h9) rfl d_La_readIn_63 ?_
      obtain ⟨hg, hf⟩ := gdp hf
      refine va_iast hx hb hK hP hD hS 1 1 rfl rfl (inb_in hg) d_La_readIn_66 (fun H locs hP hD hS => ?_)
      obtain ⟨f6, ev, hf⟩ := bne hf
      have hP : va_P D classes [(a_inAt, .inl (cy 1, 73, .inl f1)), (a_inScript, .inl (cy 1, 73, .inl f6)), (a_inEnd, .inl (cy 1, 73, .inl u4)), (o, .inr (4, [.ref a_raw, .int i_txs, v_a_txAt, v_a_firstIn, v_a_firstOut, .ref a_inAt, .ref a_inScript, .ref a_inEnd, v_a_outAt, v_a_outScript, v_a_outEnd, .int i_end, .int e4, .int u1, .int i_outs])), (a_raw, .inl (cy 0, n_raw, .inl g_raw))] H := by rw [ev]; exact hP
      have hD : va_D A [(a_inAt, .inl (cy 1, 73, .inl f1)), (a_inScript, .inl (cy 1, 73, .inl f6)), (a_inEnd, .inl (cy 1, 73, .inl u4)), (o, .inr (4, [.ref a_raw, .int i_txs, v_a_txAt, v_a_firstIn, v_a_firstOut, .ref a_inAt, .ref a_inScript, .ref a_inEnd, v_a_outAt, v_a_outScript, v_a_outEnd, .int i_end, .int e4, .int u1, .int i_outs])), (a_raw, .inl (cy 0, n_raw, .inl g_raw))] := by rw [ev]; exact hD
      clear ev
      refine lv_aload_n hx hb d_La_readIn_67 rfl (lv_at hl 1 rfl) ?_
      refine lv_dup hx hb d_La_readIn_68 rfl ?_
      refine va_get (D := D) (ci := 4) (v := .int e4) (C := "CoinKeeper$Layout") (T := F_4) (N := 15) hx hb hts i_4 hown hK hP 3 rfl rfl 12 (by decide) (hts _ gw_297) (fun _ h9 => h9) rfl d_La_readIn_69 ?_
      refine lv_lload_n hx hb d_La_readIn_72 rfl (lv_at hl 0 rfl) ?_
      refine lv_l2i hx hb d_La_readIn_73 rfl ?_
      refine lv_iadd hx hb d_La_readIn_74 ?_
      refine lv_topi (fun v7 ev => ?_)
      have hf := bn ev hf
      clear ev
      refine va_put (D := D) (ci := 4) (v := .int v7) (ty := .int) (C := "CoinKeeper$Layout") (T := F_4) (N := 15) hx hb hts i_4 t_4 t_4_ok n_4 hown hK hP hD hS 3 rfl rfl 12 (by decide) (hts _ gw_297) (fun _ h9 => h9) rfl (by decide +kernel) rfl rfl (Nat.le_of_ble_eq_true rfl) d_La_readIn_75 (fun H locs hP hD hS => ?_)
      have hP : va_P D classes [(a_inAt, .inl (cy 1, 73, .inl f1)), (a_inScript, .inl (cy 1, 73, .inl f6)), (a_inEnd, .inl (cy 1, 73, .inl u4)), (o, .inr (4, [.ref a_raw, .int i_txs, v_a_txAt, v_a_firstIn, v_a_firstOut, .ref a_inAt, .ref a_inScript, .ref a_inEnd, v_a_outAt, v_a_outScript, v_a_outEnd, .int i_end, .int v7, .int u1, .int i_outs])), (a_raw, .inl (cy 0, n_raw, .inl g_raw))] H := hP
      have hD : va_D A [(a_inAt, .inl (cy 1, 73, .inl f1)), (a_inScript, .inl (cy 1, 73, .inl f6)), (a_inEnd, .inl (cy 1, 73, .inl u4)), (o, .inr (4, [.ref a_raw, .int i_txs, v_a_txAt, v_a_firstIn, v_a_firstOut, .ref a_inAt, .ref a_inScript, .ref a_inEnd, v_a_outAt, v_a_outScript, v_a_outEnd, .int i_end, .int v7, .int u1, .int i_outs])), (a_raw, .inl (cy 0, n_raw, .inl g_raw))] := hD
      refine lv_aload_n hx hb d_La_readIn_78 rfl (lv_at hl 1 rfl) ?_
      refine va_get (D := D) (ci := 4) (v := .ref a_inEnd) (C := "CoinKeeper$Layout") (T := F_4) (N := 15) hx hb hts i_4 hown hK hP 3 rfl rfl 7 (by decide) (hts _ gw_287) (fun _ h9 => h9) rfl d_La_readIn_79 ?_
      refine lv_aload_n hx hb d_La_readIn_82 rfl (lv_at hl 1 rfl) ?_
      refine va_get (D := D) (ci := 4) (v := .int u1) (C := "CoinKeeper$Layout") (T := F_4) (N := 15) hx hb hts i_4 hown hK hP 3 rfl rfl 13 (by decide) (hts _ gw_298) (fun _ h9 => h9) rfl d_La_readIn_83 ?_
      refine lv_aload_n hx hb d_La_readIn_86 rfl (lv_at hl 1 rfl) ?_
      refine va_get (D := D) (ci := 4) (v := .int v7) (C := "CoinKeeper$Layout") (T := F_4) (N := 15) hx hb hts i_4 hown hK hP 3 rfl rfl 12 (by decide) (hts _ gw_297) (fun _ h9 => h9) rfl d_La_readIn_87 ?_
      obtain ⟨hg, hf⟩ := gdp hf
      refine va_iast hx hb hK hP hD hS 2 1 rfl rfl (inb_in hg) d_La_readIn_90 (fun H locs hP hD hS => ?_)
      obtain ⟨f8, ev, hf⟩ := bne hf
      have hP : va_P D classes [(a_inAt, .inl (cy 1, 73, .inl f1)), (a_inScript, .inl (cy 1, 73, .inl f6)), (a_inEnd, .inl (cy 1, 73, .inl f8)), (o, .inr (4, [.ref a_raw, .int i_txs, v_a_txAt, v_a_firstIn, v_a_firstOut, .ref a_inAt, .ref a_inScript, .ref a_inEnd, v_a_outAt, v_a_outScript, v_a_outEnd, .int i_end, .int v7, .int u1, .int i_outs])), (a_raw, .inl (cy 0, n_raw, .inl g_raw))] H := by rw [ev]; exact hP
      have hD : va_D A [(a_inAt, .inl (cy 1, 73, .inl f1)), (a_inScript, .inl (cy 1, 73, .inl f6)), (a_inEnd, .inl (cy 1, 73, .inl f8)), (o, .inr (4, [.ref a_raw, .int i_txs, v_a_txAt, v_a_firstIn, v_a_firstOut, .ref a_inAt, .ref a_inScript, .ref a_inEnd, v_a_outAt, v_a_outScript, v_a_outEnd, .int i_end, .int v7, .int u1, .int i_outs])), (a_raw, .inl (cy 0, n_raw, .inl g_raw))] := by rw [ev]; exact hD
      clear ev
      refine lv_aload_n hx hb d_La_readIn_91 rfl (lv_at hl 1 rfl) ?_
      refine lv_dup hx hb d_La_readIn_92 rfl ?_
      refine va_get (D := D) (ci := 4) (v := .int v7) (C := "CoinKeeper$Layout") (T := F_4) (N := 15) hx hb hts i_4 hown hK hP 3 rfl rfl 12 (by decide) (hts _ gw_297) (fun _ h9 => h9) rfl d_La_readIn_93 ?_
      refine lv_iconst (v := 4) hx hb d_La_readIn_96 (by decide) ?_
      refine lv_iadd hx hb d_La_readIn_97 ?_
      refine lv_topi (fun v9 ev => ?_)
      have hf := bn ev hf
      clear ev
      refine va_put (D := D) (ci := 4) (v := .int v9) (ty := .int) (C := "CoinKeeper$Layout") (T := F_4) (N := 15) hx hb hts i_4 t_4 t_4_ok n_4 hown hK hP hD hS 3 rfl rfl 12 (by decide) (hts _ gw_297) (fun _ h9 => h9) rfl (by decide +kernel) rfl rfl (Nat.le_of_ble_eq_true rfl) d_La_readIn_98 (fun H locs hP hD hS => ?_)
      have hP : va_P D classes [(a_inAt, .inl (cy 1, 73, .inl f1)), (a_inScript, .inl (cy 1, 73, .inl f6)), (a_inEnd, .inl (cy 1, 73, .inl f8)), (o, .inr (4, [.ref a_raw, .int i_txs, v_a_txAt, v_a_firstIn, v_a_firstOut, .ref a_inAt, .ref a_inScript, .ref a_inEnd, v_a_outAt, v_a_outScript, v_a_outEnd, .int i_end, .int v9, .int u1, .int i_outs])), (a_raw, .inl (cy 0, n_raw, .inl g_raw))] H := hP
      have hD : va_D A [(a_inAt, .inl (cy 1, 73, .inl f1)), (a_inScript, .inl (cy 1, 73, .inl f6)), (a_inEnd, .inl (cy 1, 73, .inl f8)), (o, .inr (4, [.ref a_raw, .int i_txs, v_a_txAt, v_a_firstIn, v_a_firstOut, .ref a_inAt, .ref a_inScript, .ref a_inEnd, v_a_outAt, v_a_outScript, v_a_outEnd, .int i_end, .int v9, .int u1, .int i_outs])), (a_raw, .inl (cy 0, n_raw, .inl g_raw))] := hD
      refine lv_aload_n hx hb d_La_readIn_101 rfl (lv_at hl 1 rfl) ?_
      refine lv_dup hx hb d_La_readIn_102 rfl ?_
      refine va_get (D := D) (ci := 4) (v := .int u1) (C := "CoinKeeper$Layout") (T := F_4) (N := 15) hx hb hts i_4 hown hK hP 3 rfl rfl 13 (by decide) (hts _ gw_298) (fun _ h9 => h9) rfl d_La_readIn_103 ?_
      refine lv_iconst (v := 1) hx hb d_La_readIn_106 (by decide) ?_
      refine lv_iadd hx hb d_La_readIn_107 ?_
      refine lv_topi (fun v10 ev => ?_)
      have hf := bn ev hf
      clear ev
      refine va_put (D := D) (ci := 4) (v := .int v10) (ty := .int) (C := "CoinKeeper$Layout") (T := F_4) (N := 15) hx hb hts i_4 t_4 t_4_ok n_4 hown hK hP hD hS 3 rfl rfl 13 (by decide) (hts _ gw_298) (fun _ h9 => h9) rfl (by decide +kernel) rfl rfl (Nat.le_of_ble_eq_true rfl) d_La_readIn_108 (fun H locs hP hD hS => ?_)
      have hP : va_P D classes [(a_inAt, .inl (cy 1, 73, .inl f1)), (a_inScript, .inl (cy 1, 73, .inl f6)), (a_inEnd, .inl (cy 1, 73, .inl f8)), (o, .inr (4, [.ref a_raw, .int i_txs, v_a_txAt, v_a_firstIn, v_a_firstOut, .ref a_inAt, .ref a_inScript, .ref a_inEnd, v_a_outAt, v_a_outScript, v_a_outEnd, .int i_end, .int v9, .int v10, .int i_outs])), (a_raw, .inl (cy 0, n_raw, .inl g_raw))] H := hP
      have hD : va_D A [(a_inAt, .inl (cy 1, 73, .inl f1)), (a_inScript, .inl (cy 1, 73, .inl f6)), (a_inEnd, .inl (cy 1, 73, .inl f8)), (o, .inr (4, [.ref a_raw, .int i_txs, v_a_txAt, v_a_firstIn, v_a_firstOut, .ref a_inAt, .ref a_inScript, .ref a_inEnd, v_a_outAt, v_a_outScript, v_a_outEnd, .int i_end, .int v9, .int v10, .int i_outs])), (a_raw, .inl (cy 0, n_raw, .inl g_raw))] := hD
      refine lv_iconst (v := 1) hx hb d_La_readIn_111 (by decide) ?_
      obtain rfl := Option.some.inj hf
      exact q_rz hx hb hr hlocks hK (hP.sub [3, 4, 0, 1, 2] rfl) (hD.sub [3, 4, 0, 1, 2] (by decide) rfl) hS (isb_n (v := 1) (by decide)) d_La_readIn_112
    · have hf := ifn cx hf
      refine lv_iconst (v := 0) hx hb d_La_readIn_52 (by decide) ?_
      obtain rfl := Option.some.inj hf
      exact q_rz hx hb hr hlocks hK (hP.sub [3, 4, 0, 1, 2] rfl) (hD.sub [3, 4, 0, 1, 2] (by decide) rfl) hS (isb_n (v := 0) (by decide)) d_La_readIn_53
theorem c_La_readIn (l : Launch) (D : va_G) (cy : Nat → ClassId) (ad : Nat → Nat) (fu : Nat) (o : Nat) (v_a_txAt : Value) (v_a_firstIn : Value) (v_a_firstOut : Value) (v_a_outAt : Value) (v_a_outScript : Value) (v_a_outEnd : Value) (a_raw : Nat) (a_inAt : Nat) (a_inScript : Nat) (a_inEnd : Nat) (i_txs : Int32) (i_end : Int32) (i_outs : Int32) (n_raw : Nat) (g_raw : Nat → Int32) (u0 : Int32) (u1 : Int32) (u2 : Nat → Int32) (u3 : Nat → Int32) (u4 : Nat → Int32) (res : Int32 × Int32 × Int32 × (Nat → Int32) × (Nat → Int32) × (Nat → Int32)) (hf : x_La_readIn fu i_txs i_end i_outs n_raw g_raw u0 u1 u2 u3 u4 = some res) (sz : Nat) : Met l ({ cls := "CoinKeeper$Layout", name := "readIn", desc := "()Z" } : Jvm.MethodName) (.code ({ cls := "CoinKeeper$Layout", name := "readIn", desc := "()Z" } : Jvm.MethodName) b_La_readIn 3 (some .boolean) :: gw) rm_La_readIn (va_Pc [.ref o] (Pr D cy ad [(o, .inr (4, [.ref a_raw, .int i_txs, v_a_txAt, v_a_firstIn, v_a_firstOut, .ref a_inAt, .ref a_inScript, .ref a_inEnd, v_a_outAt, v_a_outScript, v_a_outEnd, .int i_end, .int u0, .int u1, .int i_outs])), (a_raw, .inl (cy 0, n_raw, .inl g_raw)), (a_inAt, .inl (cy 1, 73, .inl u2)), (a_inScript, .inl (cy 1, 73, .inl u3)), (a_inEnd, .inl (cy 1, 73, .inl u4))] sz)) (q_La_readIn D cy (va_A [(o, .inr (4, [.ref a_raw, .int i_txs, v_a_txAt, v_a_firstIn, v_a_firstOut, .ref a_inAt, .ref a_inScript, .ref a_inEnd, v_a_outAt, v_a_outScript, v_a_outEnd, .int i_end, .int u0, .int u1, .int i_outs])), (a_raw, .inl (cy 0, n_raw, .inl g_raw)), (a_inAt, .inl (cy 1, 73, .inl u2)), (a_inScript, .inl (cy 1, 73, .inl u3)), (a_inEnd, .inl (cy 1, 73, .inl u4))] sz) o v_a_txAt v_a_firstIn v_a_firstOut v_a_outAt v_a_outScript v_a_outEnd a_raw a_inAt a_inScript a_inEnd i_txs i_end i_outs n_raw g_raw res) 0 0 (va_A [(o, .inr (4, [.ref a_raw, .int i_txs, v_a_txAt, v_a_firstIn, v_a_firstOut, .ref a_inAt, .ref a_inScript, .ref a_inEnd, v_a_outAt, v_a_outScript, v_a_outEnd, .int i_end, .int u0, .int u1, .int i_outs])), (a_raw, .inl (cy 0, n_raw, .inl g_raw)), (a_inAt, .inl (cy 1, 73, .inl u2)), (a_inScript, .inl (cy 1, 73, .inl u3)), (a_inEnd, .inl (cy 1, 73, .inl u4))] sz) :=
  q_met (Qc := fun A => q_La_readIn D cy A o v_a_txAt v_a_firstIn v_a_firstOut v_a_outAt v_a_outScript v_a_outEnd a_raw a_inAt a_inScript a_inEnd i_txs i_end i_outs n_raw g_raw res) (by decide) rfl rfl (Nat.le_of_ble_eq_true rfl) (fun p e s m below meth c ls F hP hD hS hl => we_La_readIn (fu := fu) F u0 u1 u2 u3 u4 res hf _ _ _ hP hD hS hl) sz
abbrev b_La_readOut : ByteArray := prog_5_method_5_code
theorem d_La_readOut_0 : decode b_La_readOut 0 = .ok (.aload_n 0, 1) := by decide +kernel
theorem d_La_readOut_1 : decode b_La_readOut 1 = .ok (.getfield 30, 3) := by decide +kernel
theorem d_La_readOut_4 : decode b_La_readOut 4 = .ok (.aload_n 0, 1) := by decide +kernel
theorem d_La_readOut_5 : decode b_La_readOut 5 = .ok (.getfield 56, 3) := by decide +kernel
theorem d_La_readOut_8 : decode b_La_readOut 8 = .ok (.aload_n 0, 1) := by decide +kernel
theorem d_La_readOut_9 : decode b_La_readOut 9 = .ok (.getfield 47, 3) := by decide +kernel
theorem d_La_readOut_12 : decode b_La_readOut 12 = .ok (.iastore, 1) := by decide +kernel
theorem d_La_readOut_13 : decode b_La_readOut 13 = .ok (.aload_n 0, 1) := by decide +kernel
theorem d_La_readOut_14 : decode b_La_readOut 14 = .ok (.dup, 1) := by decide +kernel
theorem d_La_readOut_15 : decode b_La_readOut 15 = .ok (.getfield 47, 3) := by decide +kernel
theorem d_La_readOut_18 : decode b_La_readOut 18 = .ok (.bipush 8, 2) := by decide +kernel
theorem d_La_readOut_20 : decode b_La_readOut 20 = .ok (.iadd, 1) := by decide +kernel
theorem d_La_readOut_21 : decode b_La_readOut 21 = .ok (.putfield 47, 3) := by decide +kernel
theorem d_La_readOut_24 : decode b_La_readOut 24 = .ok (.aload_n 0, 1) := by decide +kernel
theorem d_La_readOut_25 : decode b_La_readOut 25 = .ok (.invokevirtual 61, 3) := by decide +kernel
theorem d_La_readOut_28 : decode b_La_readOut 28 = .ok (.lstore_n 1, 1) := by decide +kernel
theorem d_La_readOut_29 : decode b_La_readOut 29 = .ok (.lload_n 1, 1) := by decide +kernel
theorem d_La_readOut_30 : decode b_La_readOut 30 = .ok (.lconst 0, 1) := by decide +kernel
theorem d_La_readOut_31 : decode b_La_readOut 31 = .ok (.lcmp, 1) := by decide +kernel
theorem d_La_readOut_32 : decode b_La_readOut 32 = .ok (.ifCond .lt 18, 3) := by decide +kernel
theorem d_La_readOut_35 : decode b_La_readOut 35 = .ok (.lload_n 1, 1) := by decide +kernel
theorem d_La_readOut_36 : decode b_La_readOut 36 = .ok (.aload_n 0, 1) := by decide +kernel
theorem d_La_readOut_37 : decode b_La_readOut 37 = .ok (.getfield 43, 3) := by decide +kernel
theorem d_La_readOut_40 : decode b_La_readOut 40 = .ok (.aload_n 0, 1) := by decide +kernel
theorem d_La_readOut_41 : decode b_La_readOut 41 = .ok (.getfield 47, 3) := by decide +kernel
theorem d_La_readOut_44 : decode b_La_readOut 44 = .ok (.isub, 1) := by decide +kernel
theorem d_La_readOut_45 : decode b_La_readOut 45 = .ok (.i2l, 1) := by decide +kernel
theorem d_La_readOut_46 : decode b_La_readOut 46 = .ok (.lcmp, 1) := by decide +kernel
theorem d_La_readOut_47 : decode b_La_readOut 47 = .ok (.ifCond .le 5, 3) := by decide +kernel
theorem d_La_readOut_50 : decode b_La_readOut 50 = .ok (.iconst 0, 1) := by decide +kernel
theorem d_La_readOut_51 : decode b_La_readOut 51 = .ok (.ireturn, 1) := by decide +kernel
theorem d_La_readOut_52 : decode b_La_readOut 52 = .ok (.aload_n 0, 1) := by decide +kernel
theorem d_La_readOut_53 : decode b_La_readOut 53 = .ok (.getfield 33, 3) := by decide +kernel
theorem d_La_readOut_56 : decode b_La_readOut 56 = .ok (.aload_n 0, 1) := by decide +kernel
theorem d_La_readOut_57 : decode b_La_readOut 57 = .ok (.getfield 56, 3) := by decide +kernel
theorem d_La_readOut_60 : decode b_La_readOut 60 = .ok (.aload_n 0, 1) := by decide +kernel
theorem d_La_readOut_61 : decode b_La_readOut 61 = .ok (.getfield 47, 3) := by decide +kernel
theorem d_La_readOut_64 : decode b_La_readOut 64 = .ok (.iastore, 1) := by decide +kernel
theorem d_La_readOut_65 : decode b_La_readOut 65 = .ok (.aload_n 0, 1) := by decide +kernel
theorem d_La_readOut_66 : decode b_La_readOut 66 = .ok (.dup, 1) := by decide +kernel
theorem d_La_readOut_67 : decode b_La_readOut 67 = .ok (.getfield 47, 3) := by decide +kernel
theorem d_La_readOut_70 : decode b_La_readOut 70 = .ok (.lload_n 1, 1) := by decide +kernel
theorem d_La_readOut_71 : decode b_La_readOut 71 = .ok (.l2i, 1) := by decide +kernel
theorem d_La_readOut_72 : decode b_La_readOut 72 = .ok (.iadd, 1) := by decide +kernel
theorem d_La_readOut_73 : decode b_La_readOut 73 = .ok (.putfield 47, 3) := by decide +kernel
theorem d_La_readOut_76 : decode b_La_readOut 76 = .ok (.aload_n 0, 1) := by decide +kernel
theorem d_La_readOut_77 : decode b_La_readOut 77 = .ok (.getfield 36, 3) := by decide +kernel
theorem d_La_readOut_80 : decode b_La_readOut 80 = .ok (.aload_n 0, 1) := by decide +kernel
theorem d_La_readOut_81 : decode b_La_readOut 81 = .ok (.getfield 56, 3) := by decide +kernel
theorem d_La_readOut_84 : decode b_La_readOut 84 = .ok (.aload_n 0, 1) := by decide +kernel
theorem d_La_readOut_85 : decode b_La_readOut 85 = .ok (.getfield 47, 3) := by decide +kernel
theorem d_La_readOut_88 : decode b_La_readOut 88 = .ok (.iastore, 1) := by decide +kernel
theorem d_La_readOut_89 : decode b_La_readOut 89 = .ok (.aload_n 0, 1) := by decide +kernel
theorem d_La_readOut_90 : decode b_La_readOut 90 = .ok (.dup, 1) := by decide +kernel
theorem d_La_readOut_91 : decode b_La_readOut 91 = .ok (.getfield 56, 3) := by decide +kernel
theorem d_La_readOut_94 : decode b_La_readOut 94 = .ok (.iconst 1, 1) := by decide +kernel
theorem d_La_readOut_95 : decode b_La_readOut 95 = .ok (.iadd, 1) := by decide +kernel
theorem d_La_readOut_96 : decode b_La_readOut 96 = .ok (.putfield 56, 3) := by decide +kernel
theorem d_La_readOut_99 : decode b_La_readOut 99 = .ok (.iconst 1, 1) := by decide +kernel
theorem d_La_readOut_100 : decode b_La_readOut 100 = .ok (.ireturn, 1) := by decide +kernel
abbrev rm_La_readOut : Room := { frames := 1, cells := 0, slots := 0, locals := 25 }
abbrev q_La_readOut (D : va_G) (cy : Nat → ClassId) (A : Nat → Prop) (o : Nat) (v_a_txAt : Value) (v_a_firstIn : Value) (v_a_firstOut : Value) (v_a_inAt : Value) (v_a_inScript : Value) (v_a_inEnd : Value) (a_raw : Nat) (a_outAt : Nat) (a_outScript : Nat) (a_outEnd : Nat) (i_txs : Int32) (i_end : Int32) (i_ins : Int32) (n_raw : Nat) (g_raw : Nat → Int32) (res : Int32 × Int32 × Int32 × (Nat → Int32) × (Nat → Int32) × (Nat → Int32)) : Array Value → State → Outcome → State → Prop := va_Qi (fun r' (_ : Unit) => r' = res.1) (fun _ t => Po D cy A [(o, .inr (4, [.ref a_raw, .int i_txs, v_a_txAt, v_a_firstIn, v_a_firstOut, v_a_inAt, v_a_inScript, v_a_inEnd, .ref a_outAt, .ref a_outScript, .ref a_outEnd, .int i_end, .int res.2.1, .int i_ins, .int res.2.2.1])), (a_raw, .inl (cy 0, n_raw, .inl g_raw)), (a_outAt, .inl (cy 1, 333, .inl res.2.2.2.1)), (a_outScript, .inl (cy 1, 333, .inl res.2.2.2.2.1)), (a_outEnd, .inl (cy 1, 333, .inl res.2.2.2.2.2))] t) A
def I_La_readOut_e (p : Program) (l : Launch) (e : Env) (s : State) (m : MethodId) (args : Array Value) (below : List Frame) (meth : Method) (c : Code) (D : va_G) (cy : Nat → ClassId) (A : Nat → Prop) (ad : Nat → Nat) (o : Nat) (v_a_txAt : Value) (v_a_firstIn : Value) (v_a_firstOut : Value) (v_a_inAt : Value) (v_a_inScript : Value) (v_a_inEnd : Value) (a_raw : Nat) (a_outAt : Nat) (a_outScript : Nat) (a_outEnd : Nat) (i_txs : Int32) (i_end : Int32) (i_ins : Int32) (n_raw : Nat) (g_raw : Nat → Int32) (k : Int32 → Int32 → (Nat → Int32) → (Nat → Int32) → (Nat → Int32) → Option (Int32 × Int32 × Int32 × (Nat → Int32) × (Nat → Int32) × (Nat → Int32))) : Prop :=
  ∀ (u0 : Int32) (u1 : Int32) (u2 : Nat → Int32) (u3 : Nat → Int32) (u4 : Nat → Int32) (res : Int32 × Int32 × Int32 × (Nat → Int32) × (Nat → Int32) × (Nat → Int32)), k u0 u1 u2 u3 u4 = some res → ∀ (H : Heap) (locs : List Loc) (ls : Array Slot), va_P D classes [(o, .inr (4, [.ref a_raw, .int i_txs, v_a_txAt, v_a_firstIn, v_a_firstOut, v_a_inAt, v_a_inScript, v_a_inEnd, .ref a_outAt, .ref a_outScript, .ref a_outEnd, .int i_end, .int u0, .int i_ins, .int u1])), (a_raw, .inl (cy 0, n_raw, .inl g_raw)), (a_outAt, .inl (cy 1, 333, .inl u2)), (a_outScript, .inl (cy 1, 333, .inl u3)), (a_outEnd, .inl (cy 1, 333, .inl u4))] H → va_D A [(o, .inr (4, [.ref a_raw, .int i_txs, v_a_txAt, v_a_firstIn, v_a_firstOut, v_a_inAt, v_a_inScript, v_a_inEnd, .ref a_outAt, .ref a_outScript, .ref a_outEnd, .int i_end, .int u0, .int i_ins, .int u1])), (a_raw, .inl (cy 0, n_raw, .inl g_raw)), (a_outAt, .inl (cy 1, 333, .inl u2)), (a_outScript, .inl (cy 1, 333, .inl u3)), (a_outEnd, .inl (cy 1, 333, .inl u4))] → va_S A s.heap H locs → lv_has ls 3 [(0, .ref o)] → W p l e rm_La_readOut s m args below meth c H locs 0 0 (MQ below (q_La_readOut D cy A o v_a_txAt v_a_firstIn v_a_firstOut v_a_inAt v_a_inScript v_a_inEnd a_raw a_outAt a_outScript a_outEnd i_txs i_end i_ins n_raw g_raw res) args s 0 0 A) (F0 m 0 ls [])
set_option maxHeartbeats 8000000 in
set_option maxRecDepth 100000 in
theorem we_La_readOut {p : Program} {l : Launch} {e : Env} {s : State} {m : MethodId} {args : Array Value} {below : List Frame} {meth : Method} {c : Code} {D : va_G} {cy : Nat → ClassId} {A : Nat → Prop} {ad : Nat → Nat} {o : Nat} {v_a_txAt : Value} {v_a_firstIn : Value} {v_a_firstOut : Value} {v_a_inAt : Value} {v_a_inScript : Value} {v_a_inEnd : Value} {a_raw : Nat} {a_outAt : Nat} {a_outScript : Nat} {a_outEnd : Nat} {i_txs : Int32} {i_end : Int32} {i_ins : Int32} {n_raw : Nat} {g_raw : Nat → Int32} {fu : Nat} (F : Fx p s m args meth c b_La_readOut 3 "CoinKeeper$Layout" "readOut" (some .boolean) D cy ad A) : I_La_readOut_e p l e s m args below meth c D cy A ad o v_a_txAt v_a_firstIn v_a_firstOut v_a_inAt v_a_inScript v_a_inEnd a_raw a_outAt a_outScript a_outEnd i_txs i_end i_ins n_raw g_raw (x_La_readOut fu i_txs i_end i_ins n_raw g_raw) := by
  obtain ⟨hx, hb, hr, hml, hown, hts, hlocks, hK, hA, hSt, hnm, hex⟩ := id F
  intro u0 u1 u2 u3 u4 res hf H locs ls hP hD hS hl
  unfold x_La_readOut at hf
  refine lv_aload_n hx hb d_La_readOut_0 rfl (lv_at hl 0 rfl) ?_
  refine va_get (D := D) (ci := 4) (v := .ref a_outAt) (C := "CoinKeeper$Layout") (T := F_4) (N := 15) hx hb hts i_4 hown hK hP 0 rfl rfl 8 (by decide) (hts _ gw_290) (fun _ h9 => h9) rfl d_La_readOut_1 ?_
  refine lv_aload_n hx hb d_La_readOut_4 rfl (lv_at hl 0 rfl) ?_
  refine va_get (D := D) (ci := 4) (v := .int u1) (C := "CoinKeeper$Layout") (T := F_4) (N := 15) hx hb hts i_4 hown hK hP 0 rfl rfl 14 (by decide) (hts _ gw_299) (fun _ h9 => h9) rfl d_La_readOut_5 ?_
  refine lv_aload_n hx hb d_La_readOut_8 rfl (lv_at hl 0 rfl) ?_
  refine va_get (D := D) (ci := 4) (v := .int u0) (C := "CoinKeeper$Layout") (T := F_4) (N := 15) hx hb hts i_4 hown hK hP 0 rfl rfl 12 (by decide) (hts _ gw_297) (fun _ h9 => h9) rfl d_La_readOut_9 ?_
  obtain ⟨hg, hf⟩ := gdp hf
  refine va_iast hx hb hK hP hD hS 2 1 rfl rfl (inb_in hg) d_La_readOut_12 (fun H locs hP hD hS => ?_)
  obtain ⟨f1, ev, hf⟩ := bne hf
  have hP : va_P D classes [(o, .inr (4, [.ref a_raw, .int i_txs, v_a_txAt, v_a_firstIn, v_a_firstOut, v_a_inAt, v_a_inScript, v_a_inEnd, .ref a_outAt, .ref a_outScript, .ref a_outEnd, .int i_end, .int u0, .int i_ins, .int u1])), (a_raw, .inl (cy 0, n_raw, .inl g_raw)), (a_outAt, .inl (cy 1, 333, .inl f1)), (a_outScript, .inl (cy 1, 333, .inl u3)), (a_outEnd, .inl (cy 1, 333, .inl u4))] H := by rw [ev]; exact hP
  have hD : va_D A [(o, .inr (4, [.ref a_raw, .int i_txs, v_a_txAt, v_a_firstIn, v_a_firstOut, v_a_inAt, v_a_inScript, v_a_inEnd, .ref a_outAt, .ref a_outScript, .ref a_outEnd, .int i_end, .int u0, .int i_ins, .int u1])), (a_raw, .inl (cy 0, n_raw, .inl g_raw)), (a_outAt, .inl (cy 1, 333, .inl f1)), (a_outScript, .inl (cy 1, 333, .inl u3)), (a_outEnd, .inl (cy 1, 333, .inl u4))] := by rw [ev]; exact hD
  clear ev
  refine lv_aload_n hx hb d_La_readOut_13 rfl (lv_at hl 0 rfl) ?_
  refine lv_dup hx hb d_La_readOut_14 rfl ?_
  refine va_get (D := D) (ci := 4) (v := .int u0) (C := "CoinKeeper$Layout") (T := F_4) (N := 15) hx hb hts i_4 hown hK hP 0 rfl rfl 12 (by decide) (hts _ gw_297) (fun _ h9 => h9) rfl d_La_readOut_15 ?_
  refine lv_bipush (v := 8) hx hb d_La_readOut_18 (by decide) ?_
  refine lv_iadd hx hb d_La_readOut_20 ?_
  refine lv_topi (fun v2 ev => ?_)
  have hf := bn ev hf
  clear ev
  refine va_put (D := D) (ci := 4) (v := .int v2) (ty := .int) (C := "CoinKeeper$Layout") (T := F_4) (N := 15) hx hb hts i_4 t_4 t_4_ok n_4 hown hK hP hD hS 0 rfl rfl 12 (by decide) (hts _ gw_297) (fun _ h9 => h9) rfl (by decide +kernel) rfl rfl (Nat.le_of_ble_eq_true rfl) d_La_readOut_21 (fun H locs hP hD hS => ?_)
  have hP : va_P D classes [(o, .inr (4, [.ref a_raw, .int i_txs, v_a_txAt, v_a_firstIn, v_a_firstOut, v_a_inAt, v_a_inScript, v_a_inEnd, .ref a_outAt, .ref a_outScript, .ref a_outEnd, .int i_end, .int v2, .int i_ins, .int u1])), (a_raw, .inl (cy 0, n_raw, .inl g_raw)), (a_outAt, .inl (cy 1, 333, .inl f1)), (a_outScript, .inl (cy 1, 333, .inl u3)), (a_outEnd, .inl (cy 1, 333, .inl u4))] H := hP
  have hD : va_D A [(o, .inr (4, [.ref a_raw, .int i_txs, v_a_txAt, v_a_firstIn, v_a_firstOut, v_a_inAt, v_a_inScript, v_a_inEnd, .ref a_outAt, .ref a_outScript, .ref a_outEnd, .int i_end, .int v2, .int i_ins, .int u1])), (a_raw, .inl (cy 0, n_raw, .inl g_raw)), (a_outAt, .inl (cy 1, 333, .inl f1)), (a_outScript, .inl (cy 1, 333, .inl u3)), (a_outEnd, .inl (cy 1, 333, .inl u4))] := hD
  refine lv_aload_n hx hb d_La_readOut_24 rfl (lv_at hl 0 rfl) ?_
  obtain ⟨v3, e4, hc, hf⟩ := bdp2 hf
  refine q_al (wr := [(a_outAt, .inl (cy 1, 333, .inl f1)), (a_outScript, .inl (cy 1, 333, .inl u3)), (a_outEnd, .inl (cy 1, 333, .inl u4))]) (va_runV (C := "CoinKeeper$Layout") (As := []) (rest := []) ⟨hx, hb, hml, hown, hts⟩ (c_La_readCount l D cy ad fu o v_a_txAt v_a_firstIn v_a_firstOut v_a_inAt v_a_inScript v_a_inEnd (.ref a_outAt) (.ref a_outScript) (.ref a_outEnd) a_raw i_txs i_end i_ins u1 n_raw g_raw v2 _ hc H.size) ⟨q_cB hts gw_687 gw_8 gw_684 hdc_24 ⟨by decide, by decide⟩, hts _ gw_686, hts _ gs_6⟩ (q_preV (q_pre (hP.sub [0, 1] rfl) (hD.sub [0, 1] (by decide) rfl) hK hSt hS (va_free hD hS hA [0, 1] rfl) _) (va_recv hK (hP.sub [0, 1] rfl) (ci := 4) (q0 := 0) rfl rfl)) rfl rfl hl.1 rfl (lv_room (Nat.le_of_ble_eq_true rfl)) d_La_readOut_25 ⟨Nat.le_of_ble_eq_true rfl, Nat.le_of_ble_eq_true rfl⟩) hP hD hS hA [0, 1] [2, 3, 4] rfl rfl (by decide) (by decide) (fun H locs hP hD hS => ?_)
  clear hc
  have hP : va_P D classes [(a_outAt, .inl (cy 1, 333, .inl f1)), (a_outScript, .inl (cy 1, 333, .inl u3)), (a_outEnd, .inl (cy 1, 333, .inl u4)), (o, .inr (4, [.ref a_raw, .int i_txs, v_a_txAt, v_a_firstIn, v_a_firstOut, v_a_inAt, v_a_inScript, v_a_inEnd, .ref a_outAt, .ref a_outScript, .ref a_outEnd, .int i_end, .int e4, .int i_ins, .int u1])), (a_raw, .inl (cy 0, n_raw, .inl g_raw))] H := hP
  have hD : va_D A [(a_outAt, .inl (cy 1, 333, .inl f1)), (a_outScript, .inl (cy 1, 333, .inl u3)), (a_outEnd, .inl (cy 1, 333, .inl u4)), (o, .inr (4, [.ref a_raw, .int i_txs, v_a_txAt, v_a_firstIn, v_a_firstOut, v_a_inAt, v_a_inScript, v_a_inEnd, .ref a_outAt, .ref a_outScript, .ref a_outEnd, .int i_end, .int e4, .int i_ins, .int u1])), (a_raw, .inl (cy 0, n_raw, .inl g_raw))] := hD
  refine lv_lstore_n (lv' := [(1, .long v3), (0, .ref o)]) hx hb d_La_readOut_28 rfl hl (by decide) rfl (fun ls hl => ?_)
  refine lv_lload_n hx hb d_La_readOut_29 rfl (lv_at hl 0 rfl) ?_
  refine lv_lconst (v := 0) hx hb d_La_readOut_30 (by decide) ?_
  refine W.lcmp hx hb d_La_readOut_31 ?_
  refine lv_if_lt (tgt := 50) hx hb d_La_readOut_32 (by decide) (fun cx => ?_) (fun cx => ?_)
  · have hf := ifp cx hf
    refine lv_iconst (v := 0) hx hb d_La_readOut_50 (by decide) ?_
    obtain rfl := Option.some.inj hf
    exact q_rz hx hb hr hlocks hK (hP.sub [3, 4, 0, 1, 2] rfl) (hD.sub [3, 4, 0, 1, 2] (by decide) rfl) hS (isb_n (v := 0) (by decide)) d_La_readOut_51
  · have hf := ifn cx hf
    refine lv_lload_n hx hb d_La_readOut_35 rfl (lv_at hl 0 rfl) ?_
    refine lv_aload_n hx hb d_La_readOut_36 rfl (lv_at hl 1 rfl) ?_
    refine va_get (D := D) (ci := 4) (v := .int i_end) (C := "CoinKeeper$Layout") (T := F_4) (N := 15) hx hb hts i_4 hown hK hP 3 rfl rfl 11 (by decide) (hts _ gw_296) (fun _ h9 => h9) rfl d_La_readOut_37 ?_
    refine lv_aload_n hx hb d_La_readOut_40 rfl (lv_at hl 1 rfl) ?_
    refine va_get (D := D) (ci := 4) (v := .int e4) (C := "CoinKeeper$Layout") (T := F_4) (N := 15) hx hb hts i_4 hown hK hP 3 rfl rfl 12 (by decide) (hts _ gw_297) (fun _ h9 => h9) rfl d_La_readOut_41 ?_
    refine lv_isub hx hb d_La_readOut_44 ?_
    refine lv_i2l hx hb d_La_readOut_45 rfl ?_
    refine W.lcmp hx hb d_La_readOut_46 ?_
    refine lv_if_le (tgt := 52) hx hb d_La_readOut_47 (by decide) (fun cx => ?_) (fun cx => ?_)
    · have hf := ifp cx hf
      refine lv_aload_n hx hb d_La_readOut_52 rfl (lv_at hl 1 rfl) ?_
      refine va_get (D := D) (ci := 4) (v := .ref a_outScript) (C := "CoinKeeper$Layout") (T := F_4) (N := 15) hx hb hts i_4 hown hK hP 3 rfl rfl 9 (by decide) (hts _ gw_292) (fun _ h9 => h9) rfl d_La_readOut_53 ?_
      refine lv_aload_n hx hb d_La_readOut_56 rfl (lv_at hl 1 rfl) ?_
      refine va_get (D := D) (ci := 4) (v := .int u1) (C := "CoinKeeper$Layout") (T := F_4) (N := 15) hx hb hts i_4 hown hK hP 3 rfl rfl 14 (by decide) (hts _ gw_299) (fun _ h9 => h9) rfl d_La_readOut_57 ?_
      refine lv_aload_n hx hb d_La_readOut_60 rfl (lv_at hl 1 rfl) ?_
      refine va_get (D := D) (ci := 4) (v := .int e4) (C := "CoinKeeper$Layout") (T := F_4) (N := 15) hx hb hts i_4 hown hK hP 3 rfl rfl 12 (by decide) (hts _ gw_297) (fun _ h9 => h9) rfl d_La_readOut_61 ?_
      obtain ⟨hg, hf⟩ := gdp hf
      refine va_iast hx hb hK hP hD hS 1 1 rfl rfl (inb_in hg) d_La_readOut_64 (fun H locs hP hD hS => ?_)
      obtain ⟨f5, ev, hf⟩ := bne hf
      have hP : va_P D classes [(a_outAt, .inl (cy 1, 333, .inl f1)), (a_outScript, .inl (cy 1, 333, .inl f5)), (a_outEnd, .inl (cy 1, 333, .inl u4)), (o, .inr (4, [.ref a_raw, .int i_txs, v_a_txAt, v_a_firstIn, v_a_firstOut, v_a_inAt, v_a_inScript, v_a_inEnd, .ref a_outAt, .ref a_outScript, .ref a_outEnd, .int i_end, .int e4, .int i_ins, .int u1])), (a_raw, .inl (cy 0, n_raw, .inl g_raw))] H := by rw [ev]; exact hP
      have hD : va_D A [(a_outAt, .inl (cy 1, 333, .inl f1)), (a_outScript, .inl (cy 1, 333, .inl f5)), (a_outEnd, .inl (cy 1, 333, .inl u4)), (o, .inr (4, [.ref a_raw, .int i_txs, v_a_txAt, v_a_firstIn, v_a_firstOut, v_a_inAt, v_a_inScript, v_a_inEnd, .ref a_outAt, .ref a_outScript, .ref a_outEnd, .int i_end, .int e4, .int i_ins, .int u1])), (a_raw, .inl (cy 0, n_raw, .inl g_raw))] := by rw [ev]; exact hD
      clear ev
      refine lv_aload_n hx hb d_La_readOut_65 rfl (lv_at hl 1 rfl) ?_
      refine lv_dup hx hb d_La_readOut_66 rfl ?_
      refine va_get (D := D) (ci := 4) (v := .int e4) (C := "CoinKeeper$Layout") (T := F_4) (N := 15) hx hb hts i_4 hown hK hP 3 rfl rfl 12 (by decide) (hts _ gw_297) (fun _ h9 => h9) rfl d_La_readOut_67 ?_
      refine lv_lload_n hx hb d_La_readOut_70 rfl (lv_at hl 0 rfl) ?_
      refine lv_l2i hx hb d_La_readOut_71 rfl ?_
      refine lv_iadd hx hb d_La_readOut_72 ?_
      refine lv_topi (fun v6 ev => ?_)
      have hf := bn ev hf
      clear ev
      refine va_put (D := D) (ci := 4) (v := .int v6) (ty := .int) (C := "CoinKeeper$Layout") (T := F_4) (N := 15) hx hb hts i_4 t_4 t_4_ok n_4 hown hK hP hD hS 3 rfl rfl 12 (by decide) (hts _ gw_297) (fun _ h9 => h9) rfl (by decide +kernel) rfl rfl (Nat.le_of_ble_eq_true rfl) d_La_readOut_73 (fun H locs hP hD hS => ?_)
      have hP : va_P D classes [(a_outAt, .inl (cy 1, 333, .inl f1)), (a_outScript, .inl (cy 1, 333, .inl f5)), (a_outEnd, .inl (cy 1, 333, .inl u4)), (o, .inr (4, [.ref a_raw, .int i_txs, v_a_txAt, v_a_firstIn, v_a_firstOut, v_a_inAt, v_a_inScript, v_a_inEnd, .ref a_outAt, .ref a_outScript, .ref a_outEnd, .int i_end, .int v6, .int i_ins, .int u1])), (a_raw, .inl (cy 0, n_raw, .inl g_raw))] H := hP
      have hD : va_D A [(a_outAt, .inl (cy 1, 333, .inl f1)), (a_outScript, .inl (cy 1, 333, .inl f5)), (a_outEnd, .inl (cy 1, 333, .inl u4)), (o, .inr (4, [.ref a_raw, .int i_txs, v_a_txAt, v_a_firstIn, v_a_firstOut, v_a_inAt, v_a_inScript, v_a_inEnd, .ref a_outAt, .ref a_outScript, .ref a_outEnd, .int i_end, .int v6, .int i_ins, .int u1])), (a_raw, .inl (cy 0, n_raw, .inl g_raw))] := hD
      refine lv_aload_n hx hb d_La_readOut_76 rfl (lv_at hl 1 rfl) ?_
      refine va_get (D := D) (ci := 4) (v := .ref a_outEnd) (C := "CoinKeeper$Layout") (T := F_4) (N := 15) hx hb hts i_4 hown hK hP 3 rfl rfl 10 (by decide) (hts _ gw_294) (fun _ h9 => h9) rfl d_La_readOut_77 ?_
      refine lv_aload_n hx hb d_La_readOut_80 rfl (lv_at hl 1 rfl) ?_
      refine va_get (D := D) (ci := 4) (v := .int u1) (C := "CoinKeeper$Layout") (T := F_4) (N := 15) hx hb hts i_4 hown hK hP 3 rfl rfl 14 (by decide) (hts _ gw_299) (fun _ h9 => h9) rfl d_La_readOut_81 ?_
      refine lv_aload_n hx hb d_La_readOut_84 rfl (lv_at hl 1 rfl) ?_
      refine va_get (D := D) (ci := 4) (v := .int v6) (C := "CoinKeeper$Layout") (T := F_4) (N := 15) hx hb hts i_4 hown hK hP 3 rfl rfl 12 (by decide) (hts _ gw_297) (fun _ h9 => h9) rfl d_La_readOut_85 ?_
      obtain ⟨hg, hf⟩ := gdp hf
      refine va_iast hx hb hK hP hD hS 2 1 rfl rfl (inb_in hg) d_La_readOut_88 (fun H locs hP hD hS => ?_)
      obtain ⟨f7, ev, hf⟩ := bne hf
      have hP : va_P D classes [(a_outAt, .inl (cy 1, 333, .inl f1)), (a_outScript, .inl (cy 1, 333, .inl f5)), (a_outEnd, .inl (cy 1, 333, .inl f7)), (o, .inr (4, [.ref a_raw, .int i_txs, v_a_txAt, v_a_firstIn, v_a_firstOut, v_a_inAt, v_a_inScript, v_a_inEnd, .ref a_outAt, .ref a_outScript, .ref a_outEnd, .int i_end, .int v6, .int i_ins, .int u1])), (a_raw, .inl (cy 0, n_raw, .inl g_raw))] H := by rw [ev]; exact hP
      have hD : va_D A [(a_outAt, .inl (cy 1, 333, .inl f1)), (a_outScript, .inl (cy 1, 333, .inl f5)), (a_outEnd, .inl (cy 1, 333, .inl f7)), (o, .inr (4, [.ref a_raw, .int i_txs, v_a_txAt, v_a_firstIn, v_a_firstOut, v_a_inAt, v_a_inScript, v_a_inEnd, .ref a_outAt, .ref a_outScript, .ref a_outEnd, .int i_end, .int v6, .int i_ins, .int u1])), (a_raw, .inl (cy 0, n_raw, .inl g_raw))] := by rw [ev]; exact hD
      clear ev
      refine lv_aload_n hx hb d_La_readOut_89 rfl (lv_at hl 1 rfl) ?_
      refine lv_dup hx hb d_La_readOut_90 rfl ?_
      refine va_get (D := D) (ci := 4) (v := .int u1) (C := "CoinKeeper$Layout") (T := F_4) (N := 15) hx hb hts i_4 hown hK hP 3 rfl rfl 14 (by decide) (hts _ gw_299) (fun _ h9 => h9) rfl d_La_readOut_91 ?_
      refine lv_iconst (v := 1) hx hb d_La_readOut_94 (by decide) ?_
      refine lv_iadd hx hb d_La_readOut_95 ?_
      refine lv_topi (fun v8 ev => ?_)
      have hf := bn ev hf
      clear ev
      refine va_put (D := D) (ci := 4) (v := .int v8) (ty := .int) (C := "CoinKeeper$Layout") (T := F_4) (N := 15) hx hb hts i_4 t_4 t_4_ok n_4 hown hK hP hD hS 3 rfl rfl 14 (by decide) (hts _ gw_299) (fun _ h9 => h9) rfl (by decide +kernel) rfl rfl (Nat.le_of_ble_eq_true rfl) d_La_readOut_96 (fun H locs hP hD hS => ?_)
      have hP : va_P D classes [(a_outAt, .inl (cy 1, 333, .inl f1)), (a_outScript, .inl (cy 1, 333, .inl f5)), (a_outEnd, .inl (cy 1, 333, .inl f7)), (o, .inr (4, [.ref a_raw, .int i_txs, v_a_txAt, v_a_firstIn, v_a_firstOut, v_a_inAt, v_a_inScript, v_a_inEnd, .ref a_outAt, .ref a_outScript, .ref a_outEnd, .int i_end, .int v6, .int i_ins, .int v8])), (a_raw, .inl (cy 0, n_raw, .inl g_raw))] H := hP
      have hD : va_D A [(a_outAt, .inl (cy 1, 333, .inl f1)), (a_outScript, .inl (cy 1, 333, .inl f5)), (a_outEnd, .inl (cy 1, 333, .inl f7)), (o, .inr (4, [.ref a_raw, .int i_txs, v_a_txAt, v_a_firstIn, v_a_firstOut, v_a_inAt, v_a_inScript, v_a_inEnd, .ref a_outAt, .ref a_outScript, .ref a_outEnd, .int i_end, .int v6, .int i_ins, .int v8])), (a_raw, .inl (cy 0, n_raw, .inl g_raw))] := hD
      refine lv_iconst (v := 1) hx hb d_La_readOut_99 (by decide) ?_
      obtain rfl := Option.some.inj hf
      exact q_rz hx hb hr hlocks hK (hP.sub [3, 4, 0, 1, 2] rfl) (hD.sub [3, 4, 0, 1, 2] (by decide) rfl) hS (isb_n (v := 1) (by decide)) d_La_readOut_100
    · have hf := ifn cx hf
      refine lv_iconst (v := 0) hx hb d_La_readOut_50 (by decide) ?_
      obtain rfl := Option.some.inj hf
      exact q_rz hx hb hr hlocks hK (hP.sub [3, 4, 0, 1, 2] rfl) (hD.sub [3, 4, 0, 1, 2] (by decide) rfl) hS (isb_n (v := 0) (by decide)) d_La_readOut_51
theorem c_La_readOut (l : Launch) (D : va_G) (cy : Nat → ClassId) (ad : Nat → Nat) (fu : Nat) (o : Nat) (v_a_txAt : Value) (v_a_firstIn : Value) (v_a_firstOut : Value) (v_a_inAt : Value) (v_a_inScript : Value) (v_a_inEnd : Value) (a_raw : Nat) (a_outAt : Nat) (a_outScript : Nat) (a_outEnd : Nat) (i_txs : Int32) (i_end : Int32) (i_ins : Int32) (n_raw : Nat) (g_raw : Nat → Int32) (u0 : Int32) (u1 : Int32) (u2 : Nat → Int32) (u3 : Nat → Int32) (u4 : Nat → Int32) (res : Int32 × Int32 × Int32 × (Nat → Int32) × (Nat → Int32) × (Nat → Int32)) (hf : x_La_readOut fu i_txs i_end i_ins n_raw g_raw u0 u1 u2 u3 u4 = some res) (sz : Nat) : Met l ({ cls := "CoinKeeper$Layout", name := "readOut", desc := "()Z" } : Jvm.MethodName) (.code ({ cls := "CoinKeeper$Layout", name := "readOut", desc := "()Z" } : Jvm.MethodName) b_La_readOut 3 (some .boolean) :: gw) rm_La_readOut (va_Pc [.ref o] (Pr D cy ad [(o, .inr (4, [.ref a_raw, .int i_txs, v_a_txAt, v_a_firstIn, v_a_firstOut, v_a_inAt, v_a_inScript, v_a_inEnd, .ref a_outAt, .ref a_outScript, .ref a_outEnd, .int i_end, .int u0, .int i_ins, .int u1])), (a_raw, .inl (cy 0, n_raw, .inl g_raw)), (a_outAt, .inl (cy 1, 333, .inl u2)), (a_outScript, .inl (cy 1, 333, .inl u3)), (a_outEnd, .inl (cy 1, 333, .inl u4))] sz)) (q_La_readOut D cy (va_A [(o, .inr (4, [.ref a_raw, .int i_txs, v_a_txAt, v_a_firstIn, v_a_firstOut, v_a_inAt, v_a_inScript, v_a_inEnd, .ref a_outAt, .ref a_outScript, .ref a_outEnd, .int i_end, .int u0, .int i_ins, .int u1])), (a_raw, .inl (cy 0, n_raw, .inl g_raw)), (a_outAt, .inl (cy 1, 333, .inl u2)), (a_outScript, .inl (cy 1, 333, .inl u3)), (a_outEnd, .inl (cy 1, 333, .inl u4))] sz) o v_a_txAt v_a_firstIn v_a_firstOut v_a_inAt v_a_inScript v_a_inEnd a_raw a_outAt a_outScript a_outEnd i_txs i_end i_ins n_raw g_raw res) 0 0 (va_A [(o, .inr (4, [.ref a_raw, .int i_txs, v_a_txAt, v_a_firstIn, v_a_firstOut, v_a_inAt, v_a_inScript, v_a_inEnd, .ref a_outAt, .ref a_outScript, .ref a_outEnd, .int i_end, .int u0, .int i_ins, .int u1])), (a_raw, .inl (cy 0, n_raw, .inl g_raw)), (a_outAt, .inl (cy 1, 333, .inl u2)), (a_outScript, .inl (cy 1, 333, .inl u3)), (a_outEnd, .inl (cy 1, 333, .inl u4))] sz) :=
  q_met (Qc := fun A => q_La_readOut D cy A o v_a_txAt v_a_firstIn v_a_firstOut v_a_inAt v_a_inScript v_a_inEnd a_raw a_outAt a_outScript a_outEnd i_txs i_end i_ins n_raw g_raw res) (by decide) rfl rfl (Nat.le_of_ble_eq_true rfl) (fun p e s m below meth c ls F hP hD hS hl => we_La_readOut (fu := fu) F u0 u1 u2 u3 u4 res hf _ _ _ hP hD hS hl) sz
