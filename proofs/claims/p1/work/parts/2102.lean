abbrev b_Sh_twice : ByteArray := prog_11_method_2_code
theorem d_Sh_twice_0 : decode b_Sh_twice 0 = .ok (.aload_n 0, 1) := by decide +kernel
theorem d_Sh_twice_1 : decode b_Sh_twice 1 = .ok (.aload_n 1, 1) := by decide +kernel
theorem d_Sh_twice_2 : decode b_Sh_twice 2 = .ok (.iload_n 2, 1) := by decide +kernel
theorem d_Sh_twice_3 : decode b_Sh_twice 3 = .ok (.iload_n 3, 1) := by decide +kernel
theorem d_Sh_twice_4 : decode b_Sh_twice 4 = .ok (.aload 4, 2) := by decide +kernel
theorem d_Sh_twice_6 : decode b_Sh_twice 6 = .ok (.iload 5, 2) := by decide +kernel
theorem d_Sh_twice_8 : decode b_Sh_twice 8 = .ok (.invokevirtual 20, 3) := by decide +kernel
theorem d_Sh_twice_11 : decode b_Sh_twice 11 = .ok (.aload_n 0, 1) := by decide +kernel
theorem d_Sh_twice_12 : decode b_Sh_twice 12 = .ok (.aload 4, 2) := by decide +kernel
theorem d_Sh_twice_14 : decode b_Sh_twice 14 = .ok (.iload 5, 2) := by decide +kernel
theorem d_Sh_twice_16 : decode b_Sh_twice 16 = .ok (.bipush 32, 2) := by decide +kernel
theorem d_Sh_twice_18 : decode b_Sh_twice 18 = .ok (.aload 4, 2) := by decide +kernel
theorem d_Sh_twice_20 : decode b_Sh_twice 20 = .ok (.iload 5, 2) := by decide +kernel
theorem d_Sh_twice_22 : decode b_Sh_twice 22 = .ok (.invokevirtual 20, 3) := by decide +kernel
theorem d_Sh_twice_25 : decode b_Sh_twice 25 = .ok (.return_, 1) := by decide +kernel
abbrev rm_Sh_twice : Room := { frames := 3, cells := 0, slots := 0, locals := 82 }
abbrev q_Sh_twice (D : va_G) (cy : Nat → ClassId) (A : Nat → Prop) (o : Nat) (a_state : Nat) (a_w : Nat) (a_chunk : Nat) (b1 : Nat) (b4 : Nat) (n1 : Nat) (h1 : Nat → Int32) (n4 : Nat) (res : Int32 × Int64 × (Nat → Int32) × (Nat → Int32) × (Nat → Int32) × (Nat → Int32)) : Array Value → State → Outcome → State → Prop := va_Qv (fun (_ : Unit) => True) (fun _ t => Po D cy A [(o, .inr (9, [.ref a_state, .ref a_w, .ref a_chunk, .int res.1, .long res.2.1])), (a_state, .inl (cy 1, 8, .inl res.2.2.1)), (a_w, .inl (cy 1, 64, .inl res.2.2.2.1)), (a_chunk, .inl (cy 0, 64, .inl res.2.2.2.2.1)), (b1, .inl (cy 0, n1, .inl h1)), (b4, .inl (cy 0, n4, .inl res.2.2.2.2.2))] t) A
def I_Sh_twice_e (p : Program) (l : Launch) (e : Env) (s : State) (m : MethodId) (args : Array Value) (below : List Frame) (meth : Method) (c : Code) (D : va_G) (cy : Nat → ClassId) (A : Nat → Prop) (ad : Nat → Nat) (o : Nat) (a_state : Nat) (a_w : Nat) (a_chunk : Nat) (b1 : Nat) (b4 : Nat) (n1 : Nat) (h1 : Nat → Int32) (n4 : Nat) (k : Int32 → Int32 → Int32 → Int32 → Int64 → (Nat → Int32) → (Nat → Int32) → (Nat → Int32) → (Nat → Int32) → Option (Int32 × Int64 × (Nat → Int32) × (Nat → Int32) × (Nat → Int32) × (Nat → Int32))) : Prop :=
  ∀ (a2 : Int32) (a3 : Int32) (a5 : Int32) (u0 : Int32) (u1 : Int64) (u2 : Nat → Int32) (u3 : Nat → Int32) (u4 : Nat → Int32) (u5 : Nat → Int32) (res : Int32 × Int64 × (Nat → Int32) × (Nat → Int32) × (Nat → Int32) × (Nat → Int32)), k a2 a3 a5 u0 u1 u2 u3 u4 u5 = some res → ∀ (H : Heap) (locs : List Loc) (ls : Array Slot), va_P D classes [(o, .inr (9, [.ref a_state, .ref a_w, .ref a_chunk, .int u0, .long u1])), (a_state, .inl (cy 1, 8, .inl u2)), (a_w, .inl (cy 1, 64, .inl u3)), (a_chunk, .inl (cy 0, 64, .inl u4)), (b1, .inl (cy 0, n1, .inl h1)), (b4, .inl (cy 0, n4, .inl u5))] H → va_D A [(o, .inr (9, [.ref a_state, .ref a_w, .ref a_chunk, .int u0, .long u1])), (a_state, .inl (cy 1, 8, .inl u2)), (a_w, .inl (cy 1, 64, .inl u3)), (a_chunk, .inl (cy 0, 64, .inl u4)), (b1, .inl (cy 0, n1, .inl h1)), (b4, .inl (cy 0, n4, .inl u5))] → va_S A s.heap H locs → lv_has ls 6 [(0, .ref o), (1, .ref b1), (2, .int a2), (3, .int a3), (4, .ref b4), (5, .int a5)] → W p l e rm_Sh_twice s m args below meth c H locs 0 0 (MQ below (q_Sh_twice D cy A o a_state a_w a_chunk b1 b4 n1 h1 n4 res) args s 0 0 A) (F0 m 0 ls [])
theorem hda_5 : ({ cls := "CoinKeeper$Sha256", name := "once", desc := "([BII[BI)V" } : Jvm.MethodName).cls ≠ "java/lang/invoke/MethodHandle" ∧ ({ cls := "CoinKeeper$Sha256", name := "once", desc := "([BII[BI)V" } : Jvm.MethodName).cls ≠ "java/lang/invoke/VarHandle" ∧ (parseMethodDescriptor ({ cls := "CoinKeeper$Sha256", name := "once", desc := "([BII[BI)V" } : Jvm.MethodName).desc).map (fun d => d.parameters.length) = some 5 := by decide +kernel
def x_Sh_twice (fu : Nat) (n1 : Nat) (h1 : Nat → Int32) (n4 : Nat) (a2 : Int32) (a3 : Int32) (a5 : Int32) (u0 : Int32) (u1 : Int64) (u2 : Nat → Int32) (u3 : Nat → Int32) (u4 : Nat → Int32) (u5 : Nat → Int32) : Option (Int32 × Int64 × (Nat → Int32) × (Nat → Int32) × (Nat → Int32) × (Nat → Int32)) :=
  bd6 (x_Sh_once fu n1 h1 n4 a2 a3 a5 u0 u1 u2 u3 u4 u5) fun e1 e2 f3 f4 f5 f6 => bd6 (x_Sh_once_e41 fu n4 a5 (32 : Int32) a5 e1 e2 f3 f4 f5 f6) fun e7 e8 f9 f10 f11 f12 => some (e7, e8, f9, f10, f11, f12)
set_option maxHeartbeats 8000000 in
set_option maxRecDepth 100000 in
theorem we_Sh_twice {p : Program} {l : Launch} {e : Env} {s : State} {m : MethodId} {args : Array Value} {below : List Frame} {meth : Method} {c : Code} {D : va_G} {cy : Nat → ClassId} {A : Nat → Prop} {ad : Nat → Nat} {o : Nat} {a_state : Nat} {a_w : Nat} {a_chunk : Nat} {b1 : Nat} {b4 : Nat} {n1 : Nat} {h1 : Nat → Int32} {n4 : Nat} {fu : Nat} (F : Fx p s m args meth c b_Sh_twice 6 "CoinKeeper$Sha256" "twice" none D cy ad A) : I_Sh_twice_e p l e s m args below meth c D cy A ad o a_state a_w a_chunk b1 b4 n1 h1 n4 (x_Sh_twice fu n1 h1 n4) := by
  obtain ⟨hx, hb, hr, hml, hown, hts, hlocks, hK, hA, hSt, hnm, hex⟩ := id F
  intro a2 a3 a5 u0 u1 u2 u3 u4 u5 res hf H locs ls hP hD hS hl
  unfold x_Sh_twice at hf
  refine lv_aload_n hx hb d_Sh_twice_0 rfl (lv_at hl 0 rfl) ?_
  refine lv_aload_n hx hb d_Sh_twice_1 rfl (lv_at hl 1 rfl) ?_
  refine lv_iload_n hx hb d_Sh_twice_2 rfl (lv_at hl 2 rfl) ?_
  refine lv_iload_n hx hb d_Sh_twice_3 rfl (lv_at hl 3 rfl) ?_
  refine lv_aload hx hb d_Sh_twice_4 (lv_at hl 4 rfl) ?_
  refine lv_iload hx hb d_Sh_twice_6 (lv_at hl 5 rfl) ?_
  obtain ⟨e1, e2, f3, f4, f5, f6, hc, hf⟩ := bdp6 hf
  refine q_av (wr := []) (va_runV (C := "CoinKeeper$Sha256") (As := [.ref b1, .int a2, .int a3, .ref b4, .int a5]) (rest := []) ⟨hx, hb, hml, hown, hts⟩ (c_Sh_once l D cy ad fu o a_state a_w a_chunk b1 b4 n1 h1 n4 a2 a3 a5 u0 u1 u2 u3 u4 u5 _ hc H.size) ⟨q_cB hts gw_711 gw_2 gw_708 hda_5 ⟨by decide, by decide⟩, hts _ gw_709, hts _ gw_710⟩ (q_preV (q_pre (hP.sub [0, 1, 2, 3, 4, 5] rfl) (hD.sub [0, 1, 2, 3, 4, 5] (by decide) rfl) hK hSt hS (va_free hD hS hA [0, 1, 2, 3, 4, 5] rfl) _) (va_recv hK (hP.sub [0, 1, 2, 3, 4, 5] rfl) (ci := 9) (q0 := 0) rfl rfl)) rfl rfl hl.1 rfl (lv_room (Nat.le_of_ble_eq_true rfl)) d_Sh_twice_8 ⟨Nat.le_of_ble_eq_true rfl, Nat.le_of_ble_eq_true rfl⟩) hP hD hS hA [0, 1, 2, 3, 4, 5] [] rfl rfl (by decide) (by decide) (fun H locs hP hD hS => ?_)
  clear hc
  have hP : va_P D classes [(o, .inr (9, [.ref a_state, .ref a_w, .ref a_chunk, .int e1, .long e2])), (a_state, .inl (cy 1, 8, .inl f3)), (a_w, .inl (cy 1, 64, .inl f4)), (a_chunk, .inl (cy 0, 64, .inl f5)), (b1, .inl (cy 0, n1, .inl h1)), (b4, .inl (cy 0, n4, .inl f6))] H := hP
  have hD : va_D A [(o, .inr (9, [.ref a_state, .ref a_w, .ref a_chunk, .int e1, .long e2])), (a_state, .inl (cy 1, 8, .inl f3)), (a_w, .inl (cy 1, 64, .inl f4)), (a_chunk, .inl (cy 0, 64, .inl f5)), (b1, .inl (cy 0, n1, .inl h1)), (b4, .inl (cy 0, n4, .inl f6))] := hD
  refine lv_aload_n hx hb d_Sh_twice_11 rfl (lv_at hl 0 rfl) ?_
  refine lv_aload hx hb d_Sh_twice_12 (lv_at hl 4 rfl) ?_
  refine lv_iload hx hb d_Sh_twice_14 (lv_at hl 5 rfl) ?_
  refine lv_bipush (v := 32) hx hb d_Sh_twice_16 (by decide) ?_
  refine lv_aload hx hb d_Sh_twice_18 (lv_at hl 4 rfl) ?_
  refine lv_iload hx hb d_Sh_twice_20 (lv_at hl 5 rfl) ?_
  obtain ⟨e7, e8, f9, f10, f11, f12, hc, hf⟩ := bdp6 hf
  refine q_av (wr := [(b1, .inl (cy 0, n1, .inl h1))]) (va_runV (C := "CoinKeeper$Sha256") (As := [.ref b4, .int a5, .int (32 : Int32), .ref b4, .int a5]) (rest := []) ⟨hx, hb, hml, hown, hts⟩ (c_Sh_once_e41 l D cy ad fu o a_state a_w a_chunk b4 n4 a5 (32 : Int32) a5 e1 e2 f3 f4 f5 f6 _ hc H.size) ⟨q_cB hts gw_711 gw_2 gw_708 hda_5 ⟨by decide, by decide⟩, hts _ gw_709, hts _ gw_710⟩ (q_preV (q_pre (hP.sub [0, 1, 2, 3, 5] rfl) (hD.sub [0, 1, 2, 3, 5] (by decide) rfl) hK hSt hS (va_free hD hS hA [0, 1, 2, 3, 5] rfl) _) (va_recv hK (hP.sub [0, 1, 2, 3, 5] rfl) (ci := 9) (q0 := 0) rfl rfl)) rfl rfl hl.1 rfl (lv_room (Nat.le_of_ble_eq_true rfl)) d_Sh_twice_22 ⟨Nat.le_of_ble_eq_true rfl, Nat.le_of_ble_eq_true rfl⟩) hP hD hS hA [0, 1, 2, 3, 5] [4] rfl rfl (by decide) (by decide) (fun H locs hP hD hS => ?_)
  clear hc
  have hP : va_P D classes [(b1, .inl (cy 0, n1, .inl h1)), (o, .inr (9, [.ref a_state, .ref a_w, .ref a_chunk, .int e7, .long e8])), (a_state, .inl (cy 1, 8, .inl f9)), (a_w, .inl (cy 1, 64, .inl f10)), (a_chunk, .inl (cy 0, 64, .inl f11)), (b4, .inl (cy 0, n4, .inl f12))] H := hP
  have hD : va_D A [(b1, .inl (cy 0, n1, .inl h1)), (o, .inr (9, [.ref a_state, .ref a_w, .ref a_chunk, .int e7, .long e8])), (a_state, .inl (cy 1, 8, .inl f9)), (a_w, .inl (cy 1, 64, .inl f10)), (a_chunk, .inl (cy 0, 64, .inl f11)), (b4, .inl (cy 0, n4, .inl f12))] := hD
  obtain rfl := Option.some.inj hf
  exact q_rv hx hb hr hlocks hK (hP.sub [1, 2, 3, 4, 0, 5] rfl) (hD.sub [1, 2, 3, 4, 0, 5] (by decide) rfl) hS d_Sh_twice_25
theorem c_Sh_twice (l : Launch) (D : va_G) (cy : Nat → ClassId) (ad : Nat → Nat) (fu : Nat) (o : Nat) (a_state : Nat) (a_w : Nat) (a_chunk : Nat) (b1 : Nat) (b4 : Nat) (n1 : Nat) (h1 : Nat → Int32) (n4 : Nat) (a2 : Int32) (a3 : Int32) (a5 : Int32) (u0 : Int32) (u1 : Int64) (u2 : Nat → Int32) (u3 : Nat → Int32) (u4 : Nat → Int32) (u5 : Nat → Int32) (res : Int32 × Int64 × (Nat → Int32) × (Nat → Int32) × (Nat → Int32) × (Nat → Int32)) (hf : x_Sh_twice fu n1 h1 n4 a2 a3 a5 u0 u1 u2 u3 u4 u5 = some res) (sz : Nat) : Met l ({ cls := "CoinKeeper$Sha256", name := "twice", desc := "([BII[BI)V" } : Jvm.MethodName) (.code ({ cls := "CoinKeeper$Sha256", name := "twice", desc := "([BII[BI)V" } : Jvm.MethodName) b_Sh_twice 6 none :: gw) rm_Sh_twice (va_Pc [.ref o, .ref b1, .int a2, .int a3, .ref b4, .int a5] (Pr D cy ad [(o, .inr (9, [.ref a_state, .ref a_w, .ref a_chunk, .int u0, .long u1])), (a_state, .inl (cy 1, 8, .inl u2)), (a_w, .inl (cy 1, 64, .inl u3)), (a_chunk, .inl (cy 0, 64, .inl u4)), (b1, .inl (cy 0, n1, .inl h1)), (b4, .inl (cy 0, n4, .inl u5))] sz)) (q_Sh_twice D cy (va_A [(o, .inr (9, [.ref a_state, .ref a_w, .ref a_chunk, .int u0, .long u1])), (a_state, .inl (cy 1, 8, .inl u2)), (a_w, .inl (cy 1, 64, .inl u3)), (a_chunk, .inl (cy 0, 64, .inl u4)), (b1, .inl (cy 0, n1, .inl h1)), (b4, .inl (cy 0, n4, .inl u5))] sz) o a_state a_w a_chunk b1 b4 n1 h1 n4 res) 0 0 (va_A [(o, .inr (9, [.ref a_state, .ref a_w, .ref a_chunk, .int u0, .long u1])), (a_state, .inl (cy 1, 8, .inl u2)), (a_w, .inl (cy 1, 64, .inl u3)), (a_chunk, .inl (cy 0, 64, .inl u4)), (b1, .inl (cy 0, n1, .inl h1)), (b4, .inl (cy 0, n4, .inl u5))] sz) :=
  q_met (Qc := fun A => q_Sh_twice D cy A o a_state a_w a_chunk b1 b4 n1 h1 n4 res) (by decide) rfl rfl (Nat.le_of_ble_eq_true rfl) (fun p e s m below meth c ls F hP hD hS hl => we_Sh_twice (fu := fu) F a2 a3 a5 u0 u1 u2 u3 u4 u5 res hf _ _ _ hP hD hS hl) sz
abbrev b_Po_becomePlain : ByteArray := prog_8_method_3_code
theorem d_Po_becomePlain_0 : decode b_Po_becomePlain 0 = .ok (.iconst 0, 1) := by decide +kernel
theorem d_Po_becomePlain_1 : decode b_Po_becomePlain 1 = .ok (.istore_n 1, 1) := by decide +kernel
theorem d_Po_becomePlain_2 : decode b_Po_becomePlain 2 = .ok (.iload_n 1, 1) := by decide +kernel
theorem d_Po_becomePlain_3 : decode b_Po_becomePlain 3 = .ok (.bipush 10, 2) := by decide +kernel
theorem d_Po_becomePlain_5 : decode b_Po_becomePlain 5 = .ok (.if_icmp .ge 24, 3) := by decide +kernel
theorem d_Po_becomePlain_8 : decode b_Po_becomePlain 8 = .ok (.aload_n 0, 1) := by decide +kernel
theorem d_Po_becomePlain_9 : decode b_Po_becomePlain 9 = .ok (.getfield 18, 3) := by decide +kernel
theorem d_Po_becomePlain_12 : decode b_Po_becomePlain 12 = .ok (.iload_n 1, 1) := by decide +kernel
theorem d_Po_becomePlain_13 : decode b_Po_becomePlain 13 = .ok (.iload_n 1, 1) := by decide +kernel
theorem d_Po_becomePlain_14 : decode b_Po_becomePlain 14 = .ok (.ifCond .ne 7, 3) := by decide +kernel
theorem d_Po_becomePlain_17 : decode b_Po_becomePlain 17 = .ok (.lconst 1, 1) := by decide +kernel
theorem d_Po_becomePlain_18 : decode b_Po_becomePlain 18 = .ok (.goto 4, 3) := by decide +kernel
theorem d_Po_becomePlain_21 : decode b_Po_becomePlain 21 = .ok (.lconst 0, 1) := by decide +kernel
theorem d_Po_becomePlain_22 : decode b_Po_becomePlain 22 = .ok (.lastore, 1) := by decide +kernel
theorem d_Po_becomePlain_23 : decode b_Po_becomePlain 23 = .ok (.iinc 1 1, 3) := by decide +kernel
theorem d_Po_becomePlain_26 : decode b_Po_becomePlain 26 = .ok (.goto (-24), 3) := by decide +kernel
theorem d_Po_becomePlain_29 : decode b_Po_becomePlain 29 = .ok (.aload_n 0, 1) := by decide +kernel
theorem d_Po_becomePlain_30 : decode b_Po_becomePlain 30 = .ok (.iconst 0, 1) := by decide +kernel
theorem d_Po_becomePlain_31 : decode b_Po_becomePlain 31 = .ok (.putfield 28, 3) := by decide +kernel
theorem d_Po_becomePlain_34 : decode b_Po_becomePlain 34 = .ok (.aload_n 0, 1) := by decide +kernel
theorem d_Po_becomePlain_35 : decode b_Po_becomePlain 35 = .ok (.iconst 1, 1) := by decide +kernel
theorem d_Po_becomePlain_36 : decode b_Po_becomePlain 36 = .ok (.putfield 32, 3) := by decide +kernel
theorem d_Po_becomePlain_39 : decode b_Po_becomePlain 39 = .ok (.return_, 1) := by decide +kernel
abbrev rm_Po_becomePlain : Room := { frames := 0, cells := 0, slots := 0, locals := 0 }
abbrev q_Po_becomePlain (D : va_G) (cy : Nat → ClassId) (A : Nat → Prop) (o : Nat) (v_a_x : Value) (v_a_y : Value) (a_z : Nat) (res : Int32 × Int32 × (Nat → Int64)) : Array Value → State → Outcome → State → Prop := va_Qv (fun (_ : Unit) => True) (fun _ t => Po D cy A [(o, .inr (7, [v_a_x, v_a_y, .ref a_z, .int res.1, .int res.2.1])), (a_z, .inl (cy 2, 10, .inr (.inl res.2.2)))] t) A
def I_Po_becomePlain_22 (p : Program) (l : Launch) (e : Env) (s : State) (m : MethodId) (args : Array Value) (below : List Frame) (meth : Method) (c : Code) (D : va_G) (cy : Nat → ClassId) (A : Nat → Prop) (ad : Nat → Nat) (o : Nat) (v_a_x : Value) (v_a_y : Value) (a_z : Nat) (k : Int32 → Int64 → Int32 → Int32 → Int32 → (Nat → Int64) → Option (Int32 × Int32 × (Nat → Int64))) : Prop :=
  ∀ (x1 : Int32) (y0 : Int64) (y1 : Int32) (u0 : Int32) (u1 : Int32) (u2 : Nat → Int64) (res : Int32 × Int32 × (Nat → Int64)), k x1 y0 y1 u0 u1 u2 = some res → ∀ (H : Heap) (locs : List Loc) (ls : Array Slot), va_P D classes [(o, .inr (7, [v_a_x, v_a_y, .ref a_z, .int u0, .int u1])), (a_z, .inl (cy 2, 10, .inr (.inl u2)))] H → va_D A [(o, .inr (7, [v_a_x, v_a_y, .ref a_z, .int u0, .int u1])), (a_z, .inl (cy 2, 10, .inr (.inl u2)))] → va_S A s.heap H locs → lv_has ls 2 [(0, .ref o), (1, .int x1)] → W p l e rm_Po_becomePlain s m args below meth c H locs 0 0 (MQ below (q_Po_becomePlain D cy A o v_a_x v_a_y a_z res) args s 0 0 A) (F0 m 22 ls [.long y0, .int y1, .ref a_z])
def I_Po_becomePlain_2 (p : Program) (l : Launch) (e : Env) (s : State) (m : MethodId) (args : Array Value) (below : List Frame) (meth : Method) (c : Code) (D : va_G) (cy : Nat → ClassId) (A : Nat → Prop) (ad : Nat → Nat) (o : Nat) (v_a_x : Value) (v_a_y : Value) (a_z : Nat) (k : Int32 → Int32 → Int32 → (Nat → Int64) → Option (Int32 × Int32 × (Nat → Int64))) : Prop :=
  ∀ (x1 : Int32) (u0 : Int32) (u1 : Int32) (u2 : Nat → Int64) (res : Int32 × Int32 × (Nat → Int64)), k x1 u0 u1 u2 = some res → ∀ (H : Heap) (locs : List Loc) (ls : Array Slot), va_P D classes [(o, .inr (7, [v_a_x, v_a_y, .ref a_z, .int u0, .int u1])), (a_z, .inl (cy 2, 10, .inr (.inl u2)))] H → va_D A [(o, .inr (7, [v_a_x, v_a_y, .ref a_z, .int u0, .int u1])), (a_z, .inl (cy 2, 10, .inr (.inl u2)))] → va_S A s.heap H locs → lv_has ls 2 [(0, .ref o), (1, .int x1)] → W p l e rm_Po_becomePlain s m args below meth c H locs 0 0 (MQ below (q_Po_becomePlain D cy A o v_a_x v_a_y a_z res) args s 0 0 A) (F0 m 2 ls [])
def I_Po_becomePlain_e (p : Program) (l : Launch) (e : Env) (s : State) (m : MethodId) (args : Array Value) (below : List Frame) (meth : Method) (c : Code) (D : va_G) (cy : Nat → ClassId) (A : Nat → Prop) (ad : Nat → Nat) (o : Nat) (v_a_x : Value) (v_a_y : Value) (a_z : Nat) (k : Int32 → Int32 → (Nat → Int64) → Option (Int32 × Int32 × (Nat → Int64))) : Prop :=
  ∀ (u0 : Int32) (u1 : Int32) (u2 : Nat → Int64) (res : Int32 × Int32 × (Nat → Int64)), k u0 u1 u2 = some res → ∀ (H : Heap) (locs : List Loc) (ls : Array Slot), va_P D classes [(o, .inr (7, [v_a_x, v_a_y, .ref a_z, .int u0, .int u1])), (a_z, .inl (cy 2, 10, .inr (.inl u2)))] H → va_D A [(o, .inr (7, [v_a_x, v_a_y, .ref a_z, .int u0, .int u1])), (a_z, .inl (cy 2, 10, .inr (.inl u2)))] → va_S A s.heap H locs → lv_has ls 2 [(0, .ref o)] → W p l e rm_Po_becomePlain s m args below meth c H locs 0 0 (MQ below (q_Po_becomePlain D cy A o v_a_x v_a_y a_z res) args s 0 0 A) (F0 m 0 ls [])
def xb_Po_becomePlain_22 (fu : Nat) (k_2 : Int32 → Int32 → Int32 → (Nat → Int64) → Option (Int32 × Int32 × (Nat → Int64))) (x1 : Int32) (y0 : Int64) (y1 : Int32) (u0 : Int32) (u1 : Int32) (u2 : Nat → Int64) : Option (Int32 × Int32 × (Nat → Int64)) :=
  gd (inb y1 10) <| bnd (vp_updL u2 y1.toNatClampNeg y0) fun f1 => bnd (x1 + (1 : Int32)) fun v2 => k_2 v2 u0 u1 f1
set_option maxHeartbeats 8000000 in
set_option maxRecDepth 100000 in
theorem wb_Po_becomePlain_22 {p : Program} {l : Launch} {e : Env} {s : State} {m : MethodId} {args : Array Value} {below : List Frame} {meth : Method} {c : Code} {D : va_G} {cy : Nat → ClassId} {A : Nat → Prop} {ad : Nat → Nat} {o : Nat} {v_a_x : Value} {v_a_y : Value} {a_z : Nat} {fu : Nat} {k_2 : Int32 → Int32 → Int32 → (Nat → Int64) → Option (Int32 × Int32 × (Nat → Int64))} (F : Fx p s m args meth c b_Po_becomePlain 2 "CoinKeeper$Point" "becomePlain" none D cy ad A) (hk_2 : I_Po_becomePlain_2 p l e s m args below meth c D cy A ad o v_a_x v_a_y a_z k_2) : I_Po_becomePlain_22 p l e s m args below meth c D cy A ad o v_a_x v_a_y a_z (xb_Po_becomePlain_22 fu k_2) := by
  obtain ⟨hx, hb, hr, hml, hown, hts, hlocks, hK, hA, hSt, hnm, hex⟩ := id F
  intro x1 y0 y1 u0 u1 u2 res hf H locs ls hP hD hS hl
  unfold xb_Po_becomePlain_22 at hf
  obtain ⟨hg, hf⟩ := gdp hf
  refine va_last hx hb hK hP hD hS 1 2 rfl rfl (inb_in hg) d_Po_becomePlain_22 (fun H locs hP hD hS => ?_)
  obtain ⟨f1, ev, hf⟩ := bne hf
  have hP : va_P D classes [(o, .inr (7, [v_a_x, v_a_y, .ref a_z, .int u0, .int u1])), (a_z, .inl (cy 2, 10, .inr (.inl f1)))] H := by rw [ev]; exact hP
  have hD : va_D A [(o, .inr (7, [v_a_x, v_a_y, .ref a_z, .int u0, .int u1])), (a_z, .inl (cy 2, 10, .inr (.inl f1)))] := by rw [ev]; exact hD
  clear ev
  obtain ⟨v2, ev, hf⟩ := bne hf
  refine lv_iinc (v := v2) (lv' := [(1, .int v2), (0, .ref o)]) hx hb d_Po_becomePlain_23 hl (k := 1) rfl (by rw [ev]; rfl) (by decide) rfl (fun ls hl => ?_)
  clear ev
  refine lv_goto (tgt := 2) hx hb d_Po_becomePlain_26 (by decide) ?_
  exact hk_2 _ _ _ _ _ hf _ _ _ hP hD hS (lv_sub hl [1, 0] rfl)
def xb_Po_becomePlain_2 (fu : Nat) (k_2 : Int32 → Int32 → Int32 → (Nat → Int64) → Option (Int32 × Int32 × (Nat → Int64))) (x1 : Int32) (u0 : Int32) (u1 : Int32) (u2 : Nat → Int64) : Option (Int32 × Int32 × (Nat → Int64)) :=
  if (10 : Int32) ≤ x1 then (some ((0 : Int32), (1 : Int32), u2)) else (if x1 = 0 then (xb_Po_becomePlain_22 fu k_2 x1 (1 : Int64) x1 u0 u1 u2) else (xb_Po_becomePlain_22 fu k_2 x1 (0 : Int64) x1 u0 u1 u2))
set_option maxHeartbeats 8000000 in
set_option maxRecDepth 100000 in
theorem wb_Po_becomePlain_2 {p : Program} {l : Launch} {e : Env} {s : State} {m : MethodId} {args : Array Value} {below : List Frame} {meth : Method} {c : Code} {D : va_G} {cy : Nat → ClassId} {A : Nat → Prop} {ad : Nat → Nat} {o : Nat} {v_a_x : Value} {v_a_y : Value} {a_z : Nat} {fu : Nat} {k_2 : Int32 → Int32 → Int32 → (Nat → Int64) → Option (Int32 × Int32 × (Nat → Int64))} (F : Fx p s m args meth c b_Po_becomePlain 2 "CoinKeeper$Point" "becomePlain" none D cy ad A) (hk_2 : I_Po_becomePlain_2 p l e s m args below meth c D cy A ad o v_a_x v_a_y a_z k_2) : I_Po_becomePlain_2 p l e s m args below meth c D cy A ad o v_a_x v_a_y a_z (xb_Po_becomePlain_2 fu k_2) := by
  obtain ⟨hx, hb, hr, hml, hown, hts, hlocks, hK, hA, hSt, hnm, hex⟩ := id F
  intro x1 u0 u1 u2 res hf H locs ls hP hD hS hl
  unfold xb_Po_becomePlain_2 at hf
  refine lv_iload_n hx hb d_Po_becomePlain_2 rfl (lv_at hl 1 rfl) ?_
  refine lv_bipush (v := 10) hx hb d_Po_becomePlain_3 (by decide) ?_
  refine lv_icmp_ge (tgt := 29) hx hb d_Po_becomePlain_5 (by decide) (fun cx => ?_) (fun cx => ?_)
  · have hf := ifp cx hf
    refine lv_aload_n hx hb d_Po_becomePlain_29 rfl (lv_at hl 0 rfl) ?_
    refine lv_iconst (v := 0) hx hb d_Po_becomePlain_30 (by decide) ?_
    refine va_put (D := D) (ci := 7) (v := .int (0 : Int32)) (ty := .boolean) (C := "CoinKeeper$Point") (T := F_7) (N := 5) hx hb hts i_7 t_7 t_7_ok n_7 hown hK hP hD hS 0 rfl rfl 3 (by decide) (hts _ gw_113) (fun _ h9 => h9) rfl (by decide +kernel) (isb_n (v := 0) (by decide)) (isb_f (v := 0) (by decide)) (Nat.le_of_ble_eq_true rfl) d_Po_becomePlain_31 (fun H locs hP hD hS => ?_)
    have hP : va_P D classes [(o, .inr (7, [v_a_x, v_a_y, .ref a_z, .int (0 : Int32), .int u1])), (a_z, .inl (cy 2, 10, .inr (.inl u2)))] H := hP
    have hD : va_D A [(o, .inr (7, [v_a_x, v_a_y, .ref a_z, .int (0 : Int32), .int u1])), (a_z, .inl (cy 2, 10, .inr (.inl u2)))] := hD
    refine lv_aload_n hx hb d_Po_becomePlain_34 rfl (lv_at hl 0 rfl) ?_
    refine lv_iconst (v := 1) hx hb d_Po_becomePlain_35 (by decide) ?_
    refine va_put (D := D) (ci := 7) (v := .int (1 : Int32)) (ty := .boolean) (C := "CoinKeeper$Point") (T := F_7) (N := 5) hx hb hts i_7 t_7 t_7_ok n_7 hown hK hP hD hS 0 rfl rfl 4 (by decide) (hts _ gw_116) (fun _ h9 => h9) rfl (by decide +kernel) (isb_n (v := 1) (by decide)) (isb_f (v := 1) (by decide)) (Nat.le_of_ble_eq_true rfl) d_Po_becomePlain_36 (fun H locs hP hD hS => ?_)
    have hP : va_P D classes [(o, .inr (7, [v_a_x, v_a_y, .ref a_z, .int (0 : Int32), .int (1 : Int32)])), (a_z, .inl (cy 2, 10, .inr (.inl u2)))] H := hP
    have hD : va_D A [(o, .inr (7, [v_a_x, v_a_y, .ref a_z, .int (0 : Int32), .int (1 : Int32)])), (a_z, .inl (cy 2, 10, .inr (.inl u2)))] := hD
    obtain rfl := Option.some.inj hf
    exact q_rv hx hb hr hlocks hK hP hD hS d_Po_becomePlain_39
  · have hf := ifn cx hf
    refine lv_aload_n hx hb d_Po_becomePlain_8 rfl (lv_at hl 0 rfl) ?_
    refine va_get (D := D) (ci := 7) (v := .ref a_z) (C := "CoinKeeper$Point") (T := F_7) (N := 5) hx hb hts i_7 hown hK hP 0 rfl rfl 2 (by decide) (hts _ gw_111) (fun _ h9 => h9) rfl d_Po_becomePlain_9 ?_
    refine lv_iload_n hx hb d_Po_becomePlain_12 rfl (lv_at hl 1 rfl) ?_
    refine lv_iload_n hx hb d_Po_becomePlain_13 rfl (lv_at hl 1 rfl) ?_
    refine lv_if_ne (tgt := 21) hx hb d_Po_becomePlain_14 (by decide) (fun cx => ?_) (fun cx => ?_)
    · have hf := ifn cx hf
      refine lv_lconst (v := 0) hx hb d_Po_becomePlain_21 (by decide) ?_
      exact wb_Po_becomePlain_22 (fu := fu) F hk_2 _ _ _ _ _ _ _ hf _ _ _ hP hD hS (lv_sub hl [0, 1] rfl)
    · have hf := ifp cx hf
      refine lv_lconst (v := 1) hx hb d_Po_becomePlain_17 (by decide) ?_
      refine lv_goto (tgt := 22) hx hb d_Po_becomePlain_18 (by decide) ?_
      exact wb_Po_becomePlain_22 (fu := fu) F hk_2 _ _ _ _ _ _ _ hf _ _ _ hP hD hS (lv_sub hl [0, 1] rfl)
def x_Po_becomePlain_2 (fu : Nat) : Nat → Int32 → Int32 → Int32 → (Nat → Int64) → Option (Int32 × Int32 × (Nat → Int64))
  | 0 => fun _ _ _ _ => none
  | n + 1 => xb_Po_becomePlain_2 fu (x_Po_becomePlain_2 fu n)
theorem w_Po_becomePlain_2 {p : Program} {l : Launch} {e : Env} {s : State} {m : MethodId} {args : Array Value} {below : List Frame} {meth : Method} {c : Code} {D : va_G} {cy : Nat → ClassId} {A : Nat → Prop} {ad : Nat → Nat} {o : Nat} {v_a_x : Value} {v_a_y : Value} {a_z : Nat} {fu : Nat} (F : Fx p s m args meth c b_Po_becomePlain 2 "CoinKeeper$Point" "becomePlain" none D cy ad A) : ∀ n : Nat, I_Po_becomePlain_2 p l e s m args below meth c D cy A ad o v_a_x v_a_y a_z (x_Po_becomePlain_2 fu n)
  | 0 => fun _ _ _ _ _ hf => nomatch (show (none : Option (Int32 × Int32 × (Nat → Int64))) = some _ from hf)
  | n + 1 => wb_Po_becomePlain_2 F (w_Po_becomePlain_2 F n)
def x_Po_becomePlain (fu : Nat) (u0 : Int32) (u1 : Int32) (u2 : Nat → Int64) : Option (Int32 × Int32 × (Nat → Int64)) :=
  x_Po_becomePlain_2 fu fu (0 : Int32) u0 u1 u2
set_option maxHeartbeats 8000000 in
set_option maxRecDepth 100000 in
theorem we_Po_becomePlain {p : Program} {l : Launch} {e : Env} {s : State} {m : MethodId} {args : Array Value} {below : List Frame} {meth : Method} {c : Code} {D : va_G} {cy : Nat → ClassId} {A : Nat → Prop} {ad : Nat → Nat} {o : Nat} {v_a_x : Value} {v_a_y : Value} {a_z : Nat} {fu : Nat} (F : Fx p s m args meth c b_Po_becomePlain 2 "CoinKeeper$Point" "becomePlain" none D cy ad A) : I_Po_becomePlain_e p l e s m args below meth c D cy A ad o v_a_x v_a_y a_z (x_Po_becomePlain fu) := by
  obtain ⟨hx, hb, hr, hml, hown, hts, hlocks, hK, hA, hSt, hnm, hex⟩ := id F
  intro u0 u1 u2 res hf H locs ls hP hD hS hl
  unfold x_Po_becomePlain at hf
  refine lv_iconst (v := 0) hx hb d_Po_becomePlain_0 (by decide) ?_
  refine lv_istore_n (lv' := [(1, .int (0 : Int32)), (0, .ref o)]) hx hb d_Po_becomePlain_1 rfl hl (by decide) rfl (fun ls hl => ?_)
  exact w_Po_becomePlain_2 F fu _ _ _ _ _ hf _ _ _ hP hD hS (lv_sub hl [1, 0] rfl)
theorem c_Po_becomePlain (l : Launch) (D : va_G) (cy : Nat → ClassId) (ad : Nat → Nat) (fu : Nat) (o : Nat) (v_a_x : Value) (v_a_y : Value) (a_z : Nat) (u0 : Int32) (u1 : Int32) (u2 : Nat → Int64) (res : Int32 × Int32 × (Nat → Int64)) (hf : x_Po_becomePlain fu u0 u1 u2 = some res) (sz : Nat) : Met l ({ cls := "CoinKeeper$Point", name := "becomePlain", desc := "()V" } : Jvm.MethodName) (.code ({ cls := "CoinKeeper$Point", name := "becomePlain", desc := "()V" } : Jvm.MethodName) b_Po_becomePlain 2 none :: gw) rm_Po_becomePlain (va_Pc [.ref o] (Pr D cy ad [(o, .inr (7, [v_a_x, v_a_y, .ref a_z, .int u0, .int u1])), (a_z, .inl (cy 2, 10, .inr (.inl u2)))] sz)) (q_Po_becomePlain D cy (va_A [(o, .inr (7, [v_a_x, v_a_y, .ref a_z, .int u0, .int u1])), (a_z, .inl (cy 2, 10, .inr (.inl u2)))] sz) o v_a_x v_a_y a_z res) 0 0 (va_A [(o, .inr (7, [v_a_x, v_a_y, .ref a_z, .int u0, .int u1])), (a_z, .inl (cy 2, 10, .inr (.inl u2)))] sz) :=
  q_met (Qc := fun A => q_Po_becomePlain D cy A o v_a_x v_a_y a_z res) (by decide) rfl rfl (Nat.le_of_ble_eq_true rfl) (fun p e s m below meth c ls F hP hD hS hl => we_Po_becomePlain (fu := fu) F u0 u1 u2 res hf _ _ _ hP hD hS hl) sz
abbrev b_Po_becomeBase : ByteArray := prog_8_method_2_code
theorem d_Po_becomeBase_0 : decode b_Po_becomeBase 0 = .ok (.iconst 0, 1) := by decide +kernel
theorem d_Po_becomeBase_1 : decode b_Po_becomeBase 1 = .ok (.istore_n 2, 1) := by decide +kernel
theorem d_Po_becomeBase_2 : decode b_Po_becomeBase 2 = .ok (.iload_n 2, 1) := by decide +kernel
theorem d_Po_becomeBase_3 : decode b_Po_becomeBase 3 = .ok (.bipush 10, 2) := by decide +kernel
theorem d_Po_becomeBase_5 : decode b_Po_becomeBase 5 = .ok (.if_icmp .ge 49, 3) := by decide +kernel
theorem d_Po_becomeBase_8 : decode b_Po_becomeBase 8 = .ok (.aload_n 0, 1) := by decide +kernel
theorem d_Po_becomeBase_9 : decode b_Po_becomeBase 9 = .ok (.getfield 9, 3) := by decide +kernel
theorem d_Po_becomeBase_12 : decode b_Po_becomeBase 12 = .ok (.iload_n 2, 1) := by decide +kernel
theorem d_Po_becomeBase_13 : decode b_Po_becomeBase 13 = .ok (.getstatic 21, 3) := by decide +kernel
theorem d_Po_becomeBase_16 : decode b_Po_becomeBase 16 = .ok (.iconst 2, 1) := by decide +kernel
theorem d_Po_becomeBase_17 : decode b_Po_becomeBase 17 = .ok (.iload_n 1, 1) := by decide +kernel
theorem d_Po_becomeBase_18 : decode b_Po_becomeBase 18 = .ok (.imul, 1) := by decide +kernel
theorem d_Po_becomeBase_19 : decode b_Po_becomeBase 19 = .ok (.bipush 10, 2) := by decide +kernel
theorem d_Po_becomeBase_21 : decode b_Po_becomeBase 21 = .ok (.imul, 1) := by decide +kernel
theorem d_Po_becomeBase_22 : decode b_Po_becomeBase 22 = .ok (.iload_n 2, 1) := by decide +kernel
theorem d_Po_becomeBase_23 : decode b_Po_becomeBase 23 = .ok (.iadd, 1) := by decide +kernel
theorem d_Po_becomeBase_24 : decode b_Po_becomeBase 24 = .ok (.iaload, 1) := by decide +kernel
theorem d_Po_becomeBase_25 : decode b_Po_becomeBase 25 = .ok (.i2l, 1) := by decide +kernel
theorem d_Po_becomeBase_26 : decode b_Po_becomeBase 26 = .ok (.lastore, 1) := by decide +kernel
theorem d_Po_becomeBase_27 : decode b_Po_becomeBase 27 = .ok (.aload_n 0, 1) := by decide +kernel
theorem d_Po_becomeBase_28 : decode b_Po_becomeBase 28 = .ok (.getfield 15, 3) := by decide +kernel
theorem d_Po_becomeBase_31 : decode b_Po_becomeBase 31 = .ok (.iload_n 2, 1) := by decide +kernel
theorem d_Po_becomeBase_32 : decode b_Po_becomeBase 32 = .ok (.getstatic 21, 3) := by decide +kernel
theorem d_Po_becomeBase_35 : decode b_Po_becomeBase 35 = .ok (.iconst 2, 1) := by decide +kernel
theorem d_Po_becomeBase_36 : decode b_Po_becomeBase 36 = .ok (.iload_n 1, 1) := by decide +kernel
theorem d_Po_becomeBase_37 : decode b_Po_becomeBase 37 = .ok (.imul, 1) := by decide +kernel
theorem d_Po_becomeBase_38 : decode b_Po_becomeBase 38 = .ok (.iconst 1, 1) := by decide +kernel
theorem d_Po_becomeBase_39 : decode b_Po_becomeBase 39 = .ok (.iadd, 1) := by decide +kernel
theorem d_Po_becomeBase_40 : decode b_Po_becomeBase 40 = .ok (.bipush 10, 2) := by decide +kernel
theorem d_Po_becomeBase_42 : decode b_Po_becomeBase 42 = .ok (.imul, 1) := by decide +kernel
theorem d_Po_becomeBase_43 : decode b_Po_becomeBase 43 = .ok (.iload_n 2, 1) := by decide +kernel
theorem d_Po_becomeBase_44 : decode b_Po_becomeBase 44 = .ok (.iadd, 1) := by decide +kernel
theorem d_Po_becomeBase_45 : decode b_Po_becomeBase 45 = .ok (.iaload, 1) := by decide +kernel
theorem d_Po_becomeBase_46 : decode b_Po_becomeBase 46 = .ok (.i2l, 1) := by decide +kernel
theorem d_Po_becomeBase_47 : decode b_Po_becomeBase 47 = .ok (.lastore, 1) := by decide +kernel
theorem d_Po_becomeBase_48 : decode b_Po_becomeBase 48 = .ok (.iinc 2 1, 3) := by decide +kernel
theorem d_Po_becomeBase_51 : decode b_Po_becomeBase 51 = .ok (.goto (-49), 3) := by decide +kernel
theorem d_Po_becomeBase_54 : decode b_Po_becomeBase 54 = .ok (.aload_n 0, 1) := by decide +kernel
theorem d_Po_becomeBase_55 : decode b_Po_becomeBase 55 = .ok (.invokevirtual 25, 3) := by decide +kernel
theorem d_Po_becomeBase_58 : decode b_Po_becomeBase 58 = .ok (.return_, 1) := by decide +kernel
abbrev rm_Po_becomeBase : Room := { frames := 1, cells := 0, slots := 0, locals := 21 }
abbrev q_Po_becomeBase (D : va_G) (cy : Nat → ClassId) (A : Nat → Prop) (o : Nat) (a_x : Nat) (a_y : Nat) (a_z : Nat) (res : Int32 × Int32 × (Nat → Int64) × (Nat → Int64) × (Nat → Int64)) : Array Value → State → Outcome → State → Prop := va_Qv (fun (_ : Unit) => True) (fun _ t => Po D cy A [(o, .inr (7, [.ref a_x, .ref a_y, .ref a_z, .int res.1, .int res.2.1])), (a_x, .inl (cy 2, 10, .inr (.inl res.2.2.1))), (a_y, .inl (cy 2, 10, .inr (.inl res.2.2.2.1))), (a_z, .inl (cy 2, 10, .inr (.inl res.2.2.2.2)))] t) A
def I_Po_becomeBase_2 (p : Program) (l : Launch) (e : Env) (s : State) (m : MethodId) (args : Array Value) (below : List Frame) (meth : Method) (c : Code) (D : va_G) (cy : Nat → ClassId) (A : Nat → Prop) (ad : Nat → Nat) (o : Nat) (a_x : Nat) (a_y : Nat) (a_z : Nat) (k : Int32 → Int32 → Int32 → Int32 → (Nat → Int64) → (Nat → Int64) → (Nat → Int64) → Option (Int32 × Int32 × (Nat → Int64) × (Nat → Int64) × (Nat → Int64))) : Prop :=
  ∀ (x1 : Int32) (x2 : Int32) (u0 : Int32) (u1 : Int32) (u2 : Nat → Int64) (u3 : Nat → Int64) (u4 : Nat → Int64) (res : Int32 × Int32 × (Nat → Int64) × (Nat → Int64) × (Nat → Int64)), k x1 x2 u0 u1 u2 u3 u4 = some res → ∀ (H : Heap) (locs : List Loc) (ls : Array Slot), va_P D classes [(o, .inr (7, [.ref a_x, .ref a_y, .ref a_z, .int u0, .int u1])), (a_x, .inl (cy 2, 10, .inr (.inl u2))), (a_y, .inl (cy 2, 10, .inr (.inl u3))), (a_z, .inl (cy 2, 10, .inr (.inl u4)))] H → va_D A [(o, .inr (7, [.ref a_x, .ref a_y, .ref a_z, .int u0, .int u1])), (a_x, .inl (cy 2, 10, .inr (.inl u2))), (a_y, .inl (cy 2, 10, .inr (.inl u3))), (a_z, .inl (cy 2, 10, .inr (.inl u4)))] → va_S A s.heap H locs → lv_has ls 3 [(0, .ref o), (1, .int x1), (2, .int x2)] → W p l e rm_Po_becomeBase s m args below meth c H locs 0 0 (MQ below (q_Po_becomeBase D cy A o a_x a_y a_z res) args s 0 0 A) (F0 m 2 ls [])
def I_Po_becomeBase_e (p : Program) (l : Launch) (e : Env) (s : State) (m : MethodId) (args : Array Value) (below : List Frame) (meth : Method) (c : Code) (D : va_G) (cy : Nat → ClassId) (A : Nat → Prop) (ad : Nat → Nat) (o : Nat) (a_x : Nat) (a_y : Nat) (a_z : Nat) (k : Int32 → Int32 → Int32 → (Nat → Int64) → (Nat → Int64) → (Nat → Int64) → Option (Int32 × Int32 × (Nat → Int64) × (Nat → Int64) × (Nat → Int64))) : Prop :=
  ∀ (a1 : Int32) (u0 : Int32) (u1 : Int32) (u2 : Nat → Int64) (u3 : Nat → Int64) (u4 : Nat → Int64) (res : Int32 × Int32 × (Nat → Int64) × (Nat → Int64) × (Nat → Int64)), k a1 u0 u1 u2 u3 u4 = some res → ∀ (H : Heap) (locs : List Loc) (ls : Array Slot), va_P D classes [(o, .inr (7, [.ref a_x, .ref a_y, .ref a_z, .int u0, .int u1])), (a_x, .inl (cy 2, 10, .inr (.inl u2))), (a_y, .inl (cy 2, 10, .inr (.inl u3))), (a_z, .inl (cy 2, 10, .inr (.inl u4)))] H → va_D A [(o, .inr (7, [.ref a_x, .ref a_y, .ref a_z, .int u0, .int u1])), (a_x, .inl (cy 2, 10, .inr (.inl u2))), (a_y, .inl (cy 2, 10, .inr (.inl u3))), (a_z, .inl (cy 2, 10, .inr (.inl u4)))] → va_S A s.heap H locs → lv_has ls 3 [(0, .ref o), (1, .int a1)] → W p l e rm_Po_becomeBase s m args below meth c H locs 0 0 (MQ below (q_Po_becomeBase D cy A o a_x a_y a_z res) args s 0 0 A) (F0 m 0 ls [])
theorem hda_6 : ({ cls := "CoinKeeper$Point", name := "becomePlain", desc := "()V" } : Jvm.MethodName).cls ≠ "java/lang/invoke/MethodHandle" ∧ ({ cls := "CoinKeeper$Point", name := "becomePlain", desc := "()V" } : Jvm.MethodName).cls ≠ "java/lang/invoke/VarHandle" ∧ (parseMethodDescriptor ({ cls := "CoinKeeper$Point", name := "becomePlain", desc := "()V" } : Jvm.MethodName).desc).map (fun d => d.parameters.length) = some 0 := by decide +kernel
def xb_Po_becomeBase_2 (fu : Nat) (k_2 : Int32 → Int32 → Int32 → Int32 → (Nat → Int64) → (Nat → Int64) → (Nat → Int64) → Option (Int32 × Int32 × (Nat → Int64) × (Nat → Int64) × (Nat → Int64))) (x1 : Int32) (x2 : Int32) (u0 : Int32) (u1 : Int32) (u2 : Nat → Int64) (u3 : Nat → Int64) (u4 : Nat → Int64) : Option (Int32 × Int32 × (Nat → Int64) × (Nat → Int64) × (Nat → Int64)) :=
  if (10 : Int32) ≤ x2 then (bd3 (x_Po_becomePlain fu u0 u1 u4) fun e1 e2 f3 => some (e1, e2, u2, u3, f3)) else (bnd ((2 : Int32) * x1) fun v4 => bnd (v4 * (10 : Int32)) fun v5 => bnd (v5 + x2) fun v6 => gd (inb v6 160) <| bnd (tb_0.getD v6.toNatClampNeg 0) fun v7 => bnd (v7.toInt64) fun v8 => gd (inb x2 10) <| bnd (vp_updL u2 x2.toNatClampNeg v8) fun f9 => bnd ((2 : Int32) * x1) fun v10 => bnd (v10 + (1 : Int32)) fun v11 => bnd (v11 * (10 : Int32)) fun v12 => bnd (v12 + x2) fun v13 => gd (inb v13 160) <| bnd (tb_0.getD v13.toNatClampNeg 0) fun v14 => bnd (v14.toInt64) fun v15 => gd (inb x2 10) <| bnd (vp_updL u3 x2.toNatClampNeg v15) fun f16 => bnd (x2 + (1 : Int32)) fun v17 => k_2 x1 v17 u0 u1 f9 f16 u4)
set_option maxHeartbeats 8000000 in
set_option maxRecDepth 100000 in
theorem wb_Po_becomeBase_2 {p : Program} {l : Launch} {e : Env} {s : State} {m : MethodId} {args : Array Value} {below : List Frame} {meth : Method} {c : Code} {D : va_G} {cy : Nat → ClassId} {A : Nat → Prop} {ad : Nat → Nat} {o : Nat} {a_x : Nat} {a_y : Nat} {a_z : Nat} {fu : Nat} {k_2 : Int32 → Int32 → Int32 → Int32 → (Nat → Int64) → (Nat → Int64) → (Nat → Int64) → Option (Int32 × Int32 × (Nat → Int64) × (Nat → Int64) × (Nat → Int64))} (F : Fx p s m args meth c b_Po_becomeBase 3 "CoinKeeper$Point" "becomeBase" none D cy ad A) (hk_2 : I_Po_becomeBase_2 p l e s m args below meth c D cy A ad o a_x a_y a_z k_2) : I_Po_becomeBase_2 p l e s m args below meth c D cy A ad o a_x a_y a_z (xb_Po_becomeBase_2 fu k_2) := by
  obtain ⟨hx, hb, hr, hml, hown, hts, hlocks, hK, hA, hSt, hnm, hex⟩ := id F
  intro x1 x2 u0 u1 u2 u3 u4 res hf H locs ls hP hD hS hl
  unfold xb_Po_becomeBase_2 at hf
  refine lv_iload_n hx hb d_Po_becomeBase_2 rfl (lv_at hl 2 rfl) ?_
  refine lv_bipush (v := 10) hx hb d_Po_becomeBase_3 (by decide) ?_
  refine lv_icmp_ge (tgt := 54) hx hb d_Po_becomeBase_5 (by decide) (fun cx => ?_) (fun cx => ?_)
  · have hf := ifp cx hf
    refine lv_aload_n hx hb d_Po_becomeBase_54 rfl (lv_at hl 0 rfl) ?_
    obtain ⟨e1, e2, f3, hc, hf⟩ := bdp3 hf
    refine q_av (wr := [(a_x, .inl (cy 2, 10, .inr (.inl u2))), (a_y, .inl (cy 2, 10, .inr (.inl u3)))]) (va_runV (C := "CoinKeeper$Point") (As := []) (rest := []) ⟨hx, hb, hml, hown, hts⟩ (c_Po_becomePlain l D cy ad fu o (.ref a_x) (.ref a_y) a_z u0 u1 u4 _ hc H.size) ⟨q_cB hts gw_138 gw_5 gw_135 hda_6 ⟨by decide, by decide⟩, hts _ gw_136, hts _ gw_137⟩ (q_preV (q_pre (hP.sub [0, 3] rfl) (hD.sub [0, 3] (by decide) rfl) hK hSt hS (va_free hD hS hA [0, 3] rfl) _) (va_recv hK (hP.sub [0, 3] rfl) (ci := 7) (q0 := 0) rfl rfl)) rfl rfl hl.1 rfl (lv_room (Nat.le_of_ble_eq_true rfl)) d_Po_becomeBase_55 ⟨Nat.le_of_ble_eq_true rfl, Nat.le_of_ble_eq_true rfl⟩) hP hD hS hA [0, 3] [1, 2] rfl rfl (by decide) (by decide) (fun H locs hP hD hS => ?_)
    clear hc
    have hP : va_P D classes [(a_x, .inl (cy 2, 10, .inr (.inl u2))), (a_y, .inl (cy 2, 10, .inr (.inl u3))), (o, .inr (7, [.ref a_x, .ref a_y, .ref a_z, .int e1, .int e2])), (a_z, .inl (cy 2, 10, .inr (.inl f3)))] H := hP
    have hD : va_D A [(a_x, .inl (cy 2, 10, .inr (.inl u2))), (a_y, .inl (cy 2, 10, .inr (.inl u3))), (o, .inr (7, [.ref a_x, .ref a_y, .ref a_z, .int e1, .int e2])), (a_z, .inl (cy 2, 10, .inr (.inl f3)))] := hD
    obtain rfl := Option.some.inj hf
    exact q_rv hx hb hr hlocks hK (hP.sub [2, 0, 1, 3] rfl) (hD.sub [2, 0, 1, 3] (by decide) rfl) hS d_Po_becomeBase_58
  · have hf := ifn cx hf
    refine lv_aload_n hx hb d_Po_becomeBase_8 rfl (lv_at hl 0 rfl) ?_
    refine va_get (D := D) (ci := 7) (v := .ref a_x) (C := "CoinKeeper$Point") (T := F_7) (N := 5) hx hb hts i_7 hown hK hP 0 rfl rfl 0 (by decide) (hts _ gw_107) (fun _ h9 => h9) rfl d_Po_becomeBase_9 ?_
    refine lv_iload_n hx hb d_Po_becomeBase_12 rfl (lv_at hl 2 rfl) ?_
    refine va_gets hx hb (hSt.1 0 _ rfl).1 hS hown (hts _ gw_133) (fun _ h9 => h9) d_Po_becomeBase_13 ?_
    refine lv_iconst (v := 2) hx hb d_Po_becomeBase_16 (by decide) ?_
    refine lv_iload_n hx hb d_Po_becomeBase_17 rfl (lv_at hl 1 rfl) ?_
    refine lv_imul hx hb d_Po_becomeBase_18 ?_
    refine lv_topi (fun v4 ev => ?_)
    have hf := bn ev hf
    clear ev
    refine lv_bipush (v := 10) hx hb d_Po_becomeBase_19 (by decide) ?_
    refine lv_imul hx hb d_Po_becomeBase_21 ?_
    refine lv_topi (fun v5 ev => ?_)
    have hf := bn ev hf
    clear ev
    refine lv_iload_n hx hb d_Po_becomeBase_22 rfl (lv_at hl 2 rfl) ?_
    refine lv_iadd hx hb d_Po_becomeBase_23 ?_
    refine lv_topi (fun v6 ev => ?_)
    have hf := bn ev hf
    clear ev
    obtain ⟨hg, hf⟩ := gdp hf
    refine va_ti (v := .int (tb_0.getD v6.toNatClampNeg 0)) hx hb (hSt.1 0 _ rfl).2 hS (inb_in hg) rfl d_Po_becomeBase_24 ?_
    refine lv_topi (fun v7 ev => ?_)
    have hf := bn ev hf
    clear ev
    refine lv_i2l hx hb d_Po_becomeBase_25 rfl ?_
    refine lv_topl (fun v8 ev => ?_)
    have hf := bn ev hf
    clear ev
    obtain ⟨hg, hf⟩ := gdp hf
    refine va_last hx hb hK hP hD hS 1 2 rfl rfl (inb_in hg) d_Po_becomeBase_26 (fun H locs hP hD hS => ?_)
    obtain ⟨f9, ev, hf⟩ := bne hf
    have hP : va_P D classes [(o, .inr (7, [.ref a_x, .ref a_y, .ref a_z, .int u0, .int u1])), (a_x, .inl (cy 2, 10, .inr (.inl f9))), (a_y, .inl (cy 2, 10, .inr (.inl u3))), (a_z, .inl (cy 2, 10, .inr (.inl u4)))] H := by rw [ev]; exact hP
    have hD : va_D A [(o, .inr (7, [.ref a_x, .ref a_y, .ref a_z, .int u0, .int u1])), (a_x, .inl (cy 2, 10, .inr (.inl f9))), (a_y, .inl (cy 2, 10, .inr (.inl u3))), (a_z, .inl (cy 2, 10, .inr (.inl u4)))] := by rw [ev]; exact hD
    clear ev
    refine lv_aload_n hx hb d_Po_becomeBase_27 rfl (lv_at hl 0 rfl) ?_
    refine va_get (D := D) (ci := 7) (v := .ref a_y) (C := "CoinKeeper$Point") (T := F_7) (N := 5) hx hb hts i_7 hown hK hP 0 rfl rfl 1 (by decide) (hts _ gw_109) (fun _ h9 => h9) rfl d_Po_becomeBase_28 ?_
    refine lv_iload_n hx hb d_Po_becomeBase_31 rfl (lv_at hl 2 rfl) ?_
    refine va_gets hx hb (hSt.1 0 _ rfl).1 hS hown (hts _ gw_133) (fun _ h9 => h9) d_Po_becomeBase_32 ?_
    refine lv_iconst (v := 2) hx hb d_Po_becomeBase_35 (by decide) ?_
    refine lv_iload_n hx hb d_Po_becomeBase_36 rfl (lv_at hl 1 rfl) ?_
    refine lv_imul hx hb d_Po_becomeBase_37 ?_
    refine lv_topi (fun v10 ev => ?_)
    have hf := bn ev hf
    clear ev
    refine lv_iconst (v := 1) hx hb d_Po_becomeBase_38 (by decide) ?_
    refine lv_iadd hx hb d_Po_becomeBase_39 ?_
    refine lv_topi (fun v11 ev => ?_)
    have hf := bn ev hf
    clear ev
    refine lv_bipush (v := 10) hx hb d_Po_becomeBase_40 (by decide) ?_
    refine lv_imul hx hb d_Po_becomeBase_42 ?_
    refine lv_topi (fun v12 ev => ?_)
    have hf := bn ev hf
    clear ev
    refine lv_iload_n hx hb d_Po_becomeBase_43 rfl (lv_at hl 2 rfl) ?_
    refine lv_iadd hx hb d_Po_becomeBase_44 ?_
    refine lv_topi (fun v13 ev => ?_)
    have hf := bn ev hf
    clear ev
    obtain ⟨hg, hf⟩ := gdp hf
    refine va_ti (v := .int (tb_0.getD v13.toNatClampNeg 0)) hx hb (hSt.1 0 _ rfl).2 hS (inb_in hg) rfl d_Po_becomeBase_45 ?_
    refine lv_topi (fun v14 ev => ?_)
    have hf := bn ev hf
    clear ev
    refine lv_i2l hx hb d_Po_becomeBase_46 rfl ?_
    refine lv_topl (fun v15 ev => ?_)
    have hf := bn ev hf
    clear ev
    obtain ⟨hg, hf⟩ := gdp hf
    refine va_last hx hb hK hP hD hS 2 2 rfl rfl (inb_in hg) d_Po_becomeBase_47 (fun H locs hP hD hS => ?_)
    obtain ⟨f16, ev, hf⟩ := bne hf
    have hP : va_P D classes [(o, .inr (7, [.ref a_x, .ref a_y, .ref a_z, .int u0, .int u1])), (a_x, .inl (cy 2, 10, .inr (.inl f9))), (a_y, .inl (cy 2, 10, .inr (.inl f16))), (a_z, .inl (cy 2, 10, .inr (.inl u4)))] H := by rw [ev]; exact hP
    have hD : va_D A [(o, .inr (7, [.ref a_x, .ref a_y, .ref a_z, .int u0, .int u1])), (a_x, .inl (cy 2, 10, .inr (.inl f9))), (a_y, .inl (cy 2, 10, .inr (.inl f16))), (a_z, .inl (cy 2, 10, .inr (.inl u4)))] := by rw [ev]; exact hD
    clear ev
    obtain ⟨v17, ev, hf⟩ := bne hf
    refine lv_iinc (v := v17) (lv' := [(2, .int v17), (0, .ref o), (1, .int x1)]) hx hb d_Po_becomeBase_48 hl (k := 2) rfl (by rw [ev]; rfl) (by decide) rfl (fun ls hl => ?_)
    clear ev
    refine lv_goto (tgt := 2) hx hb d_Po_becomeBase_51 (by decide) ?_
    exact hk_2 _ _ _ _ _ _ _ _ hf _ _ _ hP hD hS (lv_sub hl [1, 2, 0] rfl)
def x_Po_becomeBase_2 (fu : Nat) : Nat → Int32 → Int32 → Int32 → Int32 → (Nat → Int64) → (Nat → Int64) → (Nat → Int64) → Option (Int32 × Int32 × (Nat → Int64) × (Nat → Int64) × (Nat → Int64))
  | 0 => fun _ _ _ _ _ _ _ => none
  | n + 1 => xb_Po_becomeBase_2 fu (x_Po_becomeBase_2 fu n)
theorem w_Po_becomeBase_2 {p : Program} {l : Launch} {e : Env} {s : State} {m : MethodId} {args : Array Value} {below : List Frame} {meth : Method} {c : Code} {D : va_G} {cy : Nat → ClassId} {A : Nat → Prop} {ad : Nat → Nat} {o : Nat} {a_x : Nat} {a_y : Nat} {a_z : Nat} {fu : Nat} (F : Fx p s m args meth c b_Po_becomeBase 3 "CoinKeeper$Point" "becomeBase" none D cy ad A) : ∀ n : Nat, I_Po_becomeBase_2 p l e s m args below meth c D cy A ad o a_x a_y a_z (x_Po_becomeBase_2 fu n)
  | 0 => fun _ _ _ _ _ _ _ _ hf => nomatch (show (none : Option (Int32 × Int32 × (Nat → Int64) × (Nat → Int64) × (Nat → Int64))) = some _ from hf)
  | n + 1 => wb_Po_becomeBase_2 F (w_Po_becomeBase_2 F n)
def x_Po_becomeBase (fu : Nat) (a1 : Int32) (u0 : Int32) (u1 : Int32) (u2 : Nat → Int64) (u3 : Nat → Int64) (u4 : Nat → Int64) : Option (Int32 × Int32 × (Nat → Int64) × (Nat → Int64) × (Nat → Int64)) :=
  x_Po_becomeBase_2 fu fu a1 (0 : Int32) u0 u1 u2 u3 u4
set_option maxHeartbeats 8000000 in
set_option maxRecDepth 100000 in
theorem we_Po_becomeBase {p : Program} {l : Launch} {e : Env} {s : State} {m : MethodId} {args : Array Value} {below : List Frame} {meth : Method} {c : Code} {D : va_G} {cy : Nat → ClassId} {A : Nat → Prop} {ad : Nat → Nat} {o : Nat} {a_x : Nat} {a_y : Nat} {a_z : Nat} {fu : Nat} (F : Fx p s m args meth c b_Po_becomeBase 3 "CoinKeeper$Point" "becomeBase" none D cy ad A) : I_Po_becomeBase_e p l e s m args below meth c D cy A ad o a_x a_y a_z (x_Po_becomeBase fu) := by
  obtain ⟨hx, hb, hr, hml, hown, hts, hlocks, hK, hA, hSt, hnm, hex⟩ := id F
  intro a1 u0 u1 u2 u3 u4 res hf H locs ls hP hD hS hl
  unfold x_Po_becomeBase at hf
  refine lv_iconst (v := 0) hx hb d_Po_becomeBase_0 (by decide) ?_
  refine lv_istore_n (lv' := [(2, .int (0 : Int32)), (0, .ref o), (1, .int a1)]) hx hb d_Po_becomeBase_1 rfl hl (by decide) rfl (fun ls hl => ?_)
  exact w_Po_becomeBase_2 F fu _ _ _ _ _ _ _ _ hf _ _ _ hP hD hS (lv_sub hl [1, 2, 0] rfl)
theorem c_Po_becomeBase (l : Launch) (D : va_G) (cy : Nat → ClassId) (ad : Nat → Nat) (fu : Nat) (o : Nat) (a_x : Nat) (a_y : Nat) (a_z : Nat) (a1 : Int32) (u0 : Int32) (u1 : Int32) (u2 : Nat → Int64) (u3 : Nat → Int64) (u4 : Nat → Int64) (res : Int32 × Int32 × (Nat → Int64) × (Nat → Int64) × (Nat → Int64)) (hf : x_Po_becomeBase fu a1 u0 u1 u2 u3 u4 = some res) (sz : Nat) : Met l ({ cls := "CoinKeeper$Point", name := "becomeBase", desc := "(I)V" } : Jvm.MethodName) (.code ({ cls := "CoinKeeper$Point", name := "becomeBase", desc := "(I)V" } : Jvm.MethodName) b_Po_becomeBase 3 none :: gw) rm_Po_becomeBase (va_Pc [.ref o, .int a1] (Pr D cy ad [(o, .inr (7, [.ref a_x, .ref a_y, .ref a_z, .int u0, .int u1])), (a_x, .inl (cy 2, 10, .inr (.inl u2))), (a_y, .inl (cy 2, 10, .inr (.inl u3))), (a_z, .inl (cy 2, 10, .inr (.inl u4)))] sz)) (q_Po_becomeBase D cy (va_A [(o, .inr (7, [.ref a_x, .ref a_y, .ref a_z, .int u0, .int u1])), (a_x, .inl (cy 2, 10, .inr (.inl u2))), (a_y, .inl (cy 2, 10, .inr (.inl u3))), (a_z, .inl (cy 2, 10, .inr (.inl u4)))] sz) o a_x a_y a_z res) 0 0 (va_A [(o, .inr (7, [.ref a_x, .ref a_y, .ref a_z, .int u0, .int u1])), (a_x, .inl (cy 2, 10, .inr (.inl u2))), (a_y, .inl (cy 2, 10, .inr (.inl u3))), (a_z, .inl (cy 2, 10, .inr (.inl u4)))] sz) :=
  q_met (Qc := fun A => q_Po_becomeBase D cy A o a_x a_y a_z res) (by decide) rfl rfl (Nat.le_of_ble_eq_true rfl) (fun p e s m below meth c ls F hP hD hS hl => we_Po_becomeBase (fu := fu) F a1 u0 u1 u2 u3 u4 res hf _ _ _ hP hD hS hl) sz
abbrev b_Bl_workOf : ByteArray := prog_2_method_8_code
theorem d_Bl_workOf_0 : decode b_Bl_workOf 0 = .ok (.iload_n 0, 1) := by decide +kernel
theorem d_Bl_workOf_1 : decode b_Bl_workOf 1 = .ok (.ldc 85, 2) := by decide +kernel
theorem d_Bl_workOf_3 : decode b_Bl_workOf 3 = .ok (.iand, 1) := by decide +kernel
theorem d_Bl_workOf_4 : decode b_Bl_workOf 4 = .ok (.i2l, 1) := by decide +kernel
theorem d_Bl_workOf_5 : decode b_Bl_workOf 5 = .ok (.lstore_n 1, 1) := by decide +kernel
theorem d_Bl_workOf_6 : decode b_Bl_workOf 6 = .ok (.lload_n 1, 1) := by decide +kernel
theorem d_Bl_workOf_7 : decode b_Bl_workOf 7 = .ok (.lconst 0, 1) := by decide +kernel
theorem d_Bl_workOf_8 : decode b_Bl_workOf 8 = .ok (.lcmp, 1) := by decide +kernel
theorem d_Bl_workOf_9 : decode b_Bl_workOf 9 = .ok (.ifCond .ne 5, 3) := by decide +kernel
theorem d_Bl_workOf_12 : decode b_Bl_workOf 12 = .ok (.lconst 0, 1) := by decide +kernel
theorem d_Bl_workOf_13 : decode b_Bl_workOf 13 = .ok (.lreturn, 1) := by decide +kernel
theorem d_Bl_workOf_14 : decode b_Bl_workOf 14 = .ok (.lconst 0, 1) := by decide +kernel
theorem d_Bl_workOf_15 : decode b_Bl_workOf 15 = .ok (.lstore_n 3, 1) := by decide +kernel
theorem d_Bl_workOf_16 : decode b_Bl_workOf 16 = .ok (.lconst 1, 1) := by decide +kernel
theorem d_Bl_workOf_17 : decode b_Bl_workOf 17 = .ok (.lstore 5, 2) := by decide +kernel
theorem d_Bl_workOf_19 : decode b_Bl_workOf 19 = .ok (.iload_n 0, 1) := by decide +kernel
theorem d_Bl_workOf_20 : decode b_Bl_workOf 20 = .ok (.bipush 24, 2) := by decide +kernel
theorem d_Bl_workOf_22 : decode b_Bl_workOf 22 = .ok (.iushr, 1) := by decide +kernel
theorem d_Bl_workOf_23 : decode b_Bl_workOf 23 = .ok (.iconst 3, 1) := by decide +kernel
theorem d_Bl_workOf_24 : decode b_Bl_workOf 24 = .ok (.isub, 1) := by decide +kernel
theorem d_Bl_workOf_25 : decode b_Bl_workOf 25 = .ok (.istore 7, 2) := by decide +kernel
theorem d_Bl_workOf_27 : decode b_Bl_workOf 27 = .ok (.iload 7, 2) := by decide +kernel
theorem d_Bl_workOf_29 : decode b_Bl_workOf 29 = .ok (.bipush 32, 2) := by decide +kernel
theorem d_Bl_workOf_31 : decode b_Bl_workOf 31 = .ok (.if_icmp .ge 32, 3) := by decide +kernel
theorem d_Bl_workOf_34 : decode b_Bl_workOf 34 = .ok (.lload 5, 2) := by decide +kernel
theorem d_Bl_workOf_36 : decode b_Bl_workOf 36 = .ok (.bipush 8, 2) := by decide +kernel
theorem d_Bl_workOf_38 : decode b_Bl_workOf 38 = .ok (.lshl, 1) := by decide +kernel
theorem d_Bl_workOf_39 : decode b_Bl_workOf 39 = .ok (.lstore 5, 2) := by decide +kernel
theorem d_Bl_workOf_41 : decode b_Bl_workOf 41 = .ok (.lload_n 3, 1) := by decide +kernel
theorem d_Bl_workOf_42 : decode b_Bl_workOf 42 = .ok (.bipush 8, 2) := by decide +kernel
theorem d_Bl_workOf_44 : decode b_Bl_workOf 44 = .ok (.lshl, 1) := by decide +kernel
theorem d_Bl_workOf_45 : decode b_Bl_workOf 45 = .ok (.lload 5, 2) := by decide +kernel
theorem d_Bl_workOf_47 : decode b_Bl_workOf 47 = .ok (.lload_n 1, 1) := by decide +kernel
theorem d_Bl_workOf_48 : decode b_Bl_workOf 48 = .ok (.ldiv, 1) := by decide +kernel
theorem d_Bl_workOf_49 : decode b_Bl_workOf 49 = .ok (.ladd, 1) := by decide +kernel
theorem d_Bl_workOf_50 : decode b_Bl_workOf 50 = .ok (.lstore_n 3, 1) := by decide +kernel
theorem d_Bl_workOf_51 : decode b_Bl_workOf 51 = .ok (.lload 5, 2) := by decide +kernel
theorem d_Bl_workOf_53 : decode b_Bl_workOf 53 = .ok (.lload_n 1, 1) := by decide +kernel
theorem d_Bl_workOf_54 : decode b_Bl_workOf 54 = .ok (.lrem, 1) := by decide +kernel
theorem d_Bl_workOf_55 : decode b_Bl_workOf 55 = .ok (.lstore 5, 2) := by decide +kernel
theorem d_Bl_workOf_57 : decode b_Bl_workOf 57 = .ok (.iinc 7 1, 3) := by decide +kernel
theorem d_Bl_workOf_60 : decode b_Bl_workOf 60 = .ok (.goto (-33), 3) := by decide +kernel
theorem d_Bl_workOf_63 : decode b_Bl_workOf 63 = .ok (.lload 5, 2) := by decide +kernel
theorem d_Bl_workOf_65 : decode b_Bl_workOf 65 = .ok (.lconst 0, 1) := by decide +kernel
theorem d_Bl_workOf_66 : decode b_Bl_workOf 66 = .ok (.lcmp, 1) := by decide +kernel
theorem d_Bl_workOf_67 : decode b_Bl_workOf 67 = .ok (.ifCond .ne 9, 3) := by decide +kernel
theorem d_Bl_workOf_70 : decode b_Bl_workOf 70 = .ok (.lload_n 3, 1) := by decide +kernel
theorem d_Bl_workOf_71 : decode b_Bl_workOf 71 = .ok (.lconst 1, 1) := by decide +kernel
theorem d_Bl_workOf_72 : decode b_Bl_workOf 72 = .ok (.lsub, 1) := by decide +kernel
theorem d_Bl_workOf_73 : decode b_Bl_workOf 73 = .ok (.goto 4, 3) := by decide +kernel
theorem d_Bl_workOf_76 : decode b_Bl_workOf 76 = .ok (.lload_n 3, 1) := by decide +kernel
theorem d_Bl_workOf_77 : decode b_Bl_workOf 77 = .ok (.lreturn, 1) := by decide +kernel
abbrev rm_Bl_workOf : Room := { frames := 0, cells := 0, slots := 0, locals := 0 }
abbrev q_Bl_workOf (D : va_G) (cy : Nat → ClassId) (A : Nat → Prop) (res : Int64) : Array Value → State → Outcome → State → Prop := va_Ql (fun r' (_ : Unit) => r' = res) (fun _ t => Po D cy A [] t) A
def I_Bl_workOf_27 (p : Program) (l : Launch) (e : Env) (s : State) (m : MethodId) (args : Array Value) (below : List Frame) (meth : Method) (c : Code) (D : va_G) (cy : Nat → ClassId) (A : Nat → Prop) (ad : Nat → Nat) (k : Int64 → Int64 → Int64 → Int32 → Option (Int64)) : Prop :=
  ∀ (x1 : Int64) (x3 : Int64) (x5 : Int64) (x7 : Int32) (res : Int64), k x1 x3 x5 x7 = some res → ∀ (H : Heap) (locs : List Loc) (ls : Array Slot), va_P D classes [] H → va_D A [] → va_S A s.heap H locs → lv_has ls 8 [(1, .long x1), (3, .long x3), (5, .long x5), (7, .int x7)] → W p l e rm_Bl_workOf s m args below meth c H locs 0 0 (MQ below (q_Bl_workOf D cy A res) args s 0 0 A) (F0 m 27 ls [])
def I_Bl_workOf_e (p : Program) (l : Launch) (e : Env) (s : State) (m : MethodId) (args : Array Value) (below : List Frame) (meth : Method) (c : Code) (D : va_G) (cy : Nat → ClassId) (A : Nat → Prop) (ad : Nat → Nat) (k : Int32 → Option (Int64)) : Prop :=
  ∀ (a0 : Int32) (res : Int64), k a0 = some res → ∀ (H : Heap) (locs : List Loc) (ls : Array Slot), va_P D classes [] H → va_D A [] → va_S A s.heap H locs → lv_has ls 8 [(0, .int a0)] → W p l e rm_Bl_workOf s m args below meth c H locs 0 0 (MQ below (q_Bl_workOf D cy A res) args s 0 0 A) (F0 m 0 ls [])
def xb_Bl_workOf_27 (fu : Nat) (k_27 : Int64 → Int64 → Int64 → Int32 → Option (Int64)) (x1 : Int64) (x3 : Int64) (x5 : Int64) (x7 : Int32) : Option (Int64) :=
  if (32 : Int32) ≤ x7 then (if (lg_cmp x5 (0 : Int64)) = 0 then (bnd (x3 - (1 : Int64)) fun v1 => some (v1)) else (some (x3))) else (bnd (x5 <<< ((8 : Int32).toInt64 &&& 63)) fun v2 => bnd (x3 <<< ((8 : Int32).toInt64 &&& 63)) fun v3 => gd (nzl x1) <| bnd (v3 + (v2 / x1)) fun v4 => gd (nzl x1) <| bnd (v2 - v2 / x1 * x1) fun v5 => bnd (x7 + (1 : Int32)) fun v6 => k_27 x1 v4 v5 v6)
set_option maxHeartbeats 8000000 in
set_option maxRecDepth 100000 in
theorem wb_Bl_workOf_27 {p : Program} {l : Launch} {e : Env} {s : State} {m : MethodId} {args : Array Value} {below : List Frame} {meth : Method} {c : Code} {D : va_G} {cy : Nat → ClassId} {A : Nat → Prop} {ad : Nat → Nat} {fu : Nat} {k_27 : Int64 → Int64 → Int64 → Int32 → Option (Int64)} (F : Fx p s m args meth c b_Bl_workOf 8 "CoinKeeper$Block" "workOf" (some .long) D cy ad A) (hk_27 : I_Bl_workOf_27 p l e s m args below meth c D cy A ad k_27) : I_Bl_workOf_27 p l e s m args below meth c D cy A ad (xb_Bl_workOf_27 fu k_27) := by
  obtain ⟨hx, hb, hr, hml, hown, hts, hlocks, hK, hA, hSt, hnm, hex⟩ := id F
  intro x1 x3 x5 x7 res hf H locs ls hP hD hS hl
  unfold xb_Bl_workOf_27 at hf
  refine lv_iload hx hb d_Bl_workOf_27 (lv_at hl 3 rfl) ?_
  refine lv_bipush (v := 32) hx hb d_Bl_workOf_29 (by decide) ?_
  refine lv_icmp_ge (tgt := 63) hx hb d_Bl_workOf_31 (by decide) (fun cx => ?_) (fun cx => ?_)
  · have hf := ifp cx hf
    refine lv_lload hx hb d_Bl_workOf_63 (lv_at hl 2 rfl) ?_
    refine lv_lconst (v := 0) hx hb d_Bl_workOf_65 (by decide) ?_
    refine W.lcmp hx hb d_Bl_workOf_66 ?_
    refine lv_if_ne (tgt := 76) hx hb d_Bl_workOf_67 (by decide) (fun cx => ?_) (fun cx => ?_)
    · have hf := ifn cx hf
      refine lv_lload_n hx hb d_Bl_workOf_76 rfl (lv_at hl 1 rfl) ?_
      obtain rfl := Option.some.inj hf
      exact q_rl hx hb hr hlocks hK hP hD hS d_Bl_workOf_77
    · have hf := ifp cx hf
      refine lv_lload_n hx hb d_Bl_workOf_70 rfl (lv_at hl 1 rfl) ?_
      refine lv_lconst (v := 1) hx hb d_Bl_workOf_71 (by decide) ?_
      refine lv_lsub hx hb d_Bl_workOf_72 ?_
      refine lv_goto (tgt := 77) hx hb d_Bl_workOf_73 (by decide) ?_
      refine lv_topl (fun v1 ev => ?_)
      have hf := bn ev hf
      clear ev
      obtain rfl := Option.some.inj hf
      exact q_rl hx hb hr hlocks hK hP hD hS d_Bl_workOf_77
  · have hf := ifn cx hf
    refine lv_lload hx hb d_Bl_workOf_34 (lv_at hl 2 rfl) ?_
    refine lv_bipush (v := 8) hx hb d_Bl_workOf_36 (by decide) ?_
    refine lv_lshl hx hb d_Bl_workOf_38 rfl ?_
    refine lv_topl (fun v2 ev => ?_)
    have hf := bn ev hf
    clear ev
    refine lv_lstore (lv' := [(5, .long v2), (1, .long x1), (3, .long x3), (7, .int x7)]) hx hb d_Bl_workOf_39 hl (by decide) rfl (fun ls hl => ?_)
    refine lv_lload_n hx hb d_Bl_workOf_41 rfl (lv_at hl 2 rfl) ?_
    refine lv_bipush (v := 8) hx hb d_Bl_workOf_42 (by decide) ?_
    refine lv_lshl hx hb d_Bl_workOf_44 rfl ?_
    refine lv_topl (fun v3 ev => ?_)
    have hf := bn ev hf
    clear ev
    refine lv_lload hx hb d_Bl_workOf_45 (lv_at hl 0 rfl) ?_
    refine lv_lload_n hx hb d_Bl_workOf_47 rfl (lv_at hl 1 rfl) ?_
    obtain ⟨hg, hf⟩ := gdp hf
    refine lv_ldiv hx hb d_Bl_workOf_48 (nzl_p hg) ?_
    refine lv_ladd hx hb d_Bl_workOf_49 ?_
    refine lv_topl (fun v4 ev => ?_)
    have hf := bn ev hf
    clear ev
    refine lv_lstore_n (lv' := [(3, .long v4), (5, .long v2), (1, .long x1), (7, .int x7)]) hx hb d_Bl_workOf_50 rfl hl (by decide) rfl (fun ls hl => ?_)
    refine lv_lload hx hb d_Bl_workOf_51 (lv_at hl 1 rfl) ?_
    refine lv_lload_n hx hb d_Bl_workOf_53 rfl (lv_at hl 2 rfl) ?_
    obtain ⟨hg, hf⟩ := gdp hf
    refine lv_lrem hx hb d_Bl_workOf_54 (nzl_p hg) ?_
    refine lv_topl (fun v5 ev => ?_)
    have hf := bn ev hf
    clear ev
    refine lv_lstore (lv' := [(5, .long v5), (3, .long v4), (1, .long x1), (7, .int x7)]) hx hb d_Bl_workOf_55 hl (by decide) rfl (fun ls hl => ?_)
    obtain ⟨v6, ev, hf⟩ := bne hf
    refine lv_iinc (v := v6) (lv' := [(7, .int v6), (5, .long v5), (3, .long v4), (1, .long x1)]) hx hb d_Bl_workOf_57 hl (k := 3) rfl (by rw [ev]; rfl) (by decide) rfl (fun ls hl => ?_)
    clear ev
    refine lv_goto (tgt := 27) hx hb d_Bl_workOf_60 (by decide) ?_
    exact hk_27 _ _ _ _ _ hf _ _ _ hP hD hS (lv_sub hl [3, 2, 1, 0] rfl)
def x_Bl_workOf_27 (fu : Nat) : Nat → Int64 → Int64 → Int64 → Int32 → Option (Int64)
  | 0 => fun _ _ _ _ => none
  | n + 1 => xb_Bl_workOf_27 fu (x_Bl_workOf_27 fu n)
theorem w_Bl_workOf_27 {p : Program} {l : Launch} {e : Env} {s : State} {m : MethodId} {args : Array Value} {below : List Frame} {meth : Method} {c : Code} {D : va_G} {cy : Nat → ClassId} {A : Nat → Prop} {ad : Nat → Nat} {fu : Nat} (F : Fx p s m args meth c b_Bl_workOf 8 "CoinKeeper$Block" "workOf" (some .long) D cy ad A) : ∀ n : Nat, I_Bl_workOf_27 p l e s m args below meth c D cy A ad (x_Bl_workOf_27 fu n)
  | 0 => fun _ _ _ _ _ hf => nomatch (show (none : Option (Int64)) = some _ from hf)
  | n + 1 => wb_Bl_workOf_27 F (w_Bl_workOf_27 F n)
def x_Bl_workOf (fu : Nat) (a0 : Int32) : Option (Int64) :=
  bnd ((a0 &&& (8388607 : Int32)).toInt64) fun v1 => if (lg_cmp v1 (0 : Int64)) = 0 then (some ((0 : Int64))) else (bnd ((a0.toUInt32 >>> ((24 : Int32).toUInt32 &&& Int32.toUInt32 31)).toInt32) fun v2 => bnd (v2 - (3 : Int32)) fun v3 => x_Bl_workOf_27 fu fu v1 (0 : Int64) (1 : Int64) v3)
set_option maxHeartbeats 8000000 in
set_option maxRecDepth 100000 in
theorem we_Bl_workOf {p : Program} {l : Launch} {e : Env} {s : State} {m : MethodId} {args : Array Value} {below : List Frame} {meth : Method} {c : Code} {D : va_G} {cy : Nat → ClassId} {A : Nat → Prop} {ad : Nat → Nat} {fu : Nat} (F : Fx p s m args meth c b_Bl_workOf 8 "CoinKeeper$Block" "workOf" (some .long) D cy ad A) : I_Bl_workOf_e p l e s m args below meth c D cy A ad (x_Bl_workOf fu) := by
  obtain ⟨hx, hb, hr, hml, hown, hts, hlocks, hK, hA, hSt, hnm, hex⟩ := id F
  intro a0 res hf H locs ls hP hD hS hl
  unfold x_Bl_workOf at hf
  refine lv_iload_n hx hb d_Bl_workOf_0 rfl (lv_at hl 0 rfl) ?_
  refine lv_ldc (v := 8388607) hx hb hown (hts _ gw_389) d_Bl_workOf_1 ?_
  refine lv_iand hx hb d_Bl_workOf_3 ?_
  refine lv_i2l hx hb d_Bl_workOf_4 rfl ?_
  refine lv_topl (fun v1 ev => ?_)
  have hf := bn ev hf
  clear ev
  refine lv_lstore_n (lv' := [(1, .long v1), (0, .int a0)]) hx hb d_Bl_workOf_5 rfl hl (by decide) rfl (fun ls hl => ?_)
  refine lv_lload_n hx hb d_Bl_workOf_6 rfl (lv_at hl 0 rfl) ?_
  refine lv_lconst (v := 0) hx hb d_Bl_workOf_7 (by decide) ?_
  refine W.lcmp hx hb d_Bl_workOf_8 ?_
  refine lv_if_ne (tgt := 14) hx hb d_Bl_workOf_9 (by decide) (fun cx => ?_) (fun cx => ?_)
  · have hf := ifn cx hf
    refine lv_lconst (v := 0) hx hb d_Bl_workOf_14 (by decide) ?_
    refine lv_lstore_n (lv' := [(3, .long (0 : Int64)), (1, .long v1), (0, .int a0)]) hx hb d_Bl_workOf_15 rfl hl (by decide) rfl (fun ls hl => ?_)
    refine lv_lconst (v := 1) hx hb d_Bl_workOf_16 (by decide) ?_
    refine lv_lstore (lv' := [(5, .long (1 : Int64)), (3, .long (0 : Int64)), (1, .long v1), (0, .int a0)]) hx hb d_Bl_workOf_17 hl (by decide) rfl (fun ls hl => ?_)
    refine lv_iload_n hx hb d_Bl_workOf_19 rfl (lv_at hl 3 rfl) ?_
    refine lv_bipush (v := 24) hx hb d_Bl_workOf_20 (by decide) ?_
    refine lv_iushr hx hb d_Bl_workOf_22 rfl ?_
    refine lv_topi (fun v2 ev => ?_)
    have hf := bn ev hf
    clear ev
    refine lv_iconst (v := 3) hx hb d_Bl_workOf_23 (by decide) ?_
    refine lv_isub hx hb d_Bl_workOf_24 ?_
    refine lv_topi (fun v3 ev => ?_)
    have hf := bn ev hf
    clear ev
    refine lv_istore (lv' := [(7, .int v3), (5, .long (1 : Int64)), (3, .long (0 : Int64)), (1, .long v1), (0, .int a0)]) hx hb d_Bl_workOf_25 hl (by decide) rfl (fun ls hl => ?_)
    exact w_Bl_workOf_27 F fu _ _ _ _ _ hf _ _ _ hP hD hS (lv_sub hl [3, 2, 1, 0] rfl)
  · have hf := ifp cx hf
    refine lv_lconst (v := 0) hx hb d_Bl_workOf_12 (by decide) ?_
    obtain rfl := Option.some.inj hf
    exact q_rl hx hb hr hlocks hK hP hD hS d_Bl_workOf_13
theorem c_Bl_workOf (l : Launch) (D : va_G) (cy : Nat → ClassId) (ad : Nat → Nat) (fu : Nat) (a0 : Int32) (res : Int64) (hf : x_Bl_workOf fu a0 = some res) (sz : Nat) : Met l ({ cls := "CoinKeeper$Block", name := "workOf", desc := "(I)J" } : Jvm.MethodName) (.code ({ cls := "CoinKeeper$Block", name := "workOf", desc := "(I)J" } : Jvm.MethodName) b_Bl_workOf 8 (some .long) :: gw) rm_Bl_workOf (va_Pc [.int a0] (Pr D cy ad [] sz)) (q_Bl_workOf D cy (va_A [] sz) res) 0 0 (va_A [] sz) :=
  q_met (Qc := fun A => q_Bl_workOf D cy A res) (by decide) rfl rfl (Nat.le_of_ble_eq_true rfl) (fun p e s m below meth c ls F hP hD hS hl => we_Bl_workOf (fu := fu) F a0 res hf _ _ _ hP hD hS hl) sz
