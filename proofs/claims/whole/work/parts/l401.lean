abbrev b_Sh_init : ByteArray := prog_11_method_1_code
theorem d_Sh_init_0 : decode b_Sh_init 0 = .ok (.aload_n 0, 1) := by decide +kernel
theorem d_Sh_init_1 : decode b_Sh_init 1 = .ok (.invokespecial 1, 3) := by decide +kernel
theorem d_Sh_init_4 : decode b_Sh_init 4 = .ok (.aload_n 0, 1) := by decide +kernel
theorem d_Sh_init_5 : decode b_Sh_init 5 = .ok (.bipush 8, 2) := by decide +kernel
theorem d_Sh_init_7 : decode b_Sh_init 7 = .ok (.newarray .int, 2) := by decide +kernel
theorem d_Sh_init_9 : decode b_Sh_init 9 = .ok (.putfield 7, 3) := by decide +kernel
theorem d_Sh_init_12 : decode b_Sh_init 12 = .ok (.aload_n 0, 1) := by decide +kernel
theorem d_Sh_init_13 : decode b_Sh_init 13 = .ok (.bipush 64, 2) := by decide +kernel
theorem d_Sh_init_15 : decode b_Sh_init 15 = .ok (.newarray .int, 2) := by decide +kernel
theorem d_Sh_init_17 : decode b_Sh_init 17 = .ok (.putfield 13, 3) := by decide +kernel
theorem d_Sh_init_20 : decode b_Sh_init 20 = .ok (.aload_n 0, 1) := by decide +kernel
theorem d_Sh_init_21 : decode b_Sh_init 21 = .ok (.bipush 64, 2) := by decide +kernel
theorem d_Sh_init_23 : decode b_Sh_init 23 = .ok (.newarray .byte, 2) := by decide +kernel
theorem d_Sh_init_25 : decode b_Sh_init 25 = .ok (.putfield 16, 3) := by decide +kernel
theorem d_Sh_init_28 : decode b_Sh_init 28 = .ok (.return_, 1) := by decide +kernel
abbrev rm_Sh_init : Room := { frames := 1, cells := 3, slots := 136, locals := 20 }
abbrev q_Sh_init (D : va_G) (cy : Nat → ClassId) (A : Nat → Prop) (o : Nat) (i_filled : Int32) (j_length : Int64) (res : Unit) : Array Value → State → Outcome → State → Prop := va_Qv (fun (_ : Nat × Nat × Nat) => True) (fun u t => Po D cy A [(o, .inr (9, [.ref u.1, .ref u.2.1, .ref u.2.2, .int i_filled, .long j_length])), (u.1, .inl (cy 1, 8, .inl (fun _ => 0))), (u.2.1, .inl (cy 1, 64, .inl (fun _ => 0))), (u.2.2, .inl (cy 0, 64, .inl (fun _ => 0)))] t) A
def I_Sh_init_e (p : Program) (l : Launch) (e : Env) (s : State) (m : MethodId) (args : Array Value) (below : List Frame) (meth : Method) (c : Code) (D : va_G) (cy : Nat → ClassId) (A : Nat → Prop) (ad : Nat → Nat) (o : Nat) (i_filled : Int32) (j_length : Int64) (k : Option (Unit)) : Prop :=
  ∀ (res : Unit), k  = some res → ∀ (H : Heap) (locs : List Loc) (ls : Array Slot), va_P D classes [(o, .inr (9, [.null, .null, .null, .int i_filled, .long j_length]))] H → va_D A [(o, .inr (9, [.null, .null, .null, .int i_filled, .long j_length]))] → va_S A s.heap H locs → lv_has ls 1 [(0, .ref o)] → W p l e rm_Sh_init s m args below meth c H locs 0 0 (MQ below (q_Sh_init D cy A o i_filled j_length res) args s 3 136 A) (F0 m 0 ls [])
set_option maxHeartbeats 8000000 in
set_option maxRecDepth 100000 in
theorem we_Sh_init {p : Program} {l : Launch} {e : Env} {s : State} {m : MethodId} {args : Array Value} {below : List Frame} {meth : Method} {c : Code} {D : va_G} {cy : Nat → ClassId} {A : Nat → Prop} {ad : Nat → Nat} {o : Nat} {i_filled : Int32} {j_length : Int64} {fu : Nat} (F : Fx p s m args meth c b_Sh_init 1 "CoinKeeper$Sha256" "<init>" none D cy ad A) : I_Sh_init_e p l e s m args below meth c D cy A ad o i_filled j_length (x_Sh_init fu i_filled j_length) := by
  obtain ⟨hx, hb, hr, hml, hown, hts, hlocks, hK, hA, hSt, hnm, hex⟩ := id F
  intro  res hf H locs ls hP hD hS hl
  unfold x_Sh_init at hf
  refine lv_aload_n hx hb d_Sh_init_0 rfl (lv_at hl 0 rfl) ?_
  refine W.objInit hx hb hown (hts _ gw_43) (hts _ gw_36) (hts _ gw_37) rfl (by rw [hml]; exact hl.1) rfl d_Sh_init_1 (Nat.le_of_ble_eq_true rfl) (Nat.le_of_ble_eq_true rfl) ?_
  refine W.eq (g2 := F0 m 4 ls []) rfl ?_
  refine lv_aload_n hx hb d_Sh_init_4 rfl (lv_at hl 0 rfl) ?_
  refine lv_bipush (v := 8) hx hb d_Sh_init_5 (by decide) ?_
  refine q_newa (ty := .int) (a0 := (8, .inl (fun _ => 0))) hx hb hts gw_61 rfl hK hP hD hS hA 1 rfl (fun _ h => h) (fun _ => rfl) (by decide) (by decide) (by decide) (Nat.le_of_ble_eq_true rfl) (Nat.le_of_ble_eq_true rfl) d_Sh_init_7 (fun w0 H hP hD hS => ?_)
  refine W.widen (k := 1) (n := 8) (Nat.le_of_ble_eq_true rfl) (Nat.le_of_ble_eq_true rfl) ?_
  have hP : va_P D classes [(o, .inr (9, [.null, .null, .null, .int i_filled, .long j_length])), (w0, .inl (cy 1, 8, .inl (fun _ => 0)))] H := hP
  have hD : va_D A [(o, .inr (9, [.null, .null, .null, .int i_filled, .long j_length])), (w0, .inl (cy 1, 8, .inl (fun _ => 0)))] := hD
  refine va_putF (D := D) (ci := 9) (v := .ref w0) (ty := .array .int) (C := "CoinKeeper$Sha256") (T := F_9) (N := 5) hx hb hts i_9 t_9 t_9_ok n_9 hown hK hP hD hS 0 rfl rfl 0 (by decide) (hts _ gw_44) (fun _ h9 => h9) rfl hnm rfl (by decide +kernel) rfl rfl (Nat.le_of_ble_eq_true rfl) d_Sh_init_9 (fun H locs hP hD hS => ?_)
  have hP : va_P D classes [(o, .inr (9, [.ref w0, .null, .null, .int i_filled, .long j_length])), (w0, .inl (cy 1, 8, .inl (fun _ => 0)))] H := hP
  have hD : va_D A [(o, .inr (9, [.ref w0, .null, .null, .int i_filled, .long j_length])), (w0, .inl (cy 1, 8, .inl (fun _ => 0)))] := hD
  refine lv_aload_n hx hb d_Sh_init_12 rfl (lv_at hl 0 rfl) ?_
  refine lv_bipush (v := 64) hx hb d_Sh_init_13 (by decide) ?_
  refine q_newa (ty := .int) (a0 := (64, .inl (fun _ => 0))) hx hb hts gw_61 rfl hK hP hD hS hA 1 rfl (fun _ h => h) (fun _ => rfl) (by decide) (by decide) (by decide) (Nat.le_of_ble_eq_true rfl) (Nat.le_of_ble_eq_true rfl) d_Sh_init_15 (fun w1 H hP hD hS => ?_)
  refine W.widen (k := 2) (n := 72) (Nat.le_of_ble_eq_true rfl) (Nat.le_of_ble_eq_true rfl) ?_
  have hP : va_P D classes [(o, .inr (9, [.ref w0, .null, .null, .int i_filled, .long j_length])), (w0, .inl (cy 1, 8, .inl (fun _ => 0))), (w1, .inl (cy 1, 64, .inl (fun _ => 0)))] H := hP
  have hD : va_D A [(o, .inr (9, [.ref w0, .null, .null, .int i_filled, .long j_length])), (w0, .inl (cy 1, 8, .inl (fun _ => 0))), (w1, .inl (cy 1, 64, .inl (fun _ => 0)))] := hD
  refine va_putF (D := D) (ci := 9) (v := .ref w1) (ty := .array .int) (C := "CoinKeeper$Sha256") (T := F_9) (N := 5) hx hb hts i_9 t_9 t_9_ok n_9 hown hK hP hD hS 0 rfl rfl 1 (by decide) (hts _ gw_45) (fun _ h9 => h9) rfl hnm rfl (by decide +kernel) rfl rfl (Nat.le_of_ble_eq_true rfl) d_Sh_init_17 (fun H locs hP hD hS => ?_)
  have hP : va_P D classes [(o, .inr (9, [.ref w0, .ref w1, .null, .int i_filled, .long j_length])), (w0, .inl (cy 1, 8, .inl (fun _ => 0))), (w1, .inl (cy 1, 64, .inl (fun _ => 0)))] H := hP
  have hD : va_D A [(o, .inr (9, [.ref w0, .ref w1, .null, .int i_filled, .long j_length])), (w0, .inl (cy 1, 8, .inl (fun _ => 0))), (w1, .inl (cy 1, 64, .inl (fun _ => 0)))] := hD
  refine lv_aload_n hx hb d_Sh_init_20 rfl (lv_at hl 0 rfl) ?_
  refine lv_bipush (v := 64) hx hb d_Sh_init_21 (by decide) ?_
  refine q_newa (ty := .byte) (a0 := (64, .inl (fun _ => 0))) hx hb hts gw_60 rfl hK hP hD hS hA 0 rfl (fun _ h => h) (fun _ => rfl) (by decide) (by decide) (by decide) (Nat.le_of_ble_eq_true rfl) (Nat.le_of_ble_eq_true rfl) d_Sh_init_23 (fun w2 H hP hD hS => ?_)
  refine W.widen (k := 3) (n := 136) (Nat.le_of_ble_eq_true rfl) (Nat.le_of_ble_eq_true rfl) ?_
  have hP : va_P D classes [(o, .inr (9, [.ref w0, .ref w1, .null, .int i_filled, .long j_length])), (w0, .inl (cy 1, 8, .inl (fun _ => 0))), (w1, .inl (cy 1, 64, .inl (fun _ => 0))), (w2, .inl (cy 0, 64, .inl (fun _ => 0)))] H := hP
  have hD : va_D A [(o, .inr (9, [.ref w0, .ref w1, .null, .int i_filled, .long j_length])), (w0, .inl (cy 1, 8, .inl (fun _ => 0))), (w1, .inl (cy 1, 64, .inl (fun _ => 0))), (w2, .inl (cy 0, 64, .inl (fun _ => 0)))] := hD
  refine va_putF (D := D) (ci := 9) (v := .ref w2) (ty := .array .byte) (C := "CoinKeeper$Sha256") (T := F_9) (N := 5) hx hb hts i_9 t_9 t_9_ok n_9 hown hK hP hD hS 0 rfl rfl 2 (by decide) (hts _ gw_46) (fun _ h9 => h9) rfl hnm rfl (by decide +kernel) rfl rfl (Nat.le_of_ble_eq_true rfl) d_Sh_init_25 (fun H locs hP hD hS => ?_)
  have hP : va_P D classes [(o, .inr (9, [.ref w0, .ref w1, .ref w2, .int i_filled, .long j_length])), (w0, .inl (cy 1, 8, .inl (fun _ => 0))), (w1, .inl (cy 1, 64, .inl (fun _ => 0))), (w2, .inl (cy 0, 64, .inl (fun _ => 0)))] H := hP
  have hD : va_D A [(o, .inr (9, [.ref w0, .ref w1, .ref w2, .int i_filled, .long j_length])), (w0, .inl (cy 1, 8, .inl (fun _ => 0))), (w1, .inl (cy 1, 64, .inl (fun _ => 0))), (w2, .inl (cy 0, 64, .inl (fun _ => 0)))] := hD
  obtain rfl := Option.some.inj hf
  exact q_rvS (u := (w0, w1, w2)) hx hb hr hlocks hK hP hD hS d_Sh_init_28
theorem c_Sh_init (l : Launch) (D : va_G) (cy : Nat → ClassId) (ad : Nat → Nat) (fu : Nat) (o : Nat) (i_filled : Int32) (j_length : Int64) (res : Unit) (hf : x_Sh_init fu i_filled j_length = some res) (sz : Nat) : Met l ({ cls := "CoinKeeper$Sha256", name := "<init>", desc := "()V" } : Jvm.MethodName) (.code ({ cls := "CoinKeeper$Sha256", name := "<init>", desc := "()V" } : Jvm.MethodName) b_Sh_init 1 none :: gw) rm_Sh_init (va_Pc [.ref o] (Pr D cy ad [(o, .inr (9, [.null, .null, .null, .int i_filled, .long j_length]))] sz)) (q_Sh_init D cy (va_A [(o, .inr (9, [.null, .null, .null, .int i_filled, .long j_length]))] sz) o i_filled j_length res) 3 136 (va_A [(o, .inr (9, [.null, .null, .null, .int i_filled, .long j_length]))] sz) :=
  q_met (Qc := fun A => q_Sh_init D cy A o i_filled j_length res) (by decide) rfl rfl (Nat.le_of_ble_eq_true rfl) (fun p e s m below meth c ls F hP hD hS hl => we_Sh_init (fu := fu) F  res hf _ _ _ hP hD hS hl) sz
abbrev b_Ri_init : ByteArray := prog_9_method_1_code
theorem d_Ri_init_0 : decode b_Ri_init 0 = .ok (.aload_n 0, 1) := by decide +kernel
theorem d_Ri_init_1 : decode b_Ri_init 1 = .ok (.invokespecial 1, 3) := by decide +kernel
theorem d_Ri_init_4 : decode b_Ri_init 4 = .ok (.aload_n 0, 1) := by decide +kernel
theorem d_Ri_init_5 : decode b_Ri_init 5 = .ok (.iconst 5, 1) := by decide +kernel
theorem d_Ri_init_6 : decode b_Ri_init 6 = .ok (.newarray .int, 2) := by decide +kernel
theorem d_Ri_init_8 : decode b_Ri_init 8 = .ok (.putfield 7, 3) := by decide +kernel
theorem d_Ri_init_11 : decode b_Ri_init 11 = .ok (.aload_n 0, 1) := by decide +kernel
theorem d_Ri_init_12 : decode b_Ri_init 12 = .ok (.iconst 5, 1) := by decide +kernel
theorem d_Ri_init_13 : decode b_Ri_init 13 = .ok (.newarray .int, 2) := by decide +kernel
theorem d_Ri_init_15 : decode b_Ri_init 15 = .ok (.putfield 13, 3) := by decide +kernel
theorem d_Ri_init_18 : decode b_Ri_init 18 = .ok (.aload_n 0, 1) := by decide +kernel
theorem d_Ri_init_19 : decode b_Ri_init 19 = .ok (.iconst 5, 1) := by decide +kernel
theorem d_Ri_init_20 : decode b_Ri_init 20 = .ok (.newarray .int, 2) := by decide +kernel
theorem d_Ri_init_22 : decode b_Ri_init 22 = .ok (.putfield 16, 3) := by decide +kernel
theorem d_Ri_init_25 : decode b_Ri_init 25 = .ok (.aload_n 0, 1) := by decide +kernel
theorem d_Ri_init_26 : decode b_Ri_init 26 = .ok (.bipush 16, 2) := by decide +kernel
theorem d_Ri_init_28 : decode b_Ri_init 28 = .ok (.newarray .int, 2) := by decide +kernel
theorem d_Ri_init_30 : decode b_Ri_init 30 = .ok (.putfield 19, 3) := by decide +kernel
theorem d_Ri_init_33 : decode b_Ri_init 33 = .ok (.return_, 1) := by decide +kernel
abbrev rm_Ri_init : Room := { frames := 1, cells := 4, slots := 31, locals := 20 }
abbrev q_Ri_init (D : va_G) (cy : Nat → ClassId) (A : Nat → Prop) (o : Nat) (res : Unit) : Array Value → State → Outcome → State → Prop := va_Qv (fun (_ : Nat × Nat × Nat × Nat) => True) (fun u t => Po D cy A [(o, .inr (8, [.ref u.1, .ref u.2.1, .ref u.2.2.1, .ref u.2.2.2])), (u.1, .inl (cy 1, 5, .inl (fun _ => 0))), (u.2.1, .inl (cy 1, 5, .inl (fun _ => 0))), (u.2.2.1, .inl (cy 1, 5, .inl (fun _ => 0))), (u.2.2.2, .inl (cy 1, 16, .inl (fun _ => 0)))] t) A
def I_Ri_init_e (p : Program) (l : Launch) (e : Env) (s : State) (m : MethodId) (args : Array Value) (below : List Frame) (meth : Method) (c : Code) (D : va_G) (cy : Nat → ClassId) (A : Nat → Prop) (ad : Nat → Nat) (o : Nat) (k : Option (Unit)) : Prop :=
  ∀ (res : Unit), k  = some res → ∀ (H : Heap) (locs : List Loc) (ls : Array Slot), va_P D classes [(o, .inr (8, [.null, .null, .null, .null]))] H → va_D A [(o, .inr (8, [.null, .null, .null, .null]))] → va_S A s.heap H locs → lv_has ls 1 [(0, .ref o)] → W p l e rm_Ri_init s m args below meth c H locs 0 0 (MQ below (q_Ri_init D cy A o res) args s 4 31 A) (F0 m 0 ls [])
set_option maxHeartbeats 8000000 in
set_option maxRecDepth 100000 in
theorem we_Ri_init {p : Program} {l : Launch} {e : Env} {s : State} {m : MethodId} {args : Array Value} {below : List Frame} {meth : Method} {c : Code} {D : va_G} {cy : Nat → ClassId} {A : Nat → Prop} {ad : Nat → Nat} {o : Nat} {fu : Nat} (F : Fx p s m args meth c b_Ri_init 1 "CoinKeeper$Ripemd160" "<init>" none D cy ad A) : I_Ri_init_e p l e s m args below meth c D cy A ad o (x_Ri_init fu) := by
  obtain ⟨hx, hb, hr, hml, hown, hts, hlocks, hK, hA, hSt, hnm, hex⟩ := id F
  intro  res hf H locs ls hP hD hS hl
  unfold x_Ri_init at hf
  refine lv_aload_n hx hb d_Ri_init_0 rfl (lv_at hl 0 rfl) ?_
  refine W.objInit hx hb hown (hts _ gw_190) (hts _ gw_36) (hts _ gw_37) rfl (by rw [hml]; exact hl.1) rfl d_Ri_init_1 (Nat.le_of_ble_eq_true rfl) (Nat.le_of_ble_eq_true rfl) ?_
  refine W.eq (g2 := F0 m 4 ls []) rfl ?_
  refine lv_aload_n hx hb d_Ri_init_4 rfl (lv_at hl 0 rfl) ?_
  refine lv_iconst (v := 5) hx hb d_Ri_init_5 (by decide) ?_
  refine q_newa (ty := .int) (a0 := (5, .inl (fun _ => 0))) hx hb hts gw_61 rfl hK hP hD hS hA 1 rfl (fun _ h => h) (fun _ => rfl) (by decide) (by decide) (by decide) (Nat.le_of_ble_eq_true rfl) (Nat.le_of_ble_eq_true rfl) d_Ri_init_6 (fun w0 H hP hD hS => ?_)
  refine W.widen (k := 1) (n := 5) (Nat.le_of_ble_eq_true rfl) (Nat.le_of_ble_eq_true rfl) ?_
  have hP : va_P D classes [(o, .inr (8, [.null, .null, .null, .null])), (w0, .inl (cy 1, 5, .inl (fun _ => 0)))] H := hP
  have hD : va_D A [(o, .inr (8, [.null, .null, .null, .null])), (w0, .inl (cy 1, 5, .inl (fun _ => 0)))] := hD
  refine va_putF (D := D) (ci := 8) (v := .ref w0) (ty := .array .int) (C := "CoinKeeper$Ripemd160") (T := F_8) (N := 4) hx hb hts i_8 t_8 t_8_ok n_8 hown hK hP hD hS 0 rfl rfl 0 (by decide) (hts _ gw_191) (fun _ h9 => h9) rfl hnm rfl (by decide +kernel) rfl rfl (Nat.le_of_ble_eq_true rfl) d_Ri_init_8 (fun H locs hP hD hS => ?_)
  have hP : va_P D classes [(o, .inr (8, [.ref w0, .null, .null, .null])), (w0, .inl (cy 1, 5, .inl (fun _ => 0)))] H := hP
  have hD : va_D A [(o, .inr (8, [.ref w0, .null, .null, .null])), (w0, .inl (cy 1, 5, .inl (fun _ => 0)))] := hD
  refine lv_aload_n hx hb d_Ri_init_11 rfl (lv_at hl 0 rfl) ?_
  refine lv_iconst (v := 5) hx hb d_Ri_init_12 (by decide) ?_
  refine q_newa (ty := .int) (a0 := (5, .inl (fun _ => 0))) hx hb hts gw_61 rfl hK hP hD hS hA 1 rfl (fun _ h => h) (fun _ => rfl) (by decide) (by decide) (by decide) (Nat.le_of_ble_eq_true rfl) (Nat.le_of_ble_eq_true rfl) d_Ri_init_13 (fun w1 H hP hD hS => ?_)
  refine W.widen (k := 2) (n := 10) (Nat.le_of_ble_eq_true rfl) (Nat.le_of_ble_eq_true rfl) ?_
  have hP : va_P D classes [(o, .inr (8, [.ref w0, .null, .null, .null])), (w0, .inl (cy 1, 5, .inl (fun _ => 0))), (w1, .inl (cy 1, 5, .inl (fun _ => 0)))] H := hP
  have hD : va_D A [(o, .inr (8, [.ref w0, .null, .null, .null])), (w0, .inl (cy 1, 5, .inl (fun _ => 0))), (w1, .inl (cy 1, 5, .inl (fun _ => 0)))] := hD
  refine va_putF (D := D) (ci := 8) (v := .ref w1) (ty := .array .int) (C := "CoinKeeper$Ripemd160") (T := F_8) (N := 4) hx hb hts i_8 t_8 t_8_ok n_8 hown hK hP hD hS 0 rfl rfl 1 (by decide) (hts _ gw_192) (fun _ h9 => h9) rfl hnm rfl (by decide +kernel) rfl rfl (Nat.le_of_ble_eq_true rfl) d_Ri_init_15 (fun H locs hP hD hS => ?_)
  have hP : va_P D classes [(o, .inr (8, [.ref w0, .ref w1, .null, .null])), (w0, .inl (cy 1, 5, .inl (fun _ => 0))), (w1, .inl (cy 1, 5, .inl (fun _ => 0)))] H := hP
  have hD : va_D A [(o, .inr (8, [.ref w0, .ref w1, .null, .null])), (w0, .inl (cy 1, 5, .inl (fun _ => 0))), (w1, .inl (cy 1, 5, .inl (fun _ => 0)))] := hD
  refine lv_aload_n hx hb d_Ri_init_18 rfl (lv_at hl 0 rfl) ?_
  refine lv_iconst (v := 5) hx hb d_Ri_init_19 (by decide) ?_
  refine q_newa (ty := .int) (a0 := (5, .inl (fun _ => 0))) hx hb hts gw_61 rfl hK hP hD hS hA 1 rfl (fun _ h => h) (fun _ => rfl) (by decide) (by decide) (by decide) (Nat.le_of_ble_eq_true rfl) (Nat.le_of_ble_eq_true rfl) d_Ri_init_20 (fun w2 H hP hD hS => ?_)
  refine W.widen (k := 3) (n := 15) (Nat.le_of_ble_eq_true rfl) (Nat.le_of_ble_eq_true rfl) ?_
  have hP : va_P D classes [(o, .inr (8, [.ref w0, .ref w1, .null, .null])), (w0, .inl (cy 1, 5, .inl (fun _ => 0))), (w1, .inl (cy 1, 5, .inl (fun _ => 0))), (w2, .inl (cy 1, 5, .inl (fun _ => 0)))] H := hP
  have hD : va_D A [(o, .inr (8, [.ref w0, .ref w1, .null, .null])), (w0, .inl (cy 1, 5, .inl (fun _ => 0))), (w1, .inl (cy 1, 5, .inl (fun _ => 0))), (w2, .inl (cy 1, 5, .inl (fun _ => 0)))] := hD
  refine va_putF (D := D) (ci := 8) (v := .ref w2) (ty := .array .int) (C := "CoinKeeper$Ripemd160") (T := F_8) (N := 4) hx hb hts i_8 t_8 t_8_ok n_8 hown hK hP hD hS 0 rfl rfl 2 (by decide) (hts _ gw_193) (fun _ h9 => h9) rfl hnm rfl (by decide +kernel) rfl rfl (Nat.le_of_ble_eq_true rfl) d_Ri_init_22 (fun H locs hP hD hS => ?_)
  have hP : va_P D classes [(o, .inr (8, [.ref w0, .ref w1, .ref w2, .null])), (w0, .inl (cy 1, 5, .inl (fun _ => 0))), (w1, .inl (cy 1, 5, .inl (fun _ => 0))), (w2, .inl (cy 1, 5, .inl (fun _ => 0)))] H := hP
  have hD : va_D A [(o, .inr (8, [.ref w0, .ref w1, .ref w2, .null])), (w0, .inl (cy 1, 5, .inl (fun _ => 0))), (w1, .inl (cy 1, 5, .inl (fun _ => 0))), (w2, .inl (cy 1, 5, .inl (fun _ => 0)))] := hD
  refine lv_aload_n hx hb d_Ri_init_25 rfl (lv_at hl 0 rfl) ?_
  refine lv_bipush (v := 16) hx hb d_Ri_init_26 (by decide) ?_
  refine q_newa (ty := .int) (a0 := (16, .inl (fun _ => 0))) hx hb hts gw_61 rfl hK hP hD hS hA 1 rfl (fun _ h => h) (fun _ => rfl) (by decide) (by decide) (by decide) (Nat.le_of_ble_eq_true rfl) (Nat.le_of_ble_eq_true rfl) d_Ri_init_28 (fun w3 H hP hD hS => ?_)
  refine W.widen (k := 4) (n := 31) (Nat.le_of_ble_eq_true rfl) (Nat.le_of_ble_eq_true rfl) ?_
  have hP : va_P D classes [(o, .inr (8, [.ref w0, .ref w1, .ref w2, .null])), (w0, .inl (cy 1, 5, .inl (fun _ => 0))), (w1, .inl (cy 1, 5, .inl (fun _ => 0))), (w2, .inl (cy 1, 5, .inl (fun _ => 0))), (w3, .inl (cy 1, 16, .inl (fun _ => 0)))] H := hP
  have hD : va_D A [(o, .inr (8, [.ref w0, .ref w1, .ref w2, .null])), (w0, .inl (cy 1, 5, .inl (fun _ => 0))), (w1, .inl (cy 1, 5, .inl (fun _ => 0))), (w2, .inl (cy 1, 5, .inl (fun _ => 0))), (w3, .inl (cy 1, 16, .inl (fun _ => 0)))] := hD
  refine va_putF (D := D) (ci := 8) (v := .ref w3) (ty := .array .int) (C := "CoinKeeper$Ripemd160") (T := F_8) (N := 4) hx hb hts i_8 t_8 t_8_ok n_8 hown hK hP hD hS 0 rfl rfl 3 (by decide) (hts _ gw_194) (fun _ h9 => h9) rfl hnm rfl (by decide +kernel) rfl rfl (Nat.le_of_ble_eq_true rfl) d_Ri_init_30 (fun H locs hP hD hS => ?_)
  have hP : va_P D classes [(o, .inr (8, [.ref w0, .ref w1, .ref w2, .ref w3])), (w0, .inl (cy 1, 5, .inl (fun _ => 0))), (w1, .inl (cy 1, 5, .inl (fun _ => 0))), (w2, .inl (cy 1, 5, .inl (fun _ => 0))), (w3, .inl (cy 1, 16, .inl (fun _ => 0)))] H := hP
  have hD : va_D A [(o, .inr (8, [.ref w0, .ref w1, .ref w2, .ref w3])), (w0, .inl (cy 1, 5, .inl (fun _ => 0))), (w1, .inl (cy 1, 5, .inl (fun _ => 0))), (w2, .inl (cy 1, 5, .inl (fun _ => 0))), (w3, .inl (cy 1, 16, .inl (fun _ => 0)))] := hD
  obtain rfl := Option.some.inj hf
  exact q_rvS (u := (w0, w1, w2, w3)) hx hb hr hlocks hK hP hD hS d_Ri_init_33
theorem c_Ri_init (l : Launch) (D : va_G) (cy : Nat → ClassId) (ad : Nat → Nat) (fu : Nat) (o : Nat) (res : Unit) (hf : x_Ri_init fu = some res) (sz : Nat) : Met l ({ cls := "CoinKeeper$Ripemd160", name := "<init>", desc := "()V" } : Jvm.MethodName) (.code ({ cls := "CoinKeeper$Ripemd160", name := "<init>", desc := "()V" } : Jvm.MethodName) b_Ri_init 1 none :: gw) rm_Ri_init (va_Pc [.ref o] (Pr D cy ad [(o, .inr (8, [.null, .null, .null, .null]))] sz)) (q_Ri_init D cy (va_A [(o, .inr (8, [.null, .null, .null, .null]))] sz) o res) 4 31 (va_A [(o, .inr (8, [.null, .null, .null, .null]))] sz) :=
  q_met (Qc := fun A => q_Ri_init D cy A o res) (by decide) rfl rfl (Nat.le_of_ble_eq_true rfl) (fun p e s m below meth c ls F hP hD hS hl => we_Ri_init (fu := fu) F  res hf _ _ _ hP hD hS hl) sz
abbrev b_Po_init : ByteArray := prog_8_method_1_code
theorem d_Po_init_0 : decode b_Po_init 0 = .ok (.aload_n 0, 1) := by decide +kernel
theorem d_Po_init_1 : decode b_Po_init 1 = .ok (.invokespecial 1, 3) := by decide +kernel
theorem d_Po_init_4 : decode b_Po_init 4 = .ok (.aload_n 0, 1) := by decide +kernel
theorem d_Po_init_5 : decode b_Po_init 5 = .ok (.bipush 10, 2) := by decide +kernel
theorem d_Po_init_7 : decode b_Po_init 7 = .ok (.newarray .long, 2) := by decide +kernel
theorem d_Po_init_9 : decode b_Po_init 9 = .ok (.putfield 9, 3) := by decide +kernel
theorem d_Po_init_12 : decode b_Po_init 12 = .ok (.aload_n 0, 1) := by decide +kernel
theorem d_Po_init_13 : decode b_Po_init 13 = .ok (.bipush 10, 2) := by decide +kernel
theorem d_Po_init_15 : decode b_Po_init 15 = .ok (.newarray .long, 2) := by decide +kernel
theorem d_Po_init_17 : decode b_Po_init 17 = .ok (.putfield 15, 3) := by decide +kernel
theorem d_Po_init_20 : decode b_Po_init 20 = .ok (.aload_n 0, 1) := by decide +kernel
theorem d_Po_init_21 : decode b_Po_init 21 = .ok (.bipush 10, 2) := by decide +kernel
theorem d_Po_init_23 : decode b_Po_init 23 = .ok (.newarray .long, 2) := by decide +kernel
theorem d_Po_init_25 : decode b_Po_init 25 = .ok (.putfield 18, 3) := by decide +kernel
theorem d_Po_init_28 : decode b_Po_init 28 = .ok (.return_, 1) := by decide +kernel
abbrev rm_Po_init : Room := { frames := 1, cells := 3, slots := 30, locals := 20 }
abbrev q_Po_init (D : va_G) (cy : Nat → ClassId) (A : Nat → Prop) (o : Nat) (i_isNone : Int32) (i_isPlain : Int32) (res : Unit) : Array Value → State → Outcome → State → Prop := va_Qv (fun (_ : Nat × Nat × Nat) => True) (fun u t => Po D cy A [(o, .inr (7, [.ref u.1, .ref u.2.1, .ref u.2.2, .int i_isNone, .int i_isPlain])), (u.1, .inl (cy 2, 10, .inr (.inl (fun _ => 0)))), (u.2.1, .inl (cy 2, 10, .inr (.inl (fun _ => 0)))), (u.2.2, .inl (cy 2, 10, .inr (.inl (fun _ => 0))))] t) A
def I_Po_init_e (p : Program) (l : Launch) (e : Env) (s : State) (m : MethodId) (args : Array Value) (below : List Frame) (meth : Method) (c : Code) (D : va_G) (cy : Nat → ClassId) (A : Nat → Prop) (ad : Nat → Nat) (o : Nat) (i_isNone : Int32) (i_isPlain : Int32) (k : Option (Unit)) : Prop :=
  ∀ (res : Unit), k  = some res → ∀ (H : Heap) (locs : List Loc) (ls : Array Slot), va_P D classes [(o, .inr (7, [.null, .null, .null, .int i_isNone, .int i_isPlain]))] H → va_D A [(o, .inr (7, [.null, .null, .null, .int i_isNone, .int i_isPlain]))] → va_S A s.heap H locs → lv_has ls 1 [(0, .ref o)] → W p l e rm_Po_init s m args below meth c H locs 0 0 (MQ below (q_Po_init D cy A o i_isNone i_isPlain res) args s 3 30 A) (F0 m 0 ls [])
set_option maxHeartbeats 8000000 in
set_option maxRecDepth 100000 in
theorem we_Po_init {p : Program} {l : Launch} {e : Env} {s : State} {m : MethodId} {args : Array Value} {below : List Frame} {meth : Method} {c : Code} {D : va_G} {cy : Nat → ClassId} {A : Nat → Prop} {ad : Nat → Nat} {o : Nat} {i_isNone : Int32} {i_isPlain : Int32} {fu : Nat} (F : Fx p s m args meth c b_Po_init 1 "CoinKeeper$Point" "<init>" none D cy ad A) : I_Po_init_e p l e s m args below meth c D cy A ad o i_isNone i_isPlain (x_Po_init fu i_isNone i_isPlain) := by
  obtain ⟨hx, hb, hr, hml, hown, hts, hlocks, hK, hA, hSt, hnm, hex⟩ := id F
  intro  res hf H locs ls hP hD hS hl
  unfold x_Po_init at hf
  refine lv_aload_n hx hb d_Po_init_0 rfl (lv_at hl 0 rfl) ?_
  refine W.objInit hx hb hown (hts _ gw_106) (hts _ gw_36) (hts _ gw_37) rfl (by rw [hml]; exact hl.1) rfl d_Po_init_1 (Nat.le_of_ble_eq_true rfl) (Nat.le_of_ble_eq_true rfl) ?_
  refine W.eq (g2 := F0 m 4 ls []) rfl ?_
  refine lv_aload_n hx hb d_Po_init_4 rfl (lv_at hl 0 rfl) ?_
  refine lv_bipush (v := 10) hx hb d_Po_init_5 (by decide) ?_
  refine q_newa (ty := .long) (a0 := (10, .inr (.inl (fun _ => 0)))) hx hb hts gw_98 rfl hK hP hD hS hA 2 rfl (fun _ h => h) (fun _ => rfl) (by decide) (by decide) (by decide) (Nat.le_of_ble_eq_true rfl) (Nat.le_of_ble_eq_true rfl) d_Po_init_7 (fun w0 H hP hD hS => ?_)
  refine W.widen (k := 1) (n := 10) (Nat.le_of_ble_eq_true rfl) (Nat.le_of_ble_eq_true rfl) ?_
  have hP : va_P D classes [(o, .inr (7, [.null, .null, .null, .int i_isNone, .int i_isPlain])), (w0, .inl (cy 2, 10, .inr (.inl (fun _ => 0))))] H := hP
  have hD : va_D A [(o, .inr (7, [.null, .null, .null, .int i_isNone, .int i_isPlain])), (w0, .inl (cy 2, 10, .inr (.inl (fun _ => 0))))] := hD
  refine va_putF (D := D) (ci := 7) (v := .ref w0) (ty := .array .long) (C := "CoinKeeper$Point") (T := F_7) (N := 5) hx hb hts i_7 t_7 t_7_ok n_7 hown hK hP hD hS 0 rfl rfl 0 (by decide) (hts _ gw_107) (fun _ h9 => h9) rfl hnm rfl (by decide +kernel) rfl rfl (Nat.le_of_ble_eq_true rfl) d_Po_init_9 (fun H locs hP hD hS => ?_)
  have hP : va_P D classes [(o, .inr (7, [.ref w0, .null, .null, .int i_isNone, .int i_isPlain])), (w0, .inl (cy 2, 10, .inr (.inl (fun _ => 0))))] H := hP
  have hD : va_D A [(o, .inr (7, [.ref w0, .null, .null, .int i_isNone, .int i_isPlain])), (w0, .inl (cy 2, 10, .inr (.inl (fun _ => 0))))] := hD
  refine lv_aload_n hx hb d_Po_init_12 rfl (lv_at hl 0 rfl) ?_
  refine lv_bipush (v := 10) hx hb d_Po_init_13 (by decide) ?_
  refine q_newa (ty := .long) (a0 := (10, .inr (.inl (fun _ => 0)))) hx hb hts gw_98 rfl hK hP hD hS hA 2 rfl (fun _ h => h) (fun _ => rfl) (by decide) (by decide) (by decide) (Nat.le_of_ble_eq_true rfl) (Nat.le_of_ble_eq_true rfl) d_Po_init_15 (fun w1 H hP hD hS => ?_)
  refine W.widen (k := 2) (n := 20) (Nat.le_of_ble_eq_true rfl) (Nat.le_of_ble_eq_true rfl) ?_
  have hP : va_P D classes [(o, .inr (7, [.ref w0, .null, .null, .int i_isNone, .int i_isPlain])), (w0, .inl (cy 2, 10, .inr (.inl (fun _ => 0)))), (w1, .inl (cy 2, 10, .inr (.inl (fun _ => 0))))] H := hP
  have hD : va_D A [(o, .inr (7, [.ref w0, .null, .null, .int i_isNone, .int i_isPlain])), (w0, .inl (cy 2, 10, .inr (.inl (fun _ => 0)))), (w1, .inl (cy 2, 10, .inr (.inl (fun _ => 0))))] := hD
  refine va_putF (D := D) (ci := 7) (v := .ref w1) (ty := .array .long) (C := "CoinKeeper$Point") (T := F_7) (N := 5) hx hb hts i_7 t_7 t_7_ok n_7 hown hK hP hD hS 0 rfl rfl 1 (by decide) (hts _ gw_109) (fun _ h9 => h9) rfl hnm rfl (by decide +kernel) rfl rfl (Nat.le_of_ble_eq_true rfl) d_Po_init_17 (fun H locs hP hD hS => ?_)
  have hP : va_P D classes [(o, .inr (7, [.ref w0, .ref w1, .null, .int i_isNone, .int i_isPlain])), (w0, .inl (cy 2, 10, .inr (.inl (fun _ => 0)))), (w1, .inl (cy 2, 10, .inr (.inl (fun _ => 0))))] H := hP
  have hD : va_D A [(o, .inr (7, [.ref w0, .ref w1, .null, .int i_isNone, .int i_isPlain])), (w0, .inl (cy 2, 10, .inr (.inl (fun _ => 0)))), (w1, .inl (cy 2, 10, .inr (.inl (fun _ => 0))))] := hD
  refine lv_aload_n hx hb d_Po_init_20 rfl (lv_at hl 0 rfl) ?_
  refine lv_bipush (v := 10) hx hb d_Po_init_21 (by decide) ?_
  refine q_newa (ty := .long) (a0 := (10, .inr (.inl (fun _ => 0)))) hx hb hts gw_98 rfl hK hP hD hS hA 2 rfl (fun _ h => h) (fun _ => rfl) (by decide) (by decide) (by decide) (Nat.le_of_ble_eq_true rfl) (Nat.le_of_ble_eq_true rfl) d_Po_init_23 (fun w2 H hP hD hS => ?_)
  refine W.widen (k := 3) (n := 30) (Nat.le_of_ble_eq_true rfl) (Nat.le_of_ble_eq_true rfl) ?_
  have hP : va_P D classes [(o, .inr (7, [.ref w0, .ref w1, .null, .int i_isNone, .int i_isPlain])), (w0, .inl (cy 2, 10, .inr (.inl (fun _ => 0)))), (w1, .inl (cy 2, 10, .inr (.inl (fun _ => 0)))), (w2, .inl (cy 2, 10, .inr (.inl (fun _ => 0))))] H := hP
  have hD : va_D A [(o, .inr (7, [.ref w0, .ref w1, .null, .int i_isNone, .int i_isPlain])), (w0, .inl (cy 2, 10, .inr (.inl (fun _ => 0)))), (w1, .inl (cy 2, 10, .inr (.inl (fun _ => 0)))), (w2, .inl (cy 2, 10, .inr (.inl (fun _ => 0))))] := hD
  refine va_putF (D := D) (ci := 7) (v := .ref w2) (ty := .array .long) (C := "CoinKeeper$Point") (T := F_7) (N := 5) hx hb hts i_7 t_7 t_7_ok n_7 hown hK hP hD hS 0 rfl rfl 2 (by decide) (hts _ gw_111) (fun _ h9 => h9) rfl hnm rfl (by decide +kernel) rfl rfl (Nat.le_of_ble_eq_true rfl) d_Po_init_25 (fun H locs hP hD hS => ?_)
  have hP : va_P D classes [(o, .inr (7, [.ref w0, .ref w1, .ref w2, .int i_isNone, .int i_isPlain])), (w0, .inl (cy 2, 10, .inr (.inl (fun _ => 0)))), (w1, .inl (cy 2, 10, .inr (.inl (fun _ => 0)))), (w2, .inl (cy 2, 10, .inr (.inl (fun _ => 0))))] H := hP
  have hD : va_D A [(o, .inr (7, [.ref w0, .ref w1, .ref w2, .int i_isNone, .int i_isPlain])), (w0, .inl (cy 2, 10, .inr (.inl (fun _ => 0)))), (w1, .inl (cy 2, 10, .inr (.inl (fun _ => 0)))), (w2, .inl (cy 2, 10, .inr (.inl (fun _ => 0))))] := hD
  obtain rfl := Option.some.inj hf
  exact q_rvS (u := (w0, w1, w2)) hx hb hr hlocks hK hP hD hS d_Po_init_28
theorem c_Po_init (l : Launch) (D : va_G) (cy : Nat → ClassId) (ad : Nat → Nat) (fu : Nat) (o : Nat) (i_isNone : Int32) (i_isPlain : Int32) (res : Unit) (hf : x_Po_init fu i_isNone i_isPlain = some res) (sz : Nat) : Met l ({ cls := "CoinKeeper$Point", name := "<init>", desc := "()V" } : Jvm.MethodName) (.code ({ cls := "CoinKeeper$Point", name := "<init>", desc := "()V" } : Jvm.MethodName) b_Po_init 1 none :: gw) rm_Po_init (va_Pc [.ref o] (Pr D cy ad [(o, .inr (7, [.null, .null, .null, .int i_isNone, .int i_isPlain]))] sz)) (q_Po_init D cy (va_A [(o, .inr (7, [.null, .null, .null, .int i_isNone, .int i_isPlain]))] sz) o i_isNone i_isPlain res) 3 30 (va_A [(o, .inr (7, [.null, .null, .null, .int i_isNone, .int i_isPlain]))] sz) :=
  q_met (Qc := fun A => q_Po_init D cy A o i_isNone i_isPlain res) (by decide) rfl rfl (Nat.le_of_ble_eq_true rfl) (fun p e s m below meth c ls F hP hD hS hl => we_Po_init (fu := fu) F  res hf _ _ _ hP hD hS hl) sz
abbrev b_La_init : ByteArray := prog_5_method_1_code
theorem d_La_init_0 : decode b_La_init 0 = .ok (.aload_n 0, 1) := by decide +kernel
theorem d_La_init_1 : decode b_La_init 1 = .ok (.invokespecial 5, 3) := by decide +kernel
theorem d_La_init_4 : decode b_La_init 4 = .ok (.aload_n 0, 1) := by decide +kernel
theorem d_La_init_5 : decode b_La_init 5 = .ok (.sipush 301, 3) := by decide +kernel
theorem d_La_init_8 : decode b_La_init 8 = .ok (.newarray .int, 2) := by decide +kernel
theorem d_La_init_10 : decode b_La_init 10 = .ok (.putfield 11, 3) := by decide +kernel
theorem d_La_init_13 : decode b_La_init 13 = .ok (.aload_n 0, 1) := by decide +kernel
theorem d_La_init_14 : decode b_La_init 14 = .ok (.sipush 301, 3) := by decide +kernel
theorem d_La_init_17 : decode b_La_init 17 = .ok (.newarray .int, 2) := by decide +kernel
theorem d_La_init_19 : decode b_La_init 19 = .ok (.putfield 15, 3) := by decide +kernel
theorem d_La_init_22 : decode b_La_init 22 = .ok (.aload_n 0, 1) := by decide +kernel
theorem d_La_init_23 : decode b_La_init 23 = .ok (.sipush 301, 3) := by decide +kernel
theorem d_La_init_26 : decode b_La_init 26 = .ok (.newarray .int, 2) := by decide +kernel
theorem d_La_init_28 : decode b_La_init 28 = .ok (.putfield 18, 3) := by decide +kernel
theorem d_La_init_31 : decode b_La_init 31 = .ok (.aload_n 0, 1) := by decide +kernel
theorem d_La_init_32 : decode b_La_init 32 = .ok (.bipush 73, 2) := by decide +kernel
theorem d_La_init_34 : decode b_La_init 34 = .ok (.newarray .int, 2) := by decide +kernel
theorem d_La_init_36 : decode b_La_init 36 = .ok (.putfield 21, 3) := by decide +kernel
theorem d_La_init_39 : decode b_La_init 39 = .ok (.aload_n 0, 1) := by decide +kernel
theorem d_La_init_40 : decode b_La_init 40 = .ok (.bipush 73, 2) := by decide +kernel
theorem d_La_init_42 : decode b_La_init 42 = .ok (.newarray .int, 2) := by decide +kernel
theorem d_La_init_44 : decode b_La_init 44 = .ok (.putfield 24, 3) := by decide +kernel
theorem d_La_init_47 : decode b_La_init 47 = .ok (.aload_n 0, 1) := by decide +kernel
theorem d_La_init_48 : decode b_La_init 48 = .ok (.bipush 73, 2) := by decide +kernel
theorem d_La_init_50 : decode b_La_init 50 = .ok (.newarray .int, 2) := by decide +kernel
theorem d_La_init_52 : decode b_La_init 52 = .ok (.putfield 27, 3) := by decide +kernel
theorem d_La_init_55 : decode b_La_init 55 = .ok (.aload_n 0, 1) := by decide +kernel
theorem d_La_init_56 : decode b_La_init 56 = .ok (.sipush 333, 3) := by decide +kernel
theorem d_La_init_59 : decode b_La_init 59 = .ok (.newarray .int, 2) := by decide +kernel
theorem d_La_init_61 : decode b_La_init 61 = .ok (.putfield 30, 3) := by decide +kernel
theorem d_La_init_64 : decode b_La_init 64 = .ok (.aload_n 0, 1) := by decide +kernel
theorem d_La_init_65 : decode b_La_init 65 = .ok (.sipush 333, 3) := by decide +kernel
theorem d_La_init_68 : decode b_La_init 68 = .ok (.newarray .int, 2) := by decide +kernel
theorem d_La_init_70 : decode b_La_init 70 = .ok (.putfield 33, 3) := by decide +kernel
theorem d_La_init_73 : decode b_La_init 73 = .ok (.aload_n 0, 1) := by decide +kernel
theorem d_La_init_74 : decode b_La_init 74 = .ok (.sipush 333, 3) := by decide +kernel
theorem d_La_init_77 : decode b_La_init 77 = .ok (.newarray .int, 2) := by decide +kernel
theorem d_La_init_79 : decode b_La_init 79 = .ok (.putfield 36, 3) := by decide +kernel
theorem d_La_init_82 : decode b_La_init 82 = .ok (.return_, 1) := by decide +kernel
abbrev rm_La_init : Room := { frames := 1, cells := 9, slots := 2121, locals := 20 }
abbrev q_La_init (D : va_G) (cy : Nat → ClassId) (A : Nat → Prop) (o : Nat) (i_txs : Int32) (i_end : Int32) (i_at : Int32) (i_ins : Int32) (i_outs : Int32) (res : Unit) : Array Value → State → Outcome → State → Prop := va_Qv (fun (_ : Nat × Nat × Nat × Nat × Nat × Nat × Nat × Nat × Nat) => True) (fun u t => Po D cy A [(o, .inr (4, [.null, .int i_txs, .ref u.1, .ref u.2.1, .ref u.2.2.1, .ref u.2.2.2.1, .ref u.2.2.2.2.1, .ref u.2.2.2.2.2.1, .ref u.2.2.2.2.2.2.1, .ref u.2.2.2.2.2.2.2.1, .ref u.2.2.2.2.2.2.2.2, .int i_end, .int i_at, .int i_ins, .int i_outs])), (u.1, .inl (cy 1, 301, .inl (fun _ => 0))), (u.2.1, .inl (cy 1, 301, .inl (fun _ => 0))), (u.2.2.1, .inl (cy 1, 301, .inl (fun _ => 0))), (u.2.2.2.1, .inl (cy 1, 73, .inl (fun _ => 0))), (u.2.2.2.2.1, .inl (cy 1, 73, .inl (fun _ => 0))), (u.2.2.2.2.2.1, .inl (cy 1, 73, .inl (fun _ => 0))), (u.2.2.2.2.2.2.1, .inl (cy 1, 333, .inl (fun _ => 0))), (u.2.2.2.2.2.2.2.1, .inl (cy 1, 333, .inl (fun _ => 0))), (u.2.2.2.2.2.2.2.2, .inl (cy 1, 333, .inl (fun _ => 0)))] t) A
def I_La_init_e (p : Program) (l : Launch) (e : Env) (s : State) (m : MethodId) (args : Array Value) (below : List Frame) (meth : Method) (c : Code) (D : va_G) (cy : Nat → ClassId) (A : Nat → Prop) (ad : Nat → Nat) (o : Nat) (i_txs : Int32) (i_end : Int32) (i_at : Int32) (i_ins : Int32) (i_outs : Int32) (k : Option (Unit)) : Prop :=
  ∀ (res : Unit), k  = some res → ∀ (H : Heap) (locs : List Loc) (ls : Array Slot), va_P D classes [(o, .inr (4, [.null, .int i_txs, .null, .null, .null, .null, .null, .null, .null, .null, .null, .int i_end, .int i_at, .int i_ins, .int i_outs]))] H → va_D A [(o, .inr (4, [.null, .int i_txs, .null, .null, .null, .null, .null, .null, .null, .null, .null, .int i_end, .int i_at, .int i_ins, .int i_outs]))] → va_S A s.heap H locs → lv_has ls 1 [(0, .ref o)] → W p l e rm_La_init s m args below meth c H locs 0 0 (MQ below (q_La_init D cy A o i_txs i_end i_at i_ins i_outs res) args s 9 2121 A) (F0 m 0 ls [])
set_option maxHeartbeats 8000000 in
set_option maxRecDepth 100000 in
theorem we_La_init {p : Program} {l : Launch} {e : Env} {s : State} {m : MethodId} {args : Array Value} {below : List Frame} {meth : Method} {c : Code} {D : va_G} {cy : Nat → ClassId} {A : Nat → Prop} {ad : Nat → Nat} {o : Nat} {i_txs : Int32} {i_end : Int32} {i_at : Int32} {i_ins : Int32} {i_outs : Int32} {fu : Nat} (F : Fx p s m args meth c b_La_init 1 "CoinKeeper$Layout" "<init>" none D cy ad A) : I_La_init_e p l e s m args below meth c D cy A ad o i_txs i_end i_at i_ins i_outs (x_La_init fu i_txs i_end i_at i_ins i_outs) := by
  obtain ⟨hx, hb, hr, hml, hown, hts, hlocks, hK, hA, hSt, hnm, hex⟩ := id F
  intro  res hf H locs ls hP hD hS hl
  unfold x_La_init at hf
  refine lv_aload_n hx hb d_La_init_0 rfl (lv_at hl 0 rfl) ?_
  refine W.objInit hx hb hown (hts _ gw_268) (hts _ gw_36) (hts _ gw_37) rfl (by rw [hml]; exact hl.1) rfl d_La_init_1 (Nat.le_of_ble_eq_true rfl) (Nat.le_of_ble_eq_true rfl) ?_
  refine W.eq (g2 := F0 m 4 ls []) rfl ?_
  refine lv_aload_n hx hb d_La_init_4 rfl (lv_at hl 0 rfl) ?_
  refine lv_sipush (v := 301) hx hb d_La_init_5 (by decide) ?_
  refine q_newa (ty := .int) (a0 := (301, .inl (fun _ => 0))) hx hb hts gw_61 rfl hK hP hD hS hA 1 rfl (fun _ h => h) (fun _ => rfl) (by decide) (by decide) (by decide) (Nat.le_of_ble_eq_true rfl) (Nat.le_of_ble_eq_true rfl) d_La_init_8 (fun w0 H hP hD hS => ?_)
  refine W.widen (k := 1) (n := 301) (Nat.le_of_ble_eq_true rfl) (Nat.le_of_ble_eq_true rfl) ?_
  have hP : va_P D classes [(o, .inr (4, [.null, .int i_txs, .null, .null, .null, .null, .null, .null, .null, .null, .null, .int i_end, .int i_at, .int i_ins, .int i_outs])), (w0, .inl (cy 1, 301, .inl (fun _ => 0)))] H := hP
  have hD : va_D A [(o, .inr (4, [.null, .int i_txs, .null, .null, .null, .null, .null, .null, .null, .null, .null, .int i_end, .int i_at, .int i_ins, .int i_outs])), (w0, .inl (cy 1, 301, .inl (fun _ => 0)))] := hD
  refine va_putF (D := D) (ci := 4) (v := .ref w0) (ty := .array .int) (C := "CoinKeeper$Layout") (T := F_4) (N := 15) hx hb hts i_4 t_4 t_4_ok n_4 hown hK hP hD hS 0 rfl rfl 2 (by decide) (hts _ gw_274) (fun _ h9 => h9) rfl hnm rfl (by decide +kernel) rfl rfl (Nat.le_of_ble_eq_true rfl) d_La_init_10 (fun H locs hP hD hS => ?_)
  have hP : va_P D classes [(o, .inr (4, [.null, .int i_txs, .ref w0, .null, .null, .null, .null, .null, .null, .null, .null, .int i_end, .int i_at, .int i_ins, .int i_outs])), (w0, .inl (cy 1, 301, .inl (fun _ => 0)))] H := hP
  have hD : va_D A [(o, .inr (4, [.null, .int i_txs, .ref w0, .null, .null, .null, .null, .null, .null, .null, .null, .int i_end, .int i_at, .int i_ins, .int i_outs])), (w0, .inl (cy 1, 301, .inl (fun _ => 0)))] := hD
  refine lv_aload_n hx hb d_La_init_13 rfl (lv_at hl 0 rfl) ?_
  refine lv_sipush (v := 301) hx hb d_La_init_14 (by decide) ?_
  refine q_newa (ty := .int) (a0 := (301, .inl (fun _ => 0))) hx hb hts gw_61 rfl hK hP hD hS hA 1 rfl (fun _ h => h) (fun _ => rfl) (by decide) (by decide) (by decide) (Nat.le_of_ble_eq_true rfl) (Nat.le_of_ble_eq_true rfl) d_La_init_17 (fun w1 H hP hD hS => ?_)
  refine W.widen (k := 2) (n := 602) (Nat.le_of_ble_eq_true rfl) (Nat.le_of_ble_eq_true rfl) ?_
  have hP : va_P D classes [(o, .inr (4, [.null, .int i_txs, .ref w0, .null, .null, .null, .null, .null, .null, .null, .null, .int i_end, .int i_at, .int i_ins, .int i_outs])), (w0, .inl (cy 1, 301, .inl (fun _ => 0))), (w1, .inl (cy 1, 301, .inl (fun _ => 0)))] H := hP
  have hD : va_D A [(o, .inr (4, [.null, .int i_txs, .ref w0, .null, .null, .null, .null, .null, .null, .null, .null, .int i_end, .int i_at, .int i_ins, .int i_outs])), (w0, .inl (cy 1, 301, .inl (fun _ => 0))), (w1, .inl (cy 1, 301, .inl (fun _ => 0)))] := hD
  refine va_putF (D := D) (ci := 4) (v := .ref w1) (ty := .array .int) (C := "CoinKeeper$Layout") (T := F_4) (N := 15) hx hb hts i_4 t_4 t_4_ok n_4 hown hK hP hD hS 0 rfl rfl 3 (by decide) (hts _ gw_276) (fun _ h9 => h9) rfl hnm rfl (by decide +kernel) rfl rfl (Nat.le_of_ble_eq_true rfl) d_La_init_19 (fun H locs hP hD hS => ?_)
  have hP : va_P D classes [(o, .inr (4, [.null, .int i_txs, .ref w0, .ref w1, .null, .null, .null, .null, .null, .null, .null, .int i_end, .int i_at, .int i_ins, .int i_outs])), (w0, .inl (cy 1, 301, .inl (fun _ => 0))), (w1, .inl (cy 1, 301, .inl (fun _ => 0)))] H := hP
  have hD : va_D A [(o, .inr (4, [.null, .int i_txs, .ref w0, .ref w1, .null, .null, .null, .null, .null, .null, .null, .int i_end, .int i_at, .int i_ins, .int i_outs])), (w0, .inl (cy 1, 301, .inl (fun _ => 0))), (w1, .inl (cy 1, 301, .inl (fun _ => 0)))] := hD
  refine lv_aload_n hx hb d_La_init_22 rfl (lv_at hl 0 rfl) ?_
  refine lv_sipush (v := 301) hx hb d_La_init_23 (by decide) ?_
  refine q_newa (ty := .int) (a0 := (301, .inl (fun _ => 0))) hx hb hts gw_61 rfl hK hP hD hS hA 1 rfl (fun _ h => h) (fun _ => rfl) (by decide) (by decide) (by decide) (Nat.le_of_ble_eq_true rfl) (Nat.le_of_ble_eq_true rfl) d_La_init_26 (fun w2 H hP hD hS => ?_)
  refine W.widen (k := 3) (n := 903) (Nat.le_of_ble_eq_true rfl) (Nat.le_of_ble_eq_true rfl) ?_
  have hP : va_P D classes [(o, .inr (4, [.null, .int i_txs, .ref w0, .ref w1, .null, .null, .null, .null, .null, .null, .null, .int i_end, .int i_at, .int i_ins, .int i_outs])), (w0, .inl (cy 1, 301, .inl (fun _ => 0))), (w1, .inl (cy 1, 301, .inl (fun _ => 0))), (w2, .inl (cy 1, 301, .inl (fun _ => 0)))] H := hP
  have hD : va_D A [(o, .inr (4, [.null, .int i_txs, .ref w0, .ref w1, .null, .null, .null, .null, .null, .null, .null, .int i_end, .int i_at, .int i_ins, .int i_outs])), (w0, .inl (cy 1, 301, .inl (fun _ => 0))), (w1, .inl (cy 1, 301, .inl (fun _ => 0))), (w2, .inl (cy 1, 301, .inl (fun _ => 0)))] := hD
  refine va_putF (D := D) (ci := 4) (v := .ref w2) (ty := .array .int) (C := "CoinKeeper$Layout") (T := F_4) (N := 15) hx hb hts i_4 t_4 t_4_ok n_4 hown hK hP hD hS 0 rfl rfl 4 (by decide) (hts _ gw_279) (fun _ h9 => h9) rfl hnm rfl (by decide +kernel) rfl rfl (Nat.le_of_ble_eq_true rfl) d_La_init_28 (fun H locs hP hD hS => ?_)
  have hP : va_P D classes [(o, .inr (4, [.null, .int i_txs, .ref w0, .ref w1, .ref w2, .null, .null, .null, .null, .null, .null, .int i_end, .int i_at, .int i_ins, .int i_outs])), (w0, .inl (cy 1, 301, .inl (fun _ => 0))), (w1, .inl (cy 1, 301, .inl (fun _ => 0))), (w2, .inl (cy 1, 301, .inl (fun _ => 0)))] H := hP
  have hD : va_D A [(o, .inr (4, [.null, .int i_txs, .ref w0, .ref w1, .ref w2, .null, .null, .null, .null, .null, .null, .int i_end, .int i_at, .int i_ins, .int i_outs])), (w0, .inl (cy 1, 301, .inl (fun _ => 0))), (w1, .inl (cy 1, 301, .inl (fun _ => 0))), (w2, .inl (cy 1, 301, .inl (fun _ => 0)))] := hD
  refine lv_aload_n hx hb d_La_init_31 rfl (lv_at hl 0 rfl) ?_
  refine lv_bipush (v := 73) hx hb d_La_init_32 (by decide) ?_
  refine q_newa (ty := .int) (a0 := (73, .inl (fun _ => 0))) hx hb hts gw_61 rfl hK hP hD hS hA 1 rfl (fun _ h => h) (fun _ => rfl) (by decide) (by decide) (by decide) (Nat.le_of_ble_eq_true rfl) (Nat.le_of_ble_eq_true rfl) d_La_init_34 (fun w3 H hP hD hS => ?_)
  refine W.widen (k := 4) (n := 976) (Nat.le_of_ble_eq_true rfl) (Nat.le_of_ble_eq_true rfl) ?_
  have hP : va_P D classes [(o, .inr (4, [.null, .int i_txs, .ref w0, .ref w1, .ref w2, .null, .null, .null, .null, .null, .null, .int i_end, .int i_at, .int i_ins, .int i_outs])), (w0, .inl (cy 1, 301, .inl (fun _ => 0))), (w1, .inl (cy 1, 301, .inl (fun _ => 0))), (w2, .inl (cy 1, 301, .inl (fun _ => 0))), (w3, .inl (cy 1, 73, .inl (fun _ => 0)))] H := hP
  have hD : va_D A [(o, .inr (4, [.null, .int i_txs, .ref w0, .ref w1, .ref w2, .null, .null, .null, .null, .null, .null, .int i_end, .int i_at, .int i_ins, .int i_outs])), (w0, .inl (cy 1, 301, .inl (fun _ => 0))), (w1, .inl (cy 1, 301, .inl (fun _ => 0))), (w2, .inl (cy 1, 301, .inl (fun _ => 0))), (w3, .inl (cy 1, 73, .inl (fun _ => 0)))] := hD
  refine va_putF (D := D) (ci := 4) (v := .ref w3) (ty := .array .int) (C := "CoinKeeper$Layout") (T := F_4) (N := 15) hx hb hts i_4 t_4 t_4_ok n_4 hown hK hP hD hS 0 rfl rfl 5 (by decide) (hts _ gw_282) (fun _ h9 => h9) rfl hnm rfl (by decide +kernel) rfl rfl (Nat.le_of_ble_eq_true rfl) d_La_init_36 (fun H locs hP hD hS => ?_)
  have hP : va_P D classes [(o, .inr (4, [.null, .int i_txs, .ref w0, .ref w1, .ref w2, .ref w3, .null, .null, .null, .null, .null, .int i_end, .int i_at, .int i_ins, .int i_outs])), (w0, .inl (cy 1, 301, .inl (fun _ => 0))), (w1, .inl (cy 1, 301, .inl (fun _ => 0))), (w2, .inl (cy 1, 301, .inl (fun _ => 0))), (w3, .inl (cy 1, 73, .inl (fun _ => 0)))] H := hP
  have hD : va_D A [(o, .inr (4, [.null, .int i_txs, .ref w0, .ref w1, .ref w2, .ref w3, .null, .null, .null, .null, .null, .int i_end, .int i_at, .int i_ins, .int i_outs])), (w0, .inl (cy 1, 301, .inl (fun _ => 0))), (w1, .inl (cy 1, 301, .inl (fun _ => 0))), (w2, .inl (cy 1, 301, .inl (fun _ => 0))), (w3, .inl (cy 1, 73, .inl (fun _ => 0)))] := hD
  refine lv_aload_n hx hb d_La_init_39 rfl (lv_at hl 0 rfl) ?_
  refine lv_bipush (v := 73) hx hb d_La_init_40 (by decide) ?_
  refine q_newa (ty := .int) (a0 := (73, .inl (fun _ => 0))) hx hb hts gw_61 rfl hK hP hD hS hA 1 rfl (fun _ h => h) (fun _ => rfl) (by decide) (by decide) (by decide) (Nat.le_of_ble_eq_true rfl) (Nat.le_of_ble_eq_true rfl) d_La_init_42 (fun w4 H hP hD hS => ?_)
  refine W.widen (k := 5) (n := 1049) (Nat.le_of_ble_eq_true rfl) (Nat.le_of_ble_eq_true rfl) ?_
  have hP : va_P D classes [(o, .inr (4, [.null, .int i_txs, .ref w0, .ref w1, .ref w2, .ref w3, .null, .null, .null, .null, .null, .int i_end, .int i_at, .int i_ins, .int i_outs])), (w0, .inl (cy 1, 301, .inl (fun _ => 0))), (w1, .inl (cy 1, 301, .inl (fun _ => 0))), (w2, .inl (cy 1, 301, .inl (fun _ => 0))), (w3, .inl (cy 1, 73, .inl (fun _ => 0))), (w4, .inl (cy 1, 73, .inl (fun _ => 0)))] H := hP
  have hD : va_D A [(o, .inr (4, [.null, .int i_txs, .ref w0, .ref w1, .ref w2, .ref w3, .null, .null, .null, .null, .null, .int i_end, .int i_at, .int i_ins, .int i_outs])), (w0, .inl (cy 1, 301, .inl (fun _ => 0))), (w1, .inl (cy 1, 301, .inl (fun _ => 0))), (w2, .inl (cy 1, 301, .inl (fun _ => 0))), (w3, .inl (cy 1, 73, .inl (fun _ => 0))), (w4, .inl (cy 1, 73, .inl (fun _ => 0)))] := hD
  refine va_putF (D := D) (ci := 4) (v := .ref w4) (ty := .array .int) (C := "CoinKeeper$Layout") (T := F_4) (N := 15) hx hb hts i_4 t_4 t_4_ok n_4 hown hK hP hD hS 0 rfl rfl 6 (by decide) (hts _ gw_285) (fun _ h9 => h9) rfl hnm rfl (by decide +kernel) rfl rfl (Nat.le_of_ble_eq_true rfl) d_La_init_44 (fun H locs hP hD hS => ?_)
  have hP : va_P D classes [(o, .inr (4, [.null, .int i_txs, .ref w0, .ref w1, .ref w2, .ref w3, .ref w4, .null, .null, .null, .null, .int i_end, .int i_at, .int i_ins, .int i_outs])), (w0, .inl (cy 1, 301, .inl (fun _ => 0))), (w1, .inl (cy 1, 301, .inl (fun _ => 0))), (w2, .inl (cy 1, 301, .inl (fun _ => 0))), (w3, .inl (cy 1, 73, .inl (fun _ => 0))), (w4, .inl (cy 1, 73, .inl (fun _ => 0)))] H := hP
  have hD : va_D A [(o, .inr (4, [.null, .int i_txs, .ref w0, .ref w1, .ref w2, .ref w3, .ref w4, .null, .null, .null, .null, .int i_end, .int i_at, .int i_ins, .int i_outs])), (w0, .inl (cy 1, 301, .inl (fun _ => 0))), (w1, .inl (cy 1, 301, .inl (fun _ => 0))), (w2, .inl (cy 1, 301, .inl (fun _ => 0))), (w3, .inl (cy 1, 73, .inl (fun _ => 0))), (w4, .inl (cy 1, 73, .inl (fun _ => 0)))] := hD
  refine lv_aload_n hx hb d_La_init_47 rfl (lv_at hl 0 rfl) ?_
  refine lv_bipush (v := 73) hx hb d_La_init_48 (by decide) ?_
  refine q_newa (ty := .int) (a0 := (73, .inl (fun _ => 0))) hx hb hts gw_61 rfl hK hP hD hS hA 1 rfl (fun _ h => h) (fun _ => rfl) (by decide) (by decide) (by decide) (Nat.le_of_ble_eq_true rfl) (Nat.le_of_ble_eq_true rfl) d_La_init_50 (fun w5 H hP hD hS => ?_)
  refine W.widen (k := 6) (n := 1122) (Nat.le_of_ble_eq_true rfl) (Nat.le_of_ble_eq_true rfl) ?_
  have hP : va_P D classes [(o, .inr (4, [.null, .int i_txs, .ref w0, .ref w1, .ref w2, .ref w3, .ref w4, .null, .null, .null, .null, .int i_end, .int i_at, .int i_ins, .int i_outs])), (w0, .inl (cy 1, 301, .inl (fun _ => 0))), (w1, .inl (cy 1, 301, .inl (fun _ => 0))), (w2, .inl (cy 1, 301, .inl (fun _ => 0))), (w3, .inl (cy 1, 73, .inl (fun _ => 0))), (w4, .inl (cy 1, 73, .inl (fun _ => 0))), (w5, .inl (cy 1, 73, .inl (fun _ => 0)))] H := hP
  have hD : va_D A [(o, .inr (4, [.null, .int i_txs, .ref w0, .ref w1, .ref w2, .ref w3, .ref w4, .null, .null, .null, .null, .int i_end, .int i_at, .int i_ins, .int i_outs])), (w0, .inl (cy 1, 301, .inl (fun _ => 0))), (w1, .inl (cy 1, 301, .inl (fun _ => 0))), (w2, .inl (cy 1, 301, .inl (fun _ => 0))), (w3, .inl (cy 1, 73, .inl (fun _ => 0))), (w4, .inl (cy 1, 73, .inl (fun _ => 0))), (w5, .inl (cy 1, 73, .inl (fun _ => 0)))] := hD
  refine va_putF (D := D) (ci := 4) (v := .ref w5) (ty := .array .int) (C := "CoinKeeper$Layout") (T := F_4) (N := 15) hx hb hts i_4 t_4 t_4_ok n_4 hown hK hP hD hS 0 rfl rfl 7 (by decide) (hts _ gw_287) (fun _ h9 => h9) rfl hnm rfl (by decide +kernel) rfl rfl (Nat.le_of_ble_eq_true rfl) d_La_init_52 (fun H locs hP hD hS => ?_)
  have hP : va_P D classes [(o, .inr (4, [.null, .int i_txs, .ref w0, .ref w1, .ref w2, .ref w3, .ref w4, .ref w5, .null, .null, .null, .int i_end, .int i_at, .int i_ins, .int i_outs])), (w0, .inl (cy 1, 301, .inl (fun _ => 0))), (w1, .inl (cy 1, 301, .inl (fun _ => 0))), (w2, .inl (cy 1, 301, .inl (fun _ => 0))), (w3, .inl (cy 1, 73, .inl (fun _ => 0))), (w4, .inl (cy 1, 73, .inl (fun _ => 0))), (w5, .inl (cy 1, 73, .inl (fun _ => 0)))] H := hP
  have hD : va_D A [(o, .inr (4, [.null, .int i_txs, .ref w0, .ref w1, .ref w2, .ref w3, .ref w4, .ref w5, .null, .null, .null, .int i_end, .int i_at, .int i_ins, .int i_outs])), (w0, .inl (cy 1, 301, .inl (fun _ => 0))), (w1, .inl (cy 1, 301, .inl (fun _ => 0))), (w2, .inl (cy 1, 301, .inl (fun _ => 0))), (w3, .inl (cy 1, 73, .inl (fun _ => 0))), (w4, .inl (cy 1, 73, .inl (fun _ => 0))), (w5, .inl (cy 1, 73, .inl (fun _ => 0)))] := hD
  refine lv_aload_n hx hb d_La_init_55 rfl (lv_at hl 0 rfl) ?_
  refine lv_sipush (v := 333) hx hb d_La_init_56 (by decide) ?_
  refine q_newa (ty := .int) (a0 := (333, .inl (fun _ => 0))) hx hb hts gw_61 rfl hK hP hD hS hA 1 rfl (fun _ h => h) (fun _ => rfl) (by decide) (by decide) (by decide) (Nat.le_of_ble_eq_true rfl) (Nat.le_of_ble_eq_true rfl) d_La_init_59 (fun w6 H hP hD hS => ?_)
  refine W.widen (k := 7) (n := 1455) (Nat.le_of_ble_eq_true rfl) (Nat.le_of_ble_eq_true rfl) ?_
  have hP : va_P D classes [(o, .inr (4, [.null, .int i_txs, .ref w0, .ref w1, .ref w2, .ref w3, .ref w4, .ref w5, .null, .null, .null, .int i_end, .int i_at, .int i_ins, .int i_outs])), (w0, .inl (cy 1, 301, .inl (fun _ => 0))), (w1, .inl (cy 1, 301, .inl (fun _ => 0))), (w2, .inl (cy 1, 301, .inl (fun _ => 0))), (w3, .inl (cy 1, 73, .inl (fun _ => 0))), (w4, .inl (cy 1, 73, .inl (fun _ => 0))), (w5, .inl (cy 1, 73, .inl (fun _ => 0))), (w6, .inl (cy 1, 333, .inl (fun _ => 0)))] H := hP
  have hD : va_D A [(o, .inr (4, [.null, .int i_txs, .ref w0, .ref w1, .ref w2, .ref w3, .ref w4, .ref w5, .null, .null, .null, .int i_end, .int i_at, .int i_ins, .int i_outs])), (w0, .inl (cy 1, 301, .inl (fun _ => 0))), (w1, .inl (cy 1, 301, .inl (fun _ => 0))), (w2, .inl (cy 1, 301, .inl (fun _ => 0))), (w3, .inl (cy 1, 73, .inl (fun _ => 0))), (w4, .inl (cy 1, 73, .inl (fun _ => 0))), (w5, .inl (cy 1, 73, .inl (fun _ => 0))), (w6, .inl (cy 1, 333, .inl (fun _ => 0)))] := hD
  refine va_putF (D := D) (ci := 4) (v := .ref w6) (ty := .array .int) (C := "CoinKeeper$Layout") (T := F_4) (N := 15) hx hb hts i_4 t_4 t_4_ok n_4 hown hK hP hD hS 0 rfl rfl 8 (by decide) (hts _ gw_290) (fun _ h9 => h9) rfl hnm rfl (by decide +kernel) rfl rfl (Nat.le_of_ble_eq_true rfl) d_La_init_61 (fun H locs hP hD hS => ?_)
  have hP : va_P D classes [(o, .inr (4, [.null, .int i_txs, .ref w0, .ref w1, .ref w2, .ref w3, .ref w4, .ref w5, .ref w6, .null, .null, .int i_end, .int i_at, .int i_ins, .int i_outs])), (w0, .inl (cy 1, 301, .inl (fun _ => 0))), (w1, .inl (cy 1, 301, .inl (fun _ => 0))), (w2, .inl (cy 1, 301, .inl (fun _ => 0))), (w3, .inl (cy 1, 73, .inl (fun _ => 0))), (w4, .inl (cy 1, 73, .inl (fun _ => 0))), (w5, .inl (cy 1, 73, .inl (fun _ => 0))), (w6, .inl (cy 1, 333, .inl (fun _ => 0)))] H := hP
  have hD : va_D A [(o, .inr (4, [.null, .int i_txs, .ref w0, .ref w1, .ref w2, .ref w3, .ref w4, .ref w5, .ref w6, .null, .null, .int i_end, .int i_at, .int i_ins, .int i_outs])), (w0, .inl (cy 1, 301, .inl (fun _ => 0))), (w1, .inl (cy 1, 301, .inl (fun _ => 0))), (w2, .inl (cy 1, 301, .inl (fun _ => 0))), (w3, .inl (cy 1, 73, .inl (fun _ => 0))), (w4, .inl (cy 1, 73, .inl (fun _ => 0))), (w5, .inl (cy 1, 73, .inl (fun _ => 0))), (w6, .inl (cy 1, 333, .inl (fun _ => 0)))] := hD
  refine lv_aload_n hx hb d_La_init_64 rfl (lv_at hl 0 rfl) ?_
  refine lv_sipush (v := 333) hx hb d_La_init_65 (by decide) ?_
  refine q_newa (ty := .int) (a0 := (333, .inl (fun _ => 0))) hx hb hts gw_61 rfl hK hP hD hS hA 1 rfl (fun _ h => h) (fun _ => rfl) (by decide) (by decide) (by decide) (Nat.le_of_ble_eq_true rfl) (Nat.le_of_ble_eq_true rfl) d_La_init_68 (fun w7 H hP hD hS => ?_)
  refine W.widen (k := 8) (n := 1788) (Nat.le_of_ble_eq_true rfl) (Nat.le_of_ble_eq_true rfl) ?_
  have hP : va_P D classes [(o, .inr (4, [.null, .int i_txs, .ref w0, .ref w1, .ref w2, .ref w3, .ref w4, .ref w5, .ref w6, .null, .null, .int i_end, .int i_at, .int i_ins, .int i_outs])), (w0, .inl (cy 1, 301, .inl (fun _ => 0))), (w1, .inl (cy 1, 301, .inl (fun _ => 0))), (w2, .inl (cy 1, 301, .inl (fun _ => 0))), (w3, .inl (cy 1, 73, .inl (fun _ => 0))), (w4, .inl (cy 1, 73, .inl (fun _ => 0))), (w5, .inl (cy 1, 73, .inl (fun _ => 0))), (w6, .inl (cy 1, 333, .inl (fun _ => 0))), (w7, .inl (cy 1, 333, .inl (fun _ => 0)))] H := hP
  have hD : va_D A [(o, .inr (4, [.null, .int i_txs, .ref w0, .ref w1, .ref w2, .ref w3, .ref w4, .ref w5, .ref w6, .null, .null, .int i_end, .int i_at, .int i_ins, .int i_outs])), (w0, .inl (cy 1, 301, .inl (fun _ => 0))), (w1, .inl (cy 1, 301, .inl (fun _ => 0))), (w2, .inl (cy 1, 301, .inl (fun _ => 0))), (w3, .inl (cy 1, 73, .inl (fun _ => 0))), (w4, .inl (cy 1, 73, .inl (fun _ => 0))), (w5, .inl (cy 1, 73, .inl (fun _ => 0))), (w6, .inl (cy 1, 333, .inl (fun _ => 0))), (w7, .inl (cy 1, 333, .inl (fun _ => 0)))] := hD
  refine va_putF (D := D) (ci := 4) (v := .ref w7) (ty := .array .int) (C := "CoinKeeper$Layout") (T := F_4) (N := 15) hx hb hts i_4 t_4 t_4_ok n_4 hown hK hP hD hS 0 rfl rfl 9 (by decide) (hts _ gw_292) (fun _ h9 => h9) rfl hnm rfl (by decide +kernel) rfl rfl (Nat.le_of_ble_eq_true rfl) d_La_init_70 (fun H locs hP hD hS => ?_)
  have hP : va_P D classes [(o, .inr (4, [.null, .int i_txs, .ref w0, .ref w1, .ref w2, .ref w3, .ref w4, .ref w5, .ref w6, .ref w7, .null, .int i_end, .int i_at, .int i_ins, .int i_outs])), (w0, .inl (cy 1, 301, .inl (fun _ => 0))), (w1, .inl (cy 1, 301, .inl (fun _ => 0))), (w2, .inl (cy 1, 301, .inl (fun _ => 0))), (w3, .inl (cy 1, 73, .inl (fun _ => 0))), (w4, .inl (cy 1, 73, .inl (fun _ => 0))), (w5, .inl (cy 1, 73, .inl (fun _ => 0))), (w6, .inl (cy 1, 333, .inl (fun _ => 0))), (w7, .inl (cy 1, 333, .inl (fun _ => 0)))] H := hP
  have hD : va_D A [(o, .inr (4, [.null, .int i_txs, .ref w0, .ref w1, .ref w2, .ref w3, .ref w4, .ref w5, .ref w6, .ref w7, .null, .int i_end, .int i_at, .int i_ins, .int i_outs])), (w0, .inl (cy 1, 301, .inl (fun _ => 0))), (w1, .inl (cy 1, 301, .inl (fun _ => 0))), (w2, .inl (cy 1, 301, .inl (fun _ => 0))), (w3, .inl (cy 1, 73, .inl (fun _ => 0))), (w4, .inl (cy 1, 73, .inl (fun _ => 0))), (w5, .inl (cy 1, 73, .inl (fun _ => 0))), (w6, .inl (cy 1, 333, .inl (fun _ => 0))), (w7, .inl (cy 1, 333, .inl (fun _ => 0)))] := hD
  refine lv_aload_n hx hb d_La_init_73 rfl (lv_at hl 0 rfl) ?_
  refine lv_sipush (v := 333) hx hb d_La_init_74 (by decide) ?_
  refine q_newa (ty := .int) (a0 := (333, .inl (fun _ => 0))) hx hb hts gw_61 rfl hK hP hD hS hA 1 rfl (fun _ h => h) (fun _ => rfl) (by decide) (by decide) (by decide) (Nat.le_of_ble_eq_true rfl) (Nat.le_of_ble_eq_true rfl) d_La_init_77 (fun w8 H hP hD hS => ?_)
  refine W.widen (k := 9) (n := 2121) (Nat.le_of_ble_eq_true rfl) (Nat.le_of_ble_eq_true rfl) ?_
  have hP : va_P D classes [(o, .inr (4, [.null, .int i_txs, .ref w0, .ref w1, .ref w2, .ref w3, .ref w4, .ref w5, .ref w6, .ref w7, .null, .int i_end, .int i_at, .int i_ins, .int i_outs])), (w0, .inl (cy 1, 301, .inl (fun _ => 0))), (w1, .inl (cy 1, 301, .inl (fun _ => 0))), (w2, .inl (cy 1, 301, .inl (fun _ => 0))), (w3, .inl (cy 1, 73, .inl (fun _ => 0))), (w4, .inl (cy 1, 73, .inl (fun _ => 0))), (w5, .inl (cy 1, 73, .inl (fun _ => 0))), (w6, .inl (cy 1, 333, .inl (fun _ => 0))), (w7, .inl (cy 1, 333, .inl (fun _ => 0))), (w8, .inl (cy 1, 333, .inl (fun _ => 0)))] H := hP
  have hD : va_D A [(o, .inr (4, [.null, .int i_txs, .ref w0, .ref w1, .ref w2, .ref w3, .ref w4, .ref w5, .ref w6, .ref w7, .null, .int i_end, .int i_at, .int i_ins, .int i_outs])), (w0, .inl (cy 1, 301, .inl (fun _ => 0))), (w1, .inl (cy 1, 301, .inl (fun _ => 0))), (w2, .inl (cy 1, 301, .inl (fun _ => 0))), (w3, .inl (cy 1, 73, .inl (fun _ => 0))), (w4, .inl (cy 1, 73, .inl (fun _ => 0))), (w5, .inl (cy 1, 73, .inl (fun _ => 0))), (w6, .inl (cy 1, 333, .inl (fun _ => 0))), (w7, .inl (cy 1, 333, .inl (fun _ => 0))), (w8, .inl (cy 1, 333, .inl (fun _ => 0)))] := hD
  refine va_putF (D := D) (ci := 4) (v := .ref w8) (ty := .array .int) (C := "CoinKeeper$Layout") (T := F_4) (N := 15) hx hb hts i_4 t_4 t_4_ok n_4 hown hK hP hD hS 0 rfl rfl 10 (by decide) (hts _ gw_294) (fun _ h9 => h9) rfl hnm rfl (by decide +kernel) rfl rfl (Nat.le_of_ble_eq_true rfl) d_La_init_79 (fun H locs hP hD hS => ?_)
  have hP : va_P D classes [(o, .inr (4, [.null, .int i_txs, .ref w0, .ref w1, .ref w2, .ref w3, .ref w4, .ref w5, .ref w6, .ref w7, .ref w8, .int i_end, .int i_at, .int i_ins, .int i_outs])), (w0, .inl (cy 1, 301, .inl (fun _ => 0))), (w1, .inl (cy 1, 301, .inl (fun _ => 0))), (w2, .inl (cy 1, 301, .inl (fun _ => 0))), (w3, .inl (cy 1, 73, .inl (fun _ => 0))), (w4, .inl (cy 1, 73, .inl (fun _ => 0))), (w5, .inl (cy 1, 73, .inl (fun _ => 0))), (w6, .inl (cy 1, 333, .inl (fun _ => 0))), (w7, .inl (cy 1, 333, .inl (fun _ => 0))), (w8, .inl (cy 1, 333, .inl (fun _ => 0)))] H := hP
  have hD : va_D A [(o, .inr (4, [.null, .int i_txs, .ref w0, .ref w1, .ref w2, .ref w3, .ref w4, .ref w5, .ref w6, .ref w7, .ref w8, .int i_end, .int i_at, .int i_ins, .int i_outs])), (w0, .inl (cy 1, 301, .inl (fun _ => 0))), (w1, .inl (cy 1, 301, .inl (fun _ => 0))), (w2, .inl (cy 1, 301, .inl (fun _ => 0))), (w3, .inl (cy 1, 73, .inl (fun _ => 0))), (w4, .inl (cy 1, 73, .inl (fun _ => 0))), (w5, .inl (cy 1, 73, .inl (fun _ => 0))), (w6, .inl (cy 1, 333, .inl (fun _ => 0))), (w7, .inl (cy 1, 333, .inl (fun _ => 0))), (w8, .inl (cy 1, 333, .inl (fun _ => 0)))] := hD
  obtain rfl := Option.some.inj hf
  exact q_rvS (u := (w0, w1, w2, w3, w4, w5, w6, w7, w8)) hx hb hr hlocks hK hP hD hS d_La_init_82
theorem c_La_init (l : Launch) (D : va_G) (cy : Nat → ClassId) (ad : Nat → Nat) (fu : Nat) (o : Nat) (i_txs : Int32) (i_end : Int32) (i_at : Int32) (i_ins : Int32) (i_outs : Int32) (res : Unit) (hf : x_La_init fu i_txs i_end i_at i_ins i_outs = some res) (sz : Nat) : Met l ({ cls := "CoinKeeper$Layout", name := "<init>", desc := "()V" } : Jvm.MethodName) (.code ({ cls := "CoinKeeper$Layout", name := "<init>", desc := "()V" } : Jvm.MethodName) b_La_init 1 none :: gw) rm_La_init (va_Pc [.ref o] (Pr D cy ad [(o, .inr (4, [.null, .int i_txs, .null, .null, .null, .null, .null, .null, .null, .null, .null, .int i_end, .int i_at, .int i_ins, .int i_outs]))] sz)) (q_La_init D cy (va_A [(o, .inr (4, [.null, .int i_txs, .null, .null, .null, .null, .null, .null, .null, .null, .null, .int i_end, .int i_at, .int i_ins, .int i_outs]))] sz) o i_txs i_end i_at i_ins i_outs res) 9 2121 (va_A [(o, .inr (4, [.null, .int i_txs, .null, .null, .null, .null, .null, .null, .null, .null, .null, .int i_end, .int i_at, .int i_ins, .int i_outs]))] sz) :=
  q_met (Qc := fun A => q_La_init D cy A o i_txs i_end i_at i_ins i_outs res) (by decide) rfl rfl (Nat.le_of_ble_eq_true rfl) (fun p e s m below meth c ls F hP hD hS hl => we_La_init (fu := fu) F  res hf _ _ _ hP hD hS hl) sz
abbrev b_Ma_init : ByteArray := prog_7_method_1_code
theorem d_Ma_init_0 : decode b_Ma_init 0 = .ok (.aload_n 0, 1) := by decide +kernel
theorem d_Ma_init_1 : decode b_Ma_init 1 = .ok (.invokespecial 5, 3) := by decide +kernel
theorem d_Ma_init_4 : decode b_Ma_init 4 = .ok (.aload_n 0, 1) := by decide +kernel
theorem d_Ma_init_5 : decode b_Ma_init 5 = .ok (.new 11, 3) := by decide +kernel
theorem d_Ma_init_8 : decode b_Ma_init 8 = .ok (.dup, 1) := by decide +kernel
theorem d_Ma_init_9 : decode b_Ma_init 9 = .ok (.invokespecial 13, 3) := by decide +kernel
theorem d_Ma_init_12 : decode b_Ma_init 12 = .ok (.putfield 14, 3) := by decide +kernel
theorem d_Ma_init_15 : decode b_Ma_init 15 = .ok (.aload_n 0, 1) := by decide +kernel
theorem d_Ma_init_16 : decode b_Ma_init 16 = .ok (.sipush 14928, 3) := by decide +kernel
theorem d_Ma_init_19 : decode b_Ma_init 19 = .ok (.newarray .byte, 2) := by decide +kernel
theorem d_Ma_init_21 : decode b_Ma_init 21 = .ok (.putfield 18, 3) := by decide +kernel
theorem d_Ma_init_24 : decode b_Ma_init 24 = .ok (.aload_n 0, 1) := by decide +kernel
theorem d_Ma_init_25 : decode b_Ma_init 25 = .ok (.iconst 2, 1) := by decide +kernel
theorem d_Ma_init_26 : decode b_Ma_init 26 = .ok (.newarray .int, 2) := by decide +kernel
theorem d_Ma_init_28 : decode b_Ma_init 28 = .ok (.putfield 22, 3) := by decide +kernel
theorem d_Ma_init_31 : decode b_Ma_init 31 = .ok (.aload_n 0, 1) := by decide +kernel
theorem d_Ma_init_32 : decode b_Ma_init 32 = .ok (.sipush 204, 3) := by decide +kernel
theorem d_Ma_init_35 : decode b_Ma_init 35 = .ok (.newarray .int, 2) := by decide +kernel
theorem d_Ma_init_37 : decode b_Ma_init 37 = .ok (.putfield 26, 3) := by decide +kernel
theorem d_Ma_init_40 : decode b_Ma_init 40 = .ok (.aload_n 0, 1) := by decide +kernel
theorem d_Ma_init_41 : decode b_Ma_init 41 = .ok (.sipush 204, 3) := by decide +kernel
theorem d_Ma_init_44 : decode b_Ma_init 44 = .ok (.newarray .int, 2) := by decide +kernel
theorem d_Ma_init_46 : decode b_Ma_init 46 = .ok (.putfield 29, 3) := by decide +kernel
theorem d_Ma_init_49 : decode b_Ma_init 49 = .ok (.aload_n 0, 1) := by decide +kernel
theorem d_Ma_init_50 : decode b_Ma_init 50 = .ok (.sipush 202, 3) := by decide +kernel
theorem d_Ma_init_53 : decode b_Ma_init 53 = .ok (.newarray .boolean, 2) := by decide +kernel
theorem d_Ma_init_55 : decode b_Ma_init 55 = .ok (.putfield 32, 3) := by decide +kernel
theorem d_Ma_init_58 : decode b_Ma_init 58 = .ok (.aload_n 0, 1) := by decide +kernel
theorem d_Ma_init_59 : decode b_Ma_init 59 = .ok (.aload_n 1, 1) := by decide +kernel
theorem d_Ma_init_60 : decode b_Ma_init 60 = .ok (.putfield 36, 3) := by decide +kernel
theorem d_Ma_init_63 : decode b_Ma_init 63 = .ok (.aload_n 0, 1) := by decide +kernel
theorem d_Ma_init_64 : decode b_Ma_init 64 = .ok (.aload_n 2, 1) := by decide +kernel
theorem d_Ma_init_65 : decode b_Ma_init 65 = .ok (.putfield 40, 3) := by decide +kernel
theorem d_Ma_init_68 : decode b_Ma_init 68 = .ok (.aload_n 0, 1) := by decide +kernel
theorem d_Ma_init_69 : decode b_Ma_init 69 = .ok (.getfield 18, 3) := by decide +kernel
theorem d_Ma_init_72 : decode b_Ma_init 72 = .ok (.bipush 32, 2) := by decide +kernel
theorem d_Ma_init_74 : decode b_Ma_init 74 = .ok (.bipush (-127), 2) := by decide +kernel
theorem d_Ma_init_76 : decode b_Ma_init 76 = .ok (.bastore, 1) := by decide +kernel
theorem d_Ma_init_77 : decode b_Ma_init 77 = .ok (.iconst 1, 1) := by decide +kernel
theorem d_Ma_init_78 : decode b_Ma_init 78 = .ok (.istore_n 3, 1) := by decide +kernel
theorem d_Ma_init_79 : decode b_Ma_init 79 = .ok (.iload_n 3, 1) := by decide +kernel
theorem d_Ma_init_80 : decode b_Ma_init 80 = .ok (.bipush 16, 2) := by decide +kernel
theorem d_Ma_init_82 : decode b_Ma_init 82 = .ok (.if_icmp .gt 20, 3) := by decide +kernel
theorem d_Ma_init_85 : decode b_Ma_init 85 = .ok (.aload_n 0, 1) := by decide +kernel
theorem d_Ma_init_86 : decode b_Ma_init 86 = .ok (.getfield 18, 3) := by decide +kernel
theorem d_Ma_init_89 : decode b_Ma_init 89 = .ok (.bipush 32, 2) := by decide +kernel
theorem d_Ma_init_91 : decode b_Ma_init 91 = .ok (.iload_n 3, 1) := by decide +kernel
theorem d_Ma_init_92 : decode b_Ma_init 92 = .ok (.iadd, 1) := by decide +kernel
theorem d_Ma_init_93 : decode b_Ma_init 93 = .ok (.iload_n 3, 1) := by decide +kernel
theorem d_Ma_init_94 : decode b_Ma_init 94 = .ok (.i2b, 1) := by decide +kernel
theorem d_Ma_init_95 : decode b_Ma_init 95 = .ok (.bastore, 1) := by decide +kernel
theorem d_Ma_init_96 : decode b_Ma_init 96 = .ok (.iinc 3 1, 3) := by decide +kernel
theorem d_Ma_init_99 : decode b_Ma_init 99 = .ok (.goto (-20), 3) := by decide +kernel
theorem d_Ma_init_102 : decode b_Ma_init 102 = .ok (.return_, 1) := by decide +kernel
abbrev rm_Ma_init : Room := { frames := 2, cells := 10, slots := 15575, locals := 40 }
abbrev q_Ma_init (D : va_G) (cy : Nat → ClassId) (A : Nat → Prop) (o : Nat) (o1 : Nat) (o2 : Nat) (i_height : Int32) (i_otherHeight : Int32) (i_ops : Int32) (i_ifs : Int32) (i_ifsNotTaken : Int32) (i_free : Int32) (i_tx : Int32) (i_in : Int32) (i_messageIsThere : Int32) (res : (Nat → Int32)) : Array Value → State → Outcome → State → Prop := va_Qv (fun (_ : Nat × Nat × Nat × Nat × Nat × Nat × Nat × Nat × Nat × Nat) => True) (fun u t => Po D cy A [(o, .inr (6, [.ref o1, .ref o2, .ref u.1, .ref u.2.2.2.2.2.1, .ref u.2.2.2.2.2.2.1, .ref u.2.2.2.2.2.2.2.1, .ref u.2.2.2.2.2.2.2.2.1, .ref u.2.2.2.2.2.2.2.2.2, .int i_height, .int i_otherHeight, .int i_ops, .int i_ifs, .int i_ifsNotTaken, .int i_free, .null, .int i_tx, .int i_in, .null, .int i_messageIsThere])), (u.1, .inr (8, [.ref u.2.1, .ref u.2.2.1, .ref u.2.2.2.1, .ref u.2.2.2.2.1])), (u.2.1, .inl (cy 1, 5, .inl (fun _ => 0))), (u.2.2.1, .inl (cy 1, 5, .inl (fun _ => 0))), (u.2.2.2.1, .inl (cy 1, 5, .inl (fun _ => 0))), (u.2.2.2.2.1, .inl (cy 1, 16, .inl (fun _ => 0))), (u.2.2.2.2.2.1, .inl (cy 0, 14928, .inl res)), (u.2.2.2.2.2.2.1, .inl (cy 1, 2, .inl (fun _ => 0))), (u.2.2.2.2.2.2.2.1, .inl (cy 1, 204, .inl (fun _ => 0))), (u.2.2.2.2.2.2.2.2.1, .inl (cy 1, 204, .inl (fun _ => 0))), (u.2.2.2.2.2.2.2.2.2, .inl (cy 3, 202, .inl (fun _ => 0)))] t) A
def I_Ma_init_79 (p : Program) (l : Launch) (e : Env) (s : State) (m : MethodId) (args : Array Value) (below : List Frame) (meth : Method) (c : Code) (D : va_G) (cy : Nat → ClassId) (A : Nat → Prop) (ad : Nat → Nat) (o : Nat) (o1 : Nat) (o2 : Nat) (i_height : Int32) (i_otherHeight : Int32) (i_ops : Int32) (i_ifs : Int32) (i_ifsNotTaken : Int32) (i_free : Int32) (i_tx : Int32) (i_in : Int32) (i_messageIsThere : Int32) (k : Int32 → (Nat → Int32) → Option ((Nat → Int32))) : Prop :=
  ∀ (x3 : Int32) (u0 : Nat → Int32) (res : (Nat → Int32)), k x3 u0 = some res → ∀ (w0 : Nat) (w1 : Nat) (w2 : Nat) (w3 : Nat) (w4 : Nat) (w5 : Nat) (w6 : Nat) (w7 : Nat) (w8 : Nat) (w9 : Nat) (H : Heap) (locs : List Loc) (ls : Array Slot), va_P D classes [(o, .inr (6, [.ref o1, .ref o2, .ref w0, .ref w5, .ref w6, .ref w7, .ref w8, .ref w9, .int i_height, .int i_otherHeight, .int i_ops, .int i_ifs, .int i_ifsNotTaken, .int i_free, .null, .int i_tx, .int i_in, .null, .int i_messageIsThere])), (w0, .inr (8, [.ref w1, .ref w2, .ref w3, .ref w4])), (w1, .inl (cy 1, 5, .inl (fun _ => 0))), (w2, .inl (cy 1, 5, .inl (fun _ => 0))), (w3, .inl (cy 1, 5, .inl (fun _ => 0))), (w4, .inl (cy 1, 16, .inl (fun _ => 0))), (w5, .inl (cy 0, 14928, .inl u0)), (w6, .inl (cy 1, 2, .inl (fun _ => 0))), (w7, .inl (cy 1, 204, .inl (fun _ => 0))), (w8, .inl (cy 1, 204, .inl (fun _ => 0))), (w9, .inl (cy 3, 202, .inl (fun _ => 0)))] H → va_D A [(o, .inr (6, [.ref o1, .ref o2, .ref w0, .ref w5, .ref w6, .ref w7, .ref w8, .ref w9, .int i_height, .int i_otherHeight, .int i_ops, .int i_ifs, .int i_ifsNotTaken, .int i_free, .null, .int i_tx, .int i_in, .null, .int i_messageIsThere])), (w0, .inr (8, [.ref w1, .ref w2, .ref w3, .ref w4])), (w1, .inl (cy 1, 5, .inl (fun _ => 0))), (w2, .inl (cy 1, 5, .inl (fun _ => 0))), (w3, .inl (cy 1, 5, .inl (fun _ => 0))), (w4, .inl (cy 1, 16, .inl (fun _ => 0))), (w5, .inl (cy 0, 14928, .inl u0)), (w6, .inl (cy 1, 2, .inl (fun _ => 0))), (w7, .inl (cy 1, 204, .inl (fun _ => 0))), (w8, .inl (cy 1, 204, .inl (fun _ => 0))), (w9, .inl (cy 3, 202, .inl (fun _ => 0)))] → va_S A s.heap H locs → lv_has ls 4 [(0, .ref o), (3, .int x3)] → W p l e rm_Ma_init s m args below meth c H locs 10 15575 (MQ below (q_Ma_init D cy A o o1 o2 i_height i_otherHeight i_ops i_ifs i_ifsNotTaken i_free i_tx i_in i_messageIsThere res) args s 10 15575 A) (F0 m 79 ls [])
def I_Ma_init_e (p : Program) (l : Launch) (e : Env) (s : State) (m : MethodId) (args : Array Value) (below : List Frame) (meth : Method) (c : Code) (D : va_G) (cy : Nat → ClassId) (A : Nat → Prop) (ad : Nat → Nat) (o : Nat) (o1 : Nat) (o2 : Nat) (i_height : Int32) (i_otherHeight : Int32) (i_ops : Int32) (i_ifs : Int32) (i_ifsNotTaken : Int32) (i_free : Int32) (i_tx : Int32) (i_in : Int32) (i_messageIsThere : Int32) (k : Option ((Nat → Int32))) : Prop :=
  ∀ (res : (Nat → Int32)), k  = some res → ∀ (H : Heap) (locs : List Loc) (ls : Array Slot), va_P D classes [(o, .inr (6, [.null, .null, .null, .null, .null, .null, .null, .null, .int i_height, .int i_otherHeight, .int i_ops, .int i_ifs, .int i_ifsNotTaken, .int i_free, .null, .int i_tx, .int i_in, .null, .int i_messageIsThere]))] H → va_D A [(o, .inr (6, [.null, .null, .null, .null, .null, .null, .null, .null, .int i_height, .int i_otherHeight, .int i_ops, .int i_ifs, .int i_ifsNotTaken, .int i_free, .null, .int i_tx, .int i_in, .null, .int i_messageIsThere]))] → va_S A s.heap H locs → lv_has ls 4 [(0, .ref o), (1, .ref o1), (2, .ref o2)] → W p l e rm_Ma_init s m args below meth c H locs 0 0 (MQ below (q_Ma_init D cy A o o1 o2 i_height i_otherHeight i_ops i_ifs i_ifsNotTaken i_free i_tx i_in i_messageIsThere res) args s 10 15575 A) (F0 m 0 ls [])
set_option maxHeartbeats 8000000 in
set_option maxRecDepth 100000 in
theorem wb_Ma_init_79 {p : Program} {l : Launch} {e : Env} {s : State} {m : MethodId} {args : Array Value} {below : List Frame} {meth : Method} {c : Code} {D : va_G} {cy : Nat → ClassId} {A : Nat → Prop} {ad : Nat → Nat} {o : Nat} {o1 : Nat} {o2 : Nat} {i_height : Int32} {i_otherHeight : Int32} {i_ops : Int32} {i_ifs : Int32} {i_ifsNotTaken : Int32} {i_free : Int32} {i_tx : Int32} {i_in : Int32} {i_messageIsThere : Int32} {fu : Nat} {k_79 : Int32 → (Nat → Int32) → Option ((Nat → Int32))} (F : Fx p s m args meth c b_Ma_init 4 "CoinKeeper$Machine" "<init>" none D cy ad A) (hk_79 : I_Ma_init_79 p l e s m args below meth c D cy A ad o o1 o2 i_height i_otherHeight i_ops i_ifs i_ifsNotTaken i_free i_tx i_in i_messageIsThere k_79) : I_Ma_init_79 p l e s m args below meth c D cy A ad o o1 o2 i_height i_otherHeight i_ops i_ifs i_ifsNotTaken i_free i_tx i_in i_messageIsThere (xb_Ma_init_79 fu i_height i_otherHeight i_ops i_ifs i_ifsNotTaken i_free i_tx i_in i_messageIsThere k_79) := by
  obtain ⟨hx, hb, hr, hml, hown, hts, hlocks, hK, hA, hSt, hnm, hex⟩ := id F
  intro x3 u0 res hf w0 w1 w2 w3 w4 w5 w6 w7 w8 w9 H locs ls hP hD hS hl
  unfold xb_Ma_init_79 at hf
  refine lv_iload_n hx hb d_Ma_init_79 rfl (lv_at hl 1 rfl) ?_
  refine lv_bipush (v := 16) hx hb d_Ma_init_80 (by decide) ?_
  refine lv_icmp_gt (tgt := 102) hx hb d_Ma_init_82 (by decide) (fun cx => ?_) (fun cx => ?_)
  · have hf := ifp cx hf
    obtain rfl := Option.some.inj hf
    exact q_rvS (u := (w0, w1, w2, w3, w4, w5, w6, w7, w8, w9)) hx hb hr hlocks hK hP hD hS d_Ma_init_102
  · have hf := ifn cx hf
    refine lv_aload_n hx hb d_Ma_init_85 rfl (lv_at hl 0 rfl) ?_
    refine va_get (D := D) (ci := 6) (v := .ref w5) (C := "CoinKeeper$Machine") (T := F_6) (N := 19) hx hb hts i_6 hown hK hP 0 rfl rfl 3 (by decide) (hts _ gw_207) (fun _ h9 => h9) rfl d_Ma_init_86 ?_
    refine lv_bipush (v := 32) hx hb d_Ma_init_89 (by decide) ?_
    refine lv_iload_n hx hb d_Ma_init_91 rfl (lv_at hl 1 rfl) ?_
    refine lv_iadd hx hb d_Ma_init_92 ?_
    refine lv_topi (fun v1 ev => ?_)
    have hf := bn ev hf
    clear ev
    refine lv_iload_n hx hb d_Ma_init_93 rfl (lv_at hl 1 rfl) ?_
    refine lv_i2b hx hb d_Ma_init_94 rfl ?_
    refine lv_topi (fun v2 ev => ?_)
    have hf := bn ev hf
    clear ev
    obtain ⟨hg, hf⟩ := gdp hf
    refine va_bast hx hb hK hP hD hS 6 0 rfl rfl (inb_in hg) d_Ma_init_95 (fun H locs hP hD hS => ?_)
    obtain ⟨f3, ev, hf⟩ := bne hf
    have hP : va_P D classes [(o, .inr (6, [.ref o1, .ref o2, .ref w0, .ref w5, .ref w6, .ref w7, .ref w8, .ref w9, .int i_height, .int i_otherHeight, .int i_ops, .int i_ifs, .int i_ifsNotTaken, .int i_free, .null, .int i_tx, .int i_in, .null, .int i_messageIsThere])), (w0, .inr (8, [.ref w1, .ref w2, .ref w3, .ref w4])), (w1, .inl (cy 1, 5, .inl (fun _ => 0))), (w2, .inl (cy 1, 5, .inl (fun _ => 0))), (w3, .inl (cy 1, 5, .inl (fun _ => 0))), (w4, .inl (cy 1, 16, .inl (fun _ => 0))), (w5, .inl (cy 0, 14928, .inl f3)), (w6, .inl (cy 1, 2, .inl (fun _ => 0))), (w7, .inl (cy 1, 204, .inl (fun _ => 0))), (w8, .inl (cy 1, 204, .inl (fun _ => 0))), (w9, .inl (cy 3, 202, .inl (fun _ => 0)))] H := by rw [ev]; exact hP
    have hD : va_D A [(o, .inr (6, [.ref o1, .ref o2, .ref w0, .ref w5, .ref w6, .ref w7, .ref w8, .ref w9, .int i_height, .int i_otherHeight, .int i_ops, .int i_ifs, .int i_ifsNotTaken, .int i_free, .null, .int i_tx, .int i_in, .null, .int i_messageIsThere])), (w0, .inr (8, [.ref w1, .ref w2, .ref w3, .ref w4])), (w1, .inl (cy 1, 5, .inl (fun _ => 0))), (w2, .inl (cy 1, 5, .inl (fun _ => 0))), (w3, .inl (cy 1, 5, .inl (fun _ => 0))), (w4, .inl (cy 1, 16, .inl (fun _ => 0))), (w5, .inl (cy 0, 14928, .inl f3)), (w6, .inl (cy 1, 2, .inl (fun _ => 0))), (w7, .inl (cy 1, 204, .inl (fun _ => 0))), (w8, .inl (cy 1, 204, .inl (fun _ => 0))), (w9, .inl (cy 3, 202, .inl (fun _ => 0)))] := by rw [ev]; exact hD
    clear ev
    obtain ⟨v4, ev, hf⟩ := bne hf
    refine lv_iinc (v := v4) (lv' := [(3, .int v4), (0, .ref o)]) hx hb d_Ma_init_96 hl (k := 1) rfl (by rw [ev]; rfl) (by decide) rfl (fun ls hl => ?_)
    clear ev
    refine lv_goto (tgt := 79) hx hb d_Ma_init_99 (by decide) ?_
    exact hk_79 _ _ _ hf _ _ _ _ _ _ _ _ _ _ _ _ _ hP hD hS (lv_sub hl [1, 0] rfl)
theorem w_Ma_init_79 {p : Program} {l : Launch} {e : Env} {s : State} {m : MethodId} {args : Array Value} {below : List Frame} {meth : Method} {c : Code} {D : va_G} {cy : Nat → ClassId} {A : Nat → Prop} {ad : Nat → Nat} {o : Nat} {o1 : Nat} {o2 : Nat} {i_height : Int32} {i_otherHeight : Int32} {i_ops : Int32} {i_ifs : Int32} {i_ifsNotTaken : Int32} {i_free : Int32} {i_tx : Int32} {i_in : Int32} {i_messageIsThere : Int32} {fu : Nat} (F : Fx p s m args meth c b_Ma_init 4 "CoinKeeper$Machine" "<init>" none D cy ad A) : ∀ n : Nat, I_Ma_init_79 p l e s m args below meth c D cy A ad o o1 o2 i_height i_otherHeight i_ops i_ifs i_ifsNotTaken i_free i_tx i_in i_messageIsThere (x_Ma_init_79 fu i_height i_otherHeight i_ops i_ifs i_ifsNotTaken i_free i_tx i_in i_messageIsThere n)
  | 0 => fun _ _ _ hf => nomatch (show (none : Option ((Nat → Int32))) = some _ from hf)
  | n + 1 => wb_Ma_init_79 F (w_Ma_init_79 F n)
theorem hdd_65 : ({ cls := "CoinKeeper$Ripemd160", name := "<init>", desc := "()V" } : Jvm.MethodName).cls ≠ "java/lang/invoke/MethodHandle" ∧ ({ cls := "CoinKeeper$Ripemd160", name := "<init>", desc := "()V" } : Jvm.MethodName).cls ≠ "java/lang/invoke/VarHandle" ∧ (parseMethodDescriptor ({ cls := "CoinKeeper$Ripemd160", name := "<init>", desc := "()V" } : Jvm.MethodName).desc).map (fun d => d.parameters.length) = some 0 := by decide +kernel
set_option maxHeartbeats 8000000 in
set_option maxRecDepth 100000 in
theorem we_Ma_init {p : Program} {l : Launch} {e : Env} {s : State} {m : MethodId} {args : Array Value} {below : List Frame} {meth : Method} {c : Code} {D : va_G} {cy : Nat → ClassId} {A : Nat → Prop} {ad : Nat → Nat} {o : Nat} {o1 : Nat} {o2 : Nat} {i_height : Int32} {i_otherHeight : Int32} {i_ops : Int32} {i_ifs : Int32} {i_ifsNotTaken : Int32} {i_free : Int32} {i_tx : Int32} {i_in : Int32} {i_messageIsThere : Int32} {fu : Nat} (F : Fx p s m args meth c b_Ma_init 4 "CoinKeeper$Machine" "<init>" none D cy ad A) : I_Ma_init_e p l e s m args below meth c D cy A ad o o1 o2 i_height i_otherHeight i_ops i_ifs i_ifsNotTaken i_free i_tx i_in i_messageIsThere (x_Ma_init fu i_height i_otherHeight i_ops i_ifs i_ifsNotTaken i_free i_tx i_in i_messageIsThere) := by
  obtain ⟨hx, hb, hr, hml, hown, hts, hlocks, hK, hA, hSt, hnm, hex⟩ := id F
  intro  res hf H locs ls hP hD hS hl
  unfold x_Ma_init at hf
  refine lv_aload_n hx hb d_Ma_init_0 rfl (lv_at hl 0 rfl) ?_
  refine W.objInit hx hb hown (hts _ gw_184) (hts _ gw_36) (hts _ gw_37) rfl (by rw [hml]; exact hl.1) rfl d_Ma_init_1 (Nat.le_of_ble_eq_true rfl) (Nat.le_of_ble_eq_true rfl) ?_
  refine W.eq (g2 := F0 m 4 ls []) rfl ?_
  refine lv_aload_n hx hb d_Ma_init_4 rfl (lv_at hl 0 rfl) ?_
  refine va_new (ci := 8) (fs := [.null, .null, .null, .null]) (C := "CoinKeeper$Ripemd160") (T := F_8) (N := 4) hx hb hts i_8 t_8 t_8_ok hown (hts _ gw_185) (hts _ gw_186) (hts _ gw_7) hK hP hD hS hA rfl df_8 (Nat.le_of_ble_eq_true rfl) (Nat.le_of_ble_eq_true rfl) d_Ma_init_5 (fun w0 H hP hD hS => ?_)
  refine W.widen (k := 1) (n := 4) (Nat.le_of_ble_eq_true rfl) (Nat.le_of_ble_eq_true rfl) ?_
  have hP : va_P D classes [(o, .inr (6, [.null, .null, .null, .null, .null, .null, .null, .null, .int i_height, .int i_otherHeight, .int i_ops, .int i_ifs, .int i_ifsNotTaken, .int i_free, .null, .int i_tx, .int i_in, .null, .int i_messageIsThere])), (w0, .inr (8, [.null, .null, .null, .null]))] H := hP
  have hD : va_D A [(o, .inr (6, [.null, .null, .null, .null, .null, .null, .null, .null, .int i_height, .int i_otherHeight, .int i_ops, .int i_ifs, .int i_ifsNotTaken, .int i_free, .null, .int i_tx, .int i_in, .null, .int i_messageIsThere])), (w0, .inr (8, [.null, .null, .null, .null]))] := hD
  refine lv_dup hx hb d_Ma_init_8 rfl ?_
  obtain ⟨⟨⟩, hc, hf⟩ := bdp1 hf
  refine q_avS (wr := [(o, .inr (6, [.null, .null, .null, .null, .null, .null, .null, .null, .int i_height, .int i_otherHeight, .int i_ops, .int i_ifs, .int i_ifsNotTaken, .int i_free, .null, .int i_tx, .int i_in, .null, .int i_messageIsThere]))]) (va_runIN (As := []) (rest := [.ref w0, .ref o]) ⟨hx, hb, hml, hown, hts⟩ (c_Ri_init l D cy ad fu w0 _ hc H.size) ⟨q_cN hts hSt.2.1 gw_189 gw_7 (List.mem_of_getElem? (i := 3) rfl) hdd_65 ⟨by decide, by decide⟩, rfl, hts _ gw_188⟩ (q_pre (hP.sub [1] rfl) (hD.sub [1] (by decide) rfl) hK hSt hS (va_free hD hS hA [1] rfl) _) rfl rfl hl.1 rfl (lv_room (Nat.le_of_ble_eq_true rfl)) d_Ma_init_9 ⟨Nat.le_of_ble_eq_true rfl, Nat.le_of_ble_eq_true rfl⟩) hP hD hS hA [1] [0] rfl rfl (by decide) (by decide) (fun uu H locs hP hD hS => ?_)
  clear hc
  obtain ⟨w1, w2, w3, w4⟩ := uu
  refine W.widen (k := 5) (n := 35) (Nat.le_of_ble_eq_true rfl) (Nat.le_of_ble_eq_true rfl) ?_
  have hP : va_P D classes [(o, .inr (6, [.null, .null, .null, .null, .null, .null, .null, .null, .int i_height, .int i_otherHeight, .int i_ops, .int i_ifs, .int i_ifsNotTaken, .int i_free, .null, .int i_tx, .int i_in, .null, .int i_messageIsThere])), (w0, .inr (8, [.ref w1, .ref w2, .ref w3, .ref w4])), (w1, .inl (cy 1, 5, .inl (fun _ => 0))), (w2, .inl (cy 1, 5, .inl (fun _ => 0))), (w3, .inl (cy 1, 5, .inl (fun _ => 0))), (w4, .inl (cy 1, 16, .inl (fun _ => 0)))] H := hP
  have hD : va_D A [(o, .inr (6, [.null, .null, .null, .null, .null, .null, .null, .null, .int i_height, .int i_otherHeight, .int i_ops, .int i_ifs, .int i_ifsNotTaken, .int i_free, .null, .int i_tx, .int i_in, .null, .int i_messageIsThere])), (w0, .inr (8, [.ref w1, .ref w2, .ref w3, .ref w4])), (w1, .inl (cy 1, 5, .inl (fun _ => 0))), (w2, .inl (cy 1, 5, .inl (fun _ => 0))), (w3, .inl (cy 1, 5, .inl (fun _ => 0))), (w4, .inl (cy 1, 16, .inl (fun _ => 0)))] := hD
  refine va_putF (D := D) (ci := 6) (v := .ref w0) (ty := .object "CoinKeeper$Ripemd160") (C := "CoinKeeper$Machine") (T := F_6) (N := 19) hx hb hts i_6 t_6 t_6_ok n_6 hown hK hP hD hS 0 rfl rfl 2 (by decide) (hts _ gw_206) (fun _ h9 => h9) rfl hnm rfl (by decide +kernel) rfl rfl (Nat.le_of_ble_eq_true rfl) d_Ma_init_12 (fun H locs hP hD hS => ?_)
  have hP : va_P D classes [(o, .inr (6, [.null, .null, .ref w0, .null, .null, .null, .null, .null, .int i_height, .int i_otherHeight, .int i_ops, .int i_ifs, .int i_ifsNotTaken, .int i_free, .null, .int i_tx, .int i_in, .null, .int i_messageIsThere])), (w0, .inr (8, [.ref w1, .ref w2, .ref w3, .ref w4])), (w1, .inl (cy 1, 5, .inl (fun _ => 0))), (w2, .inl (cy 1, 5, .inl (fun _ => 0))), (w3, .inl (cy 1, 5, .inl (fun _ => 0))), (w4, .inl (cy 1, 16, .inl (fun _ => 0)))] H := hP
  have hD : va_D A [(o, .inr (6, [.null, .null, .ref w0, .null, .null, .null, .null, .null, .int i_height, .int i_otherHeight, .int i_ops, .int i_ifs, .int i_ifsNotTaken, .int i_free, .null, .int i_tx, .int i_in, .null, .int i_messageIsThere])), (w0, .inr (8, [.ref w1, .ref w2, .ref w3, .ref w4])), (w1, .inl (cy 1, 5, .inl (fun _ => 0))), (w2, .inl (cy 1, 5, .inl (fun _ => 0))), (w3, .inl (cy 1, 5, .inl (fun _ => 0))), (w4, .inl (cy 1, 16, .inl (fun _ => 0)))] := hD
  refine lv_aload_n hx hb d_Ma_init_15 rfl (lv_at hl 0 rfl) ?_
  refine lv_sipush (v := 14928) hx hb d_Ma_init_16 (by decide) ?_
  refine q_newa (ty := .byte) (a0 := (14928, .inl (fun _ => 0))) hx hb hts gw_60 rfl hK hP hD hS hA 0 rfl (fun _ h => h) (fun _ => rfl) (by decide) (by decide) (by decide) (Nat.le_of_ble_eq_true rfl) (Nat.le_of_ble_eq_true rfl) d_Ma_init_19 (fun w5 H hP hD hS => ?_)
  refine W.widen (k := 6) (n := 14963) (Nat.le_of_ble_eq_true rfl) (Nat.le_of_ble_eq_true rfl) ?_
  have hP : va_P D classes [(o, .inr (6, [.null, .null, .ref w0, .null, .null, .null, .null, .null, .int i_height, .int i_otherHeight, .int i_ops, .int i_ifs, .int i_ifsNotTaken, .int i_free, .null, .int i_tx, .int i_in, .null, .int i_messageIsThere])), (w0, .inr (8, [.ref w1, .ref w2, .ref w3, .ref w4])), (w1, .inl (cy 1, 5, .inl (fun _ => 0))), (w2, .inl (cy 1, 5, .inl (fun _ => 0))), (w3, .inl (cy 1, 5, .inl (fun _ => 0))), (w4, .inl (cy 1, 16, .inl (fun _ => 0))), (w5, .inl (cy 0, 14928, .inl (fun _ => 0)))] H := hP
  have hD : va_D A [(o, .inr (6, [.null, .null, .ref w0, .null, .null, .null, .null, .null, .int i_height, .int i_otherHeight, .int i_ops, .int i_ifs, .int i_ifsNotTaken, .int i_free, .null, .int i_tx, .int i_in, .null, .int i_messageIsThere])), (w0, .inr (8, [.ref w1, .ref w2, .ref w3, .ref w4])), (w1, .inl (cy 1, 5, .inl (fun _ => 0))), (w2, .inl (cy 1, 5, .inl (fun _ => 0))), (w3, .inl (cy 1, 5, .inl (fun _ => 0))), (w4, .inl (cy 1, 16, .inl (fun _ => 0))), (w5, .inl (cy 0, 14928, .inl (fun _ => 0)))] := hD
  refine va_putF (D := D) (ci := 6) (v := .ref w5) (ty := .array .byte) (C := "CoinKeeper$Machine") (T := F_6) (N := 19) hx hb hts i_6 t_6 t_6_ok n_6 hown hK hP hD hS 0 rfl rfl 3 (by decide) (hts _ gw_207) (fun _ h9 => h9) rfl hnm rfl (by decide +kernel) rfl rfl (Nat.le_of_ble_eq_true rfl) d_Ma_init_21 (fun H locs hP hD hS => ?_)
  have hP : va_P D classes [(o, .inr (6, [.null, .null, .ref w0, .ref w5, .null, .null, .null, .null, .int i_height, .int i_otherHeight, .int i_ops, .int i_ifs, .int i_ifsNotTaken, .int i_free, .null, .int i_tx, .int i_in, .null, .int i_messageIsThere])), (w0, .inr (8, [.ref w1, .ref w2, .ref w3, .ref w4])), (w1, .inl (cy 1, 5, .inl (fun _ => 0))), (w2, .inl (cy 1, 5, .inl (fun _ => 0))), (w3, .inl (cy 1, 5, .inl (fun _ => 0))), (w4, .inl (cy 1, 16, .inl (fun _ => 0))), (w5, .inl (cy 0, 14928, .inl (fun _ => 0)))] H := hP
  have hD : va_D A [(o, .inr (6, [.null, .null, .ref w0, .ref w5, .null, .null, .null, .null, .int i_height, .int i_otherHeight, .int i_ops, .int i_ifs, .int i_ifsNotTaken, .int i_free, .null, .int i_tx, .int i_in, .null, .int i_messageIsThere])), (w0, .inr (8, [.ref w1, .ref w2, .ref w3, .ref w4])), (w1, .inl (cy 1, 5, .inl (fun _ => 0))), (w2, .inl (cy 1, 5, .inl (fun _ => 0))), (w3, .inl (cy 1, 5, .inl (fun _ => 0))), (w4, .inl (cy 1, 16, .inl (fun _ => 0))), (w5, .inl (cy 0, 14928, .inl (fun _ => 0)))] := hD
  refine lv_aload_n hx hb d_Ma_init_24 rfl (lv_at hl 0 rfl) ?_
  refine lv_iconst (v := 2) hx hb d_Ma_init_25 (by decide) ?_
  refine q_newa (ty := .int) (a0 := (2, .inl (fun _ => 0))) hx hb hts gw_61 rfl hK hP hD hS hA 1 rfl (fun _ h => h) (fun _ => rfl) (by decide) (by decide) (by decide) (Nat.le_of_ble_eq_true rfl) (Nat.le_of_ble_eq_true rfl) d_Ma_init_26 (fun w6 H hP hD hS => ?_)
  refine W.widen (k := 7) (n := 14965) (Nat.le_of_ble_eq_true rfl) (Nat.le_of_ble_eq_true rfl) ?_
  have hP : va_P D classes [(o, .inr (6, [.null, .null, .ref w0, .ref w5, .null, .null, .null, .null, .int i_height, .int i_otherHeight, .int i_ops, .int i_ifs, .int i_ifsNotTaken, .int i_free, .null, .int i_tx, .int i_in, .null, .int i_messageIsThere])), (w0, .inr (8, [.ref w1, .ref w2, .ref w3, .ref w4])), (w1, .inl (cy 1, 5, .inl (fun _ => 0))), (w2, .inl (cy 1, 5, .inl (fun _ => 0))), (w3, .inl (cy 1, 5, .inl (fun _ => 0))), (w4, .inl (cy 1, 16, .inl (fun _ => 0))), (w5, .inl (cy 0, 14928, .inl (fun _ => 0))), (w6, .inl (cy 1, 2, .inl (fun _ => 0)))] H := hP
  have hD : va_D A [(o, .inr (6, [.null, .null, .ref w0, .ref w5, .null, .null, .null, .null, .int i_height, .int i_otherHeight, .int i_ops, .int i_ifs, .int i_ifsNotTaken, .int i_free, .null, .int i_tx, .int i_in, .null, .int i_messageIsThere])), (w0, .inr (8, [.ref w1, .ref w2, .ref w3, .ref w4])), (w1, .inl (cy 1, 5, .inl (fun _ => 0))), (w2, .inl (cy 1, 5, .inl (fun _ => 0))), (w3, .inl (cy 1, 5, .inl (fun _ => 0))), (w4, .inl (cy 1, 16, .inl (fun _ => 0))), (w5, .inl (cy 0, 14928, .inl (fun _ => 0))), (w6, .inl (cy 1, 2, .inl (fun _ => 0)))] := hD
  refine va_putF (D := D) (ci := 6) (v := .ref w6) (ty := .array .int) (C := "CoinKeeper$Machine") (T := F_6) (N := 19) hx hb hts i_6 t_6 t_6_ok n_6 hown hK hP hD hS 0 rfl rfl 4 (by decide) (hts _ gw_208) (fun _ h9 => h9) rfl hnm rfl (by decide +kernel) rfl rfl (Nat.le_of_ble_eq_true rfl) d_Ma_init_28 (fun H locs hP hD hS => ?_)
  have hP : va_P D classes [(o, .inr (6, [.null, .null, .ref w0, .ref w5, .ref w6, .null, .null, .null, .int i_height, .int i_otherHeight, .int i_ops, .int i_ifs, .int i_ifsNotTaken, .int i_free, .null, .int i_tx, .int i_in, .null, .int i_messageIsThere])), (w0, .inr (8, [.ref w1, .ref w2, .ref w3, .ref w4])), (w1, .inl (cy 1, 5, .inl (fun _ => 0))), (w2, .inl (cy 1, 5, .inl (fun _ => 0))), (w3, .inl (cy 1, 5, .inl (fun _ => 0))), (w4, .inl (cy 1, 16, .inl (fun _ => 0))), (w5, .inl (cy 0, 14928, .inl (fun _ => 0))), (w6, .inl (cy 1, 2, .inl (fun _ => 0)))] H := hP
  have hD : va_D A [(o, .inr (6, [.null, .null, .ref w0, .ref w5, .ref w6, .null, .null, .null, .int i_height, .int i_otherHeight, .int i_ops, .int i_ifs, .int i_ifsNotTaken, .int i_free, .null, .int i_tx, .int i_in, .null, .int i_messageIsThere])), (w0, .inr (8, [.ref w1, .ref w2, .ref w3, .ref w4])), (w1, .inl (cy 1, 5, .inl (fun _ => 0))), (w2, .inl (cy 1, 5, .inl (fun _ => 0))), (w3, .inl (cy 1, 5, .inl (fun _ => 0))), (w4, .inl (cy 1, 16, .inl (fun _ => 0))), (w5, .inl (cy 0, 14928, .inl (fun _ => 0))), (w6, .inl (cy 1, 2, .inl (fun _ => 0)))] := hD
  refine lv_aload_n hx hb d_Ma_init_31 rfl (lv_at hl 0 rfl) ?_
  refine lv_sipush (v := 204) hx hb d_Ma_init_32 (by decide) ?_
  refine q_newa (ty := .int) (a0 := (204, .inl (fun _ => 0))) hx hb hts gw_61 rfl hK hP hD hS hA 1 rfl (fun _ h => h) (fun _ => rfl) (by decide) (by decide) (by decide) (Nat.le_of_ble_eq_true rfl) (Nat.le_of_ble_eq_true rfl) d_Ma_init_35 (fun w7 H hP hD hS => ?_)
  refine W.widen (k := 8) (n := 15169) (Nat.le_of_ble_eq_true rfl) (Nat.le_of_ble_eq_true rfl) ?_
  have hP : va_P D classes [(o, .inr (6, [.null, .null, .ref w0, .ref w5, .ref w6, .null, .null, .null, .int i_height, .int i_otherHeight, .int i_ops, .int i_ifs, .int i_ifsNotTaken, .int i_free, .null, .int i_tx, .int i_in, .null, .int i_messageIsThere])), (w0, .inr (8, [.ref w1, .ref w2, .ref w3, .ref w4])), (w1, .inl (cy 1, 5, .inl (fun _ => 0))), (w2, .inl (cy 1, 5, .inl (fun _ => 0))), (w3, .inl (cy 1, 5, .inl (fun _ => 0))), (w4, .inl (cy 1, 16, .inl (fun _ => 0))), (w5, .inl (cy 0, 14928, .inl (fun _ => 0))), (w6, .inl (cy 1, 2, .inl (fun _ => 0))), (w7, .inl (cy 1, 204, .inl (fun _ => 0)))] H := hP
  have hD : va_D A [(o, .inr (6, [.null, .null, .ref w0, .ref w5, .ref w6, .null, .null, .null, .int i_height, .int i_otherHeight, .int i_ops, .int i_ifs, .int i_ifsNotTaken, .int i_free, .null, .int i_tx, .int i_in, .null, .int i_messageIsThere])), (w0, .inr (8, [.ref w1, .ref w2, .ref w3, .ref w4])), (w1, .inl (cy 1, 5, .inl (fun _ => 0))), (w2, .inl (cy 1, 5, .inl (fun _ => 0))), (w3, .inl (cy 1, 5, .inl (fun _ => 0))), (w4, .inl (cy 1, 16, .inl (fun _ => 0))), (w5, .inl (cy 0, 14928, .inl (fun _ => 0))), (w6, .inl (cy 1, 2, .inl (fun _ => 0))), (w7, .inl (cy 1, 204, .inl (fun _ => 0)))] := hD
  refine va_putF (D := D) (ci := 6) (v := .ref w7) (ty := .array .int) (C := "CoinKeeper$Machine") (T := F_6) (N := 19) hx hb hts i_6 t_6 t_6_ok n_6 hown hK hP hD hS 0 rfl rfl 5 (by decide) (hts _ gw_209) (fun _ h9 => h9) rfl hnm rfl (by decide +kernel) rfl rfl (Nat.le_of_ble_eq_true rfl) d_Ma_init_37 (fun H locs hP hD hS => ?_)
  have hP : va_P D classes [(o, .inr (6, [.null, .null, .ref w0, .ref w5, .ref w6, .ref w7, .null, .null, .int i_height, .int i_otherHeight, .int i_ops, .int i_ifs, .int i_ifsNotTaken, .int i_free, .null, .int i_tx, .int i_in, .null, .int i_messageIsThere])), (w0, .inr (8, [.ref w1, .ref w2, .ref w3, .ref w4])), (w1, .inl (cy 1, 5, .inl (fun _ => 0))), (w2, .inl (cy 1, 5, .inl (fun _ => 0))), (w3, .inl (cy 1, 5, .inl (fun _ => 0))), (w4, .inl (cy 1, 16, .inl (fun _ => 0))), (w5, .inl (cy 0, 14928, .inl (fun _ => 0))), (w6, .inl (cy 1, 2, .inl (fun _ => 0))), (w7, .inl (cy 1, 204, .inl (fun _ => 0)))] H := hP
  have hD : va_D A [(o, .inr (6, [.null, .null, .ref w0, .ref w5, .ref w6, .ref w7, .null, .null, .int i_height, .int i_otherHeight, .int i_ops, .int i_ifs, .int i_ifsNotTaken, .int i_free, .null, .int i_tx, .int i_in, .null, .int i_messageIsThere])), (w0, .inr (8, [.ref w1, .ref w2, .ref w3, .ref w4])), (w1, .inl (cy 1, 5, .inl (fun _ => 0))), (w2, .inl (cy 1, 5, .inl (fun _ => 0))), (w3, .inl (cy 1, 5, .inl (fun _ => 0))), (w4, .inl (cy 1, 16, .inl (fun _ => 0))), (w5, .inl (cy 0, 14928, .inl (fun _ => 0))), (w6, .inl (cy 1, 2, .inl (fun _ => 0))), (w7, .inl (cy 1, 204, .inl (fun _ => 0)))] := hD
  refine lv_aload_n hx hb d_Ma_init_40 rfl (lv_at hl 0 rfl) ?_
  refine lv_sipush (v := 204) hx hb d_Ma_init_41 (by decide) ?_
  refine q_newa (ty := .int) (a0 := (204, .inl (fun _ => 0))) hx hb hts gw_61 rfl hK hP hD hS hA 1 rfl (fun _ h => h) (fun _ => rfl) (by decide) (by decide) (by decide) (Nat.le_of_ble_eq_true rfl) (Nat.le_of_ble_eq_true rfl) d_Ma_init_44 (fun w8 H hP hD hS => ?_)
  refine W.widen (k := 9) (n := 15373) (Nat.le_of_ble_eq_true rfl) (Nat.le_of_ble_eq_true rfl) ?_
  have hP : va_P D classes [(o, .inr (6, [.null, .null, .ref w0, .ref w5, .ref w6, .ref w7, .null, .null, .int i_height, .int i_otherHeight, .int i_ops, .int i_ifs, .int i_ifsNotTaken, .int i_free, .null, .int i_tx, .int i_in, .null, .int i_messageIsThere])), (w0, .inr (8, [.ref w1, .ref w2, .ref w3, .ref w4])), (w1, .inl (cy 1, 5, .inl (fun _ => 0))), (w2, .inl (cy 1, 5, .inl (fun _ => 0))), (w3, .inl (cy 1, 5, .inl (fun _ => 0))), (w4, .inl (cy 1, 16, .inl (fun _ => 0))), (w5, .inl (cy 0, 14928, .inl (fun _ => 0))), (w6, .inl (cy 1, 2, .inl (fun _ => 0))), (w7, .inl (cy 1, 204, .inl (fun _ => 0))), (w8, .inl (cy 1, 204, .inl (fun _ => 0)))] H := hP
  have hD : va_D A [(o, .inr (6, [.null, .null, .ref w0, .ref w5, .ref w6, .ref w7, .null, .null, .int i_height, .int i_otherHeight, .int i_ops, .int i_ifs, .int i_ifsNotTaken, .int i_free, .null, .int i_tx, .int i_in, .null, .int i_messageIsThere])), (w0, .inr (8, [.ref w1, .ref w2, .ref w3, .ref w4])), (w1, .inl (cy 1, 5, .inl (fun _ => 0))), (w2, .inl (cy 1, 5, .inl (fun _ => 0))), (w3, .inl (cy 1, 5, .inl (fun _ => 0))), (w4, .inl (cy 1, 16, .inl (fun _ => 0))), (w5, .inl (cy 0, 14928, .inl (fun _ => 0))), (w6, .inl (cy 1, 2, .inl (fun _ => 0))), (w7, .inl (cy 1, 204, .inl (fun _ => 0))), (w8, .inl (cy 1, 204, .inl (fun _ => 0)))] := hD
  refine va_putF (D := D) (ci := 6) (v := .ref w8) (ty := .array .int) (C := "CoinKeeper$Machine") (T := F_6) (N := 19) hx hb hts i_6 t_6 t_6_ok n_6 hown hK hP hD hS 0 rfl rfl 6 (by decide) (hts _ gw_210) (fun _ h9 => h9) rfl hnm rfl (by decide +kernel) rfl rfl (Nat.le_of_ble_eq_true rfl) d_Ma_init_46 (fun H locs hP hD hS => ?_)
  have hP : va_P D classes [(o, .inr (6, [.null, .null, .ref w0, .ref w5, .ref w6, .ref w7, .ref w8, .null, .int i_height, .int i_otherHeight, .int i_ops, .int i_ifs, .int i_ifsNotTaken, .int i_free, .null, .int i_tx, .int i_in, .null, .int i_messageIsThere])), (w0, .inr (8, [.ref w1, .ref w2, .ref w3, .ref w4])), (w1, .inl (cy 1, 5, .inl (fun _ => 0))), (w2, .inl (cy 1, 5, .inl (fun _ => 0))), (w3, .inl (cy 1, 5, .inl (fun _ => 0))), (w4, .inl (cy 1, 16, .inl (fun _ => 0))), (w5, .inl (cy 0, 14928, .inl (fun _ => 0))), (w6, .inl (cy 1, 2, .inl (fun _ => 0))), (w7, .inl (cy 1, 204, .inl (fun _ => 0))), (w8, .inl (cy 1, 204, .inl (fun _ => 0)))] H := hP
  have hD : va_D A [(o, .inr (6, [.null, .null, .ref w0, .ref w5, .ref w6, .ref w7, .ref w8, .null, .int i_height, .int i_otherHeight, .int i_ops, .int i_ifs, .int i_ifsNotTaken, .int i_free, .null, .int i_tx, .int i_in, .null, .int i_messageIsThere])), (w0, .inr (8, [.ref w1, .ref w2, .ref w3, .ref w4])), (w1, .inl (cy 1, 5, .inl (fun _ => 0))), (w2, .inl (cy 1, 5, .inl (fun _ => 0))), (w3, .inl (cy 1, 5, .inl (fun _ => 0))), (w4, .inl (cy 1, 16, .inl (fun _ => 0))), (w5, .inl (cy 0, 14928, .inl (fun _ => 0))), (w6, .inl (cy 1, 2, .inl (fun _ => 0))), (w7, .inl (cy 1, 204, .inl (fun _ => 0))), (w8, .inl (cy 1, 204, .inl (fun _ => 0)))] := hD
  refine lv_aload_n hx hb d_Ma_init_49 rfl (lv_at hl 0 rfl) ?_
  refine lv_sipush (v := 202) hx hb d_Ma_init_50 (by decide) ?_
  refine q_newa (ty := .boolean) (a0 := (202, .inl (fun _ => 0))) hx hb hts gw_262 rfl hK hP hD hS hA 3 rfl (fun _ h => h) (fun _ => rfl) (by decide) (by decide) (by decide) (Nat.le_of_ble_eq_true rfl) (Nat.le_of_ble_eq_true rfl) d_Ma_init_53 (fun w9 H hP hD hS => ?_)
  refine W.widen (k := 10) (n := 15575) (Nat.le_of_ble_eq_true rfl) (Nat.le_of_ble_eq_true rfl) ?_
  have hP : va_P D classes [(o, .inr (6, [.null, .null, .ref w0, .ref w5, .ref w6, .ref w7, .ref w8, .null, .int i_height, .int i_otherHeight, .int i_ops, .int i_ifs, .int i_ifsNotTaken, .int i_free, .null, .int i_tx, .int i_in, .null, .int i_messageIsThere])), (w0, .inr (8, [.ref w1, .ref w2, .ref w3, .ref w4])), (w1, .inl (cy 1, 5, .inl (fun _ => 0))), (w2, .inl (cy 1, 5, .inl (fun _ => 0))), (w3, .inl (cy 1, 5, .inl (fun _ => 0))), (w4, .inl (cy 1, 16, .inl (fun _ => 0))), (w5, .inl (cy 0, 14928, .inl (fun _ => 0))), (w6, .inl (cy 1, 2, .inl (fun _ => 0))), (w7, .inl (cy 1, 204, .inl (fun _ => 0))), (w8, .inl (cy 1, 204, .inl (fun _ => 0))), (w9, .inl (cy 3, 202, .inl (fun _ => 0)))] H := hP
  have hD : va_D A [(o, .inr (6, [.null, .null, .ref w0, .ref w5, .ref w6, .ref w7, .ref w8, .null, .int i_height, .int i_otherHeight, .int i_ops, .int i_ifs, .int i_ifsNotTaken, .int i_free, .null, .int i_tx, .int i_in, .null, .int i_messageIsThere])), (w0, .inr (8, [.ref w1, .ref w2, .ref w3, .ref w4])), (w1, .inl (cy 1, 5, .inl (fun _ => 0))), (w2, .inl (cy 1, 5, .inl (fun _ => 0))), (w3, .inl (cy 1, 5, .inl (fun _ => 0))), (w4, .inl (cy 1, 16, .inl (fun _ => 0))), (w5, .inl (cy 0, 14928, .inl (fun _ => 0))), (w6, .inl (cy 1, 2, .inl (fun _ => 0))), (w7, .inl (cy 1, 204, .inl (fun _ => 0))), (w8, .inl (cy 1, 204, .inl (fun _ => 0))), (w9, .inl (cy 3, 202, .inl (fun _ => 0)))] := hD
  refine va_putF (D := D) (ci := 6) (v := .ref w9) (ty := .array .boolean) (C := "CoinKeeper$Machine") (T := F_6) (N := 19) hx hb hts i_6 t_6 t_6_ok n_6 hown hK hP hD hS 0 rfl rfl 7 (by decide) (hts _ gw_211) (fun _ h9 => h9) rfl hnm rfl (by decide +kernel) rfl rfl (Nat.le_of_ble_eq_true rfl) d_Ma_init_55 (fun H locs hP hD hS => ?_)
  have hP : va_P D classes [(o, .inr (6, [.null, .null, .ref w0, .ref w5, .ref w6, .ref w7, .ref w8, .ref w9, .int i_height, .int i_otherHeight, .int i_ops, .int i_ifs, .int i_ifsNotTaken, .int i_free, .null, .int i_tx, .int i_in, .null, .int i_messageIsThere])), (w0, .inr (8, [.ref w1, .ref w2, .ref w3, .ref w4])), (w1, .inl (cy 1, 5, .inl (fun _ => 0))), (w2, .inl (cy 1, 5, .inl (fun _ => 0))), (w3, .inl (cy 1, 5, .inl (fun _ => 0))), (w4, .inl (cy 1, 16, .inl (fun _ => 0))), (w5, .inl (cy 0, 14928, .inl (fun _ => 0))), (w6, .inl (cy 1, 2, .inl (fun _ => 0))), (w7, .inl (cy 1, 204, .inl (fun _ => 0))), (w8, .inl (cy 1, 204, .inl (fun _ => 0))), (w9, .inl (cy 3, 202, .inl (fun _ => 0)))] H := hP
  have hD : va_D A [(o, .inr (6, [.null, .null, .ref w0, .ref w5, .ref w6, .ref w7, .ref w8, .ref w9, .int i_height, .int i_otherHeight, .int i_ops, .int i_ifs, .int i_ifsNotTaken, .int i_free, .null, .int i_tx, .int i_in, .null, .int i_messageIsThere])), (w0, .inr (8, [.ref w1, .ref w2, .ref w3, .ref w4])), (w1, .inl (cy 1, 5, .inl (fun _ => 0))), (w2, .inl (cy 1, 5, .inl (fun _ => 0))), (w3, .inl (cy 1, 5, .inl (fun _ => 0))), (w4, .inl (cy 1, 16, .inl (fun _ => 0))), (w5, .inl (cy 0, 14928, .inl (fun _ => 0))), (w6, .inl (cy 1, 2, .inl (fun _ => 0))), (w7, .inl (cy 1, 204, .inl (fun _ => 0))), (w8, .inl (cy 1, 204, .inl (fun _ => 0))), (w9, .inl (cy 3, 202, .inl (fun _ => 0)))] := hD
  refine lv_aload_n hx hb d_Ma_init_58 rfl (lv_at hl 0 rfl) ?_
  refine lv_aload_n hx hb d_Ma_init_59 rfl (lv_at hl 1 rfl) ?_
  refine va_putF (D := D) (ci := 6) (v := .ref o1) (ty := .object "CoinKeeper$Sha256") (C := "CoinKeeper$Machine") (T := F_6) (N := 19) hx hb hts i_6 t_6 t_6_ok n_6 hown hK hP hD hS 0 rfl rfl 0 (by decide) (hts _ gw_204) (fun _ h9 => h9) rfl hnm rfl (by decide +kernel) rfl rfl (Nat.le_of_ble_eq_true rfl) d_Ma_init_60 (fun H locs hP hD hS => ?_)
  have hP : va_P D classes [(o, .inr (6, [.ref o1, .null, .ref w0, .ref w5, .ref w6, .ref w7, .ref w8, .ref w9, .int i_height, .int i_otherHeight, .int i_ops, .int i_ifs, .int i_ifsNotTaken, .int i_free, .null, .int i_tx, .int i_in, .null, .int i_messageIsThere])), (w0, .inr (8, [.ref w1, .ref w2, .ref w3, .ref w4])), (w1, .inl (cy 1, 5, .inl (fun _ => 0))), (w2, .inl (cy 1, 5, .inl (fun _ => 0))), (w3, .inl (cy 1, 5, .inl (fun _ => 0))), (w4, .inl (cy 1, 16, .inl (fun _ => 0))), (w5, .inl (cy 0, 14928, .inl (fun _ => 0))), (w6, .inl (cy 1, 2, .inl (fun _ => 0))), (w7, .inl (cy 1, 204, .inl (fun _ => 0))), (w8, .inl (cy 1, 204, .inl (fun _ => 0))), (w9, .inl (cy 3, 202, .inl (fun _ => 0)))] H := hP
  have hD : va_D A [(o, .inr (6, [.ref o1, .null, .ref w0, .ref w5, .ref w6, .ref w7, .ref w8, .ref w9, .int i_height, .int i_otherHeight, .int i_ops, .int i_ifs, .int i_ifsNotTaken, .int i_free, .null, .int i_tx, .int i_in, .null, .int i_messageIsThere])), (w0, .inr (8, [.ref w1, .ref w2, .ref w3, .ref w4])), (w1, .inl (cy 1, 5, .inl (fun _ => 0))), (w2, .inl (cy 1, 5, .inl (fun _ => 0))), (w3, .inl (cy 1, 5, .inl (fun _ => 0))), (w4, .inl (cy 1, 16, .inl (fun _ => 0))), (w5, .inl (cy 0, 14928, .inl (fun _ => 0))), (w6, .inl (cy 1, 2, .inl (fun _ => 0))), (w7, .inl (cy 1, 204, .inl (fun _ => 0))), (w8, .inl (cy 1, 204, .inl (fun _ => 0))), (w9, .inl (cy 3, 202, .inl (fun _ => 0)))] := hD
  refine lv_aload_n hx hb d_Ma_init_63 rfl (lv_at hl 0 rfl) ?_
  refine lv_aload_n hx hb d_Ma_init_64 rfl (lv_at hl 2 rfl) ?_
  refine va_putF (D := D) (ci := 6) (v := .ref o2) (ty := .object "CoinKeeper$Signatures") (C := "CoinKeeper$Machine") (T := F_6) (N := 19) hx hb hts i_6 t_6 t_6_ok n_6 hown hK hP hD hS 0 rfl rfl 1 (by decide) (hts _ gw_205) (fun _ h9 => h9) rfl hnm rfl (by decide +kernel) rfl rfl (Nat.le_of_ble_eq_true rfl) d_Ma_init_65 (fun H locs hP hD hS => ?_)
  have hP : va_P D classes [(o, .inr (6, [.ref o1, .ref o2, .ref w0, .ref w5, .ref w6, .ref w7, .ref w8, .ref w9, .int i_height, .int i_otherHeight, .int i_ops, .int i_ifs, .int i_ifsNotTaken, .int i_free, .null, .int i_tx, .int i_in, .null, .int i_messageIsThere])), (w0, .inr (8, [.ref w1, .ref w2, .ref w3, .ref w4])), (w1, .inl (cy 1, 5, .inl (fun _ => 0))), (w2, .inl (cy 1, 5, .inl (fun _ => 0))), (w3, .inl (cy 1, 5, .inl (fun _ => 0))), (w4, .inl (cy 1, 16, .inl (fun _ => 0))), (w5, .inl (cy 0, 14928, .inl (fun _ => 0))), (w6, .inl (cy 1, 2, .inl (fun _ => 0))), (w7, .inl (cy 1, 204, .inl (fun _ => 0))), (w8, .inl (cy 1, 204, .inl (fun _ => 0))), (w9, .inl (cy 3, 202, .inl (fun _ => 0)))] H := hP
  have hD : va_D A [(o, .inr (6, [.ref o1, .ref o2, .ref w0, .ref w5, .ref w6, .ref w7, .ref w8, .ref w9, .int i_height, .int i_otherHeight, .int i_ops, .int i_ifs, .int i_ifsNotTaken, .int i_free, .null, .int i_tx, .int i_in, .null, .int i_messageIsThere])), (w0, .inr (8, [.ref w1, .ref w2, .ref w3, .ref w4])), (w1, .inl (cy 1, 5, .inl (fun _ => 0))), (w2, .inl (cy 1, 5, .inl (fun _ => 0))), (w3, .inl (cy 1, 5, .inl (fun _ => 0))), (w4, .inl (cy 1, 16, .inl (fun _ => 0))), (w5, .inl (cy 0, 14928, .inl (fun _ => 0))), (w6, .inl (cy 1, 2, .inl (fun _ => 0))), (w7, .inl (cy 1, 204, .inl (fun _ => 0))), (w8, .inl (cy 1, 204, .inl (fun _ => 0))), (w9, .inl (cy 3, 202, .inl (fun _ => 0)))] := hD
  refine lv_aload_n hx hb d_Ma_init_68 rfl (lv_at hl 0 rfl) ?_
  refine va_get (D := D) (ci := 6) (v := .ref w5) (C := "CoinKeeper$Machine") (T := F_6) (N := 19) hx hb hts i_6 hown hK hP 0 rfl rfl 3 (by decide) (hts _ gw_207) (fun _ h9 => h9) rfl d_Ma_init_69 ?_
  refine lv_bipush (v := 32) hx hb d_Ma_init_72 (by decide) ?_
  refine lv_bipush (v := (-127)) hx hb d_Ma_init_74 (by decide) ?_
  refine va_bast hx hb hK hP hD hS 6 0 rfl rfl (inb_in (by decide)) d_Ma_init_76 (fun H locs hP hD hS => ?_)
  obtain ⟨f1, ev, hf⟩ := bne hf
  have hP : va_P D classes [(o, .inr (6, [.ref o1, .ref o2, .ref w0, .ref w5, .ref w6, .ref w7, .ref w8, .ref w9, .int i_height, .int i_otherHeight, .int i_ops, .int i_ifs, .int i_ifsNotTaken, .int i_free, .null, .int i_tx, .int i_in, .null, .int i_messageIsThere])), (w0, .inr (8, [.ref w1, .ref w2, .ref w3, .ref w4])), (w1, .inl (cy 1, 5, .inl (fun _ => 0))), (w2, .inl (cy 1, 5, .inl (fun _ => 0))), (w3, .inl (cy 1, 5, .inl (fun _ => 0))), (w4, .inl (cy 1, 16, .inl (fun _ => 0))), (w5, .inl (cy 0, 14928, .inl f1)), (w6, .inl (cy 1, 2, .inl (fun _ => 0))), (w7, .inl (cy 1, 204, .inl (fun _ => 0))), (w8, .inl (cy 1, 204, .inl (fun _ => 0))), (w9, .inl (cy 3, 202, .inl (fun _ => 0)))] H := by rw [ev]; exact hP
  have hD : va_D A [(o, .inr (6, [.ref o1, .ref o2, .ref w0, .ref w5, .ref w6, .ref w7, .ref w8, .ref w9, .int i_height, .int i_otherHeight, .int i_ops, .int i_ifs, .int i_ifsNotTaken, .int i_free, .null, .int i_tx, .int i_in, .null, .int i_messageIsThere])), (w0, .inr (8, [.ref w1, .ref w2, .ref w3, .ref w4])), (w1, .inl (cy 1, 5, .inl (fun _ => 0))), (w2, .inl (cy 1, 5, .inl (fun _ => 0))), (w3, .inl (cy 1, 5, .inl (fun _ => 0))), (w4, .inl (cy 1, 16, .inl (fun _ => 0))), (w5, .inl (cy 0, 14928, .inl f1)), (w6, .inl (cy 1, 2, .inl (fun _ => 0))), (w7, .inl (cy 1, 204, .inl (fun _ => 0))), (w8, .inl (cy 1, 204, .inl (fun _ => 0))), (w9, .inl (cy 3, 202, .inl (fun _ => 0)))] := by rw [ev]; exact hD
  clear ev
  refine lv_iconst (v := 1) hx hb d_Ma_init_77 (by decide) ?_
  refine lv_istore_n (lv' := [(3, .int (1 : Int32)), (0, .ref o), (1, .ref o1), (2, .ref o2)]) hx hb d_Ma_init_78 rfl hl (by decide) rfl (fun ls hl => ?_)
  exact w_Ma_init_79 F fu _ _ _ hf _ _ _ _ _ _ _ _ _ _ _ _ _ hP hD hS (lv_sub hl [1, 0] rfl)
theorem c_Ma_init (l : Launch) (D : va_G) (cy : Nat → ClassId) (ad : Nat → Nat) (fu : Nat) (o : Nat) (o1 : Nat) (o2 : Nat) (i_height : Int32) (i_otherHeight : Int32) (i_ops : Int32) (i_ifs : Int32) (i_ifsNotTaken : Int32) (i_free : Int32) (i_tx : Int32) (i_in : Int32) (i_messageIsThere : Int32) (res : (Nat → Int32)) (hf : x_Ma_init fu i_height i_otherHeight i_ops i_ifs i_ifsNotTaken i_free i_tx i_in i_messageIsThere = some res) (sz : Nat) : Met l ({ cls := "CoinKeeper$Machine", name := "<init>", desc := "(LCoinKeeper$Sha256;LCoinKeeper$Signatures;)V" } : Jvm.MethodName) (.code ({ cls := "CoinKeeper$Machine", name := "<init>", desc := "(LCoinKeeper$Sha256;LCoinKeeper$Signatures;)V" } : Jvm.MethodName) b_Ma_init 4 none :: gw) rm_Ma_init (va_Pc [.ref o, .ref o1, .ref o2] (Pr D cy ad [(o, .inr (6, [.null, .null, .null, .null, .null, .null, .null, .null, .int i_height, .int i_otherHeight, .int i_ops, .int i_ifs, .int i_ifsNotTaken, .int i_free, .null, .int i_tx, .int i_in, .null, .int i_messageIsThere]))] sz)) (q_Ma_init D cy (va_A [(o, .inr (6, [.null, .null, .null, .null, .null, .null, .null, .null, .int i_height, .int i_otherHeight, .int i_ops, .int i_ifs, .int i_ifsNotTaken, .int i_free, .null, .int i_tx, .int i_in, .null, .int i_messageIsThere]))] sz) o o1 o2 i_height i_otherHeight i_ops i_ifs i_ifsNotTaken i_free i_tx i_in i_messageIsThere res) 10 15575 (va_A [(o, .inr (6, [.null, .null, .null, .null, .null, .null, .null, .null, .int i_height, .int i_otherHeight, .int i_ops, .int i_ifs, .int i_ifsNotTaken, .int i_free, .null, .int i_tx, .int i_in, .null, .int i_messageIsThere]))] sz) :=
  q_met (Qc := fun A => q_Ma_init D cy A o o1 o2 i_height i_otherHeight i_ops i_ifs i_ifsNotTaken i_free i_tx i_in i_messageIsThere res) (by decide) rfl rfl (Nat.le_of_ble_eq_true rfl) (fun p e s m below meth c ls F hP hD hS hl => we_Ma_init (fu := fu) F  res hf _ _ _ hP hD hS hl) sz
abbrev b_Ac_init : ByteArray := prog_26_method_1_code
theorem d_Ac_init_0 : decode b_Ac_init 0 = .ok (.aload_n 0, 1) := by decide +kernel
theorem d_Ac_init_1 : decode b_Ac_init 1 = .ok (.invokespecial 1, 3) := by decide +kernel
theorem d_Ac_init_4 : decode b_Ac_init 4 = .ok (.return_, 1) := by decide +kernel
abbrev rm_Ac_init : Room := { frames := 1, cells := 0, slots := 0, locals := 20 }
abbrev q_Ac_init (D : va_G) (cy : Nat → ClassId) (A : Nat → Prop) (o : Nat) (i_size : Int32) (i_modCount : Int32) (res : Unit) : Array Value → State → Outcome → State → Prop := va_Qv (fun (_ : Unit) => True) (fun _ t => Po D cy A [(o, .inr (11, [.null, .int i_size, .int i_modCount]))] t) A
def I_Ac_init_e (p : Program) (l : Launch) (e : Env) (s : State) (m : MethodId) (args : Array Value) (below : List Frame) (meth : Method) (c : Code) (D : va_G) (cy : Nat → ClassId) (A : Nat → Prop) (ad : Nat → Nat) (o : Nat) (i_size : Int32) (i_modCount : Int32) (k : Option (Unit)) : Prop :=
  ∀ (res : Unit), k  = some res → ∀ (H : Heap) (locs : List Loc) (ls : Array Slot), va_P D classes [(o, .inr (11, [.null, .int i_size, .int i_modCount]))] H → va_D A [(o, .inr (11, [.null, .int i_size, .int i_modCount]))] → va_S A s.heap H locs → lv_has ls 1 [(0, .ref o)] → W p l e rm_Ac_init s m args below meth c H locs 0 0 (MQ below (q_Ac_init D cy A o i_size i_modCount res) args s 0 0 A) (F0 m 0 ls [])
set_option maxHeartbeats 8000000 in
set_option maxRecDepth 100000 in
theorem we_Ac_init {p : Program} {l : Launch} {e : Env} {s : State} {m : MethodId} {args : Array Value} {below : List Frame} {meth : Method} {c : Code} {D : va_G} {cy : Nat → ClassId} {A : Nat → Prop} {ad : Nat → Nat} {o : Nat} {i_size : Int32} {i_modCount : Int32} {fu : Nat} (F : Fx p s m args meth c b_Ac_init 1 "java/util/AbstractCollection" "<init>" none D cy ad A) : I_Ac_init_e p l e s m args below meth c D cy A ad o i_size i_modCount (x_Ac_init fu i_size i_modCount) := by
  obtain ⟨hx, hb, hr, hml, hown, hts, hlocks, hK, hA, hSt, hnm, hex⟩ := id F
  intro  res hf H locs ls hP hD hS hl
  unfold x_Ac_init at hf
  refine lv_aload_n hx hb d_Ac_init_0 rfl (lv_at hl 0 rfl) ?_
  refine W.objInit hx hb hown (hts _ gw_348) (hts _ gw_36) (hts _ gw_37) rfl (by rw [hml]; exact hl.1) rfl d_Ac_init_1 (Nat.le_of_ble_eq_true rfl) (Nat.le_of_ble_eq_true rfl) ?_
  refine W.eq (g2 := F0 m 4 ls []) rfl ?_
  obtain rfl := Option.some.inj hf
  exact q_rv hx hb hr hlocks hK hP hD hS d_Ac_init_4
theorem c_Ac_init (l : Launch) (D : va_G) (cy : Nat → ClassId) (ad : Nat → Nat) (fu : Nat) (o : Nat) (i_size : Int32) (i_modCount : Int32) (res : Unit) (hf : x_Ac_init fu i_size i_modCount = some res) (sz : Nat) : Met l ({ cls := "java/util/AbstractCollection", name := "<init>", desc := "()V" } : Jvm.MethodName) (.code ({ cls := "java/util/AbstractCollection", name := "<init>", desc := "()V" } : Jvm.MethodName) b_Ac_init 1 none :: gw) rm_Ac_init (va_Pc [.ref o] (Pr D cy ad [(o, .inr (11, [.null, .int i_size, .int i_modCount]))] sz)) (q_Ac_init D cy (va_A [(o, .inr (11, [.null, .int i_size, .int i_modCount]))] sz) o i_size i_modCount res) 0 0 (va_A [(o, .inr (11, [.null, .int i_size, .int i_modCount]))] sz) :=
  q_met (Qc := fun A => q_Ac_init D cy A o i_size i_modCount res) (by decide) rfl rfl (Nat.le_of_ble_eq_true rfl) (fun p e s m below meth c ls F hP hD hS hl => we_Ac_init (fu := fu) F  res hf _ _ _ hP hD hS hl) sz
abbrev b_Ab_init : ByteArray := prog_27_method_1_code
theorem d_Ab_init_0 : decode b_Ab_init 0 = .ok (.aload_n 0, 1) := by decide +kernel
theorem d_Ab_init_1 : decode b_Ab_init 1 = .ok (.invokespecial 1, 3) := by decide +kernel
theorem d_Ab_init_4 : decode b_Ab_init 4 = .ok (.aload_n 0, 1) := by decide +kernel
theorem d_Ab_init_5 : decode b_Ab_init 5 = .ok (.iconst 0, 1) := by decide +kernel
theorem d_Ab_init_6 : decode b_Ab_init 6 = .ok (.putfield 7, 3) := by decide +kernel
theorem d_Ab_init_9 : decode b_Ab_init 9 = .ok (.return_, 1) := by decide +kernel
abbrev rm_Ab_init : Room := { frames := 2, cells := 0, slots := 0, locals := 40 }
abbrev q_Ab_init (D : va_G) (cy : Nat → ClassId) (A : Nat → Prop) (o : Nat) (i_size : Int32) (res : Int32) : Array Value → State → Outcome → State → Prop := va_Qv (fun (_ : Unit) => True) (fun _ t => Po D cy A [(o, .inr (11, [.null, .int i_size, .int res]))] t) A
def I_Ab_init_e (p : Program) (l : Launch) (e : Env) (s : State) (m : MethodId) (args : Array Value) (below : List Frame) (meth : Method) (c : Code) (D : va_G) (cy : Nat → ClassId) (A : Nat → Prop) (ad : Nat → Nat) (o : Nat) (i_size : Int32) (k : Int32 → Option (Int32)) : Prop :=
  ∀ (u0 : Int32) (res : Int32), k u0 = some res → ∀ (H : Heap) (locs : List Loc) (ls : Array Slot), va_P D classes [(o, .inr (11, [.null, .int i_size, .int u0]))] H → va_D A [(o, .inr (11, [.null, .int i_size, .int u0]))] → va_S A s.heap H locs → lv_has ls 1 [(0, .ref o)] → W p l e rm_Ab_init s m args below meth c H locs 0 0 (MQ below (q_Ab_init D cy A o i_size res) args s 0 0 A) (F0 m 0 ls [])
theorem hdd_66 : ({ cls := "java/util/AbstractCollection", name := "<init>", desc := "()V" } : Jvm.MethodName).cls ≠ "java/lang/invoke/MethodHandle" ∧ ({ cls := "java/util/AbstractCollection", name := "<init>", desc := "()V" } : Jvm.MethodName).cls ≠ "java/lang/invoke/VarHandle" ∧ (parseMethodDescriptor ({ cls := "java/util/AbstractCollection", name := "<init>", desc := "()V" } : Jvm.MethodName).desc).map (fun d => d.parameters.length) = some 0 := by decide +kernel
set_option maxHeartbeats 8000000 in
set_option maxRecDepth 100000 in
theorem we_Ab_init {p : Program} {l : Launch} {e : Env} {s : State} {m : MethodId} {args : Array Value} {below : List Frame} {meth : Method} {c : Code} {D : va_G} {cy : Nat → ClassId} {A : Nat → Prop} {ad : Nat → Nat} {o : Nat} {i_size : Int32} {fu : Nat} (F : Fx p s m args meth c b_Ab_init 1 "java/util/AbstractList" "<init>" none D cy ad A) : I_Ab_init_e p l e s m args below meth c D cy A ad o i_size (x_Ab_init fu i_size) := by
  obtain ⟨hx, hb, hr, hml, hown, hts, hlocks, hK, hA, hSt, hnm, hex⟩ := id F
  intro u0 res hf H locs ls hP hD hS hl
  unfold x_Ab_init at hf
  refine lv_aload_n hx hb d_Ab_init_0 rfl (lv_at hl 0 rfl) ?_
  obtain ⟨⟨⟩, hc, hf⟩ := bdp1 hf
  refine q_av (wr := []) (va_runI (As := []) (rest := []) ⟨hx, hb, hml, hown, hts⟩ (c_Ac_init l D cy ad fu o i_size u0 _ hc H.size) ⟨q_cB hts gw_347 gw_10 gw_345 hdd_66 ⟨by decide, by decide⟩, rfl, hts _ gw_346⟩ (q_pre (hP.sub [0] rfl) (hD.sub [0] (by decide) rfl) hK hSt hS (va_free hD hS hA [0] rfl) _) rfl rfl hl.1 rfl (lv_room (Nat.le_of_ble_eq_true rfl)) d_Ab_init_1 ⟨Nat.le_of_ble_eq_true rfl, Nat.le_of_ble_eq_true rfl⟩) hP hD hS hA [0] [] rfl rfl (by decide) (by decide) (fun H locs hP hD hS => ?_)
  clear hc
  have hP : va_P D classes [(o, .inr (11, [.null, .int i_size, .int u0]))] H := hP
  have hD : va_D A [(o, .inr (11, [.null, .int i_size, .int u0]))] := hD
  refine lv_aload_n hx hb d_Ab_init_4 rfl (lv_at hl 0 rfl) ?_
  refine lv_iconst (v := 0) hx hb d_Ab_init_5 (by decide) ?_
  refine va_put (D := D) (ci := 11) (v := .int (0 : Int32)) (ty := .int) (C := "java/util/ArrayList") (T := F_11) (N := 3) hx hb hts i_11 t_11 t_11_ok n_11 hown hK hP hD hS 0 rfl rfl 2 (by decide) (hts _ gw_353) (fun _ h9 => h9) rfl (by decide +kernel) rfl rfl (Nat.le_of_ble_eq_true rfl) d_Ab_init_6 (fun H locs hP hD hS => ?_)
  have hP : va_P D classes [(o, .inr (11, [.null, .int i_size, .int (0 : Int32)]))] H := hP
  have hD : va_D A [(o, .inr (11, [.null, .int i_size, .int (0 : Int32)]))] := hD
  obtain rfl := Option.some.inj hf
  exact q_rv hx hb hr hlocks hK hP hD hS d_Ab_init_9
theorem c_Ab_init (l : Launch) (D : va_G) (cy : Nat → ClassId) (ad : Nat → Nat) (fu : Nat) (o : Nat) (i_size : Int32) (u0 : Int32) (res : Int32) (hf : x_Ab_init fu i_size u0 = some res) (sz : Nat) : Met l ({ cls := "java/util/AbstractList", name := "<init>", desc := "()V" } : Jvm.MethodName) (.code ({ cls := "java/util/AbstractList", name := "<init>", desc := "()V" } : Jvm.MethodName) b_Ab_init 1 none :: gw) rm_Ab_init (va_Pc [.ref o] (Pr D cy ad [(o, .inr (11, [.null, .int i_size, .int u0]))] sz)) (q_Ab_init D cy (va_A [(o, .inr (11, [.null, .int i_size, .int u0]))] sz) o i_size res) 0 0 (va_A [(o, .inr (11, [.null, .int i_size, .int u0]))] sz) :=
  q_met (Qc := fun A => q_Ab_init D cy A o i_size res) (by decide) rfl rfl (Nat.le_of_ble_eq_true rfl) (fun p e s m below meth c ls F hP hD hS hl => we_Ab_init (fu := fu) F u0 res hf _ _ _ hP hD hS hl) sz
abbrev b_Al_init : ByteArray := prog_28_method_2_code
theorem d_Al_init_0 : decode b_Al_init 0 = .ok (.aload_n 0, 1) := by decide +kernel
theorem d_Al_init_1 : decode b_Al_init 1 = .ok (.invokespecial 1, 3) := by decide +kernel
theorem d_Al_init_4 : decode b_Al_init 4 = .ok (.aload_n 0, 1) := by decide +kernel
theorem d_Al_init_5 : decode b_Al_init 5 = .ok (.getstatic 39, 3) := by decide +kernel
theorem d_Al_init_8 : decode b_Al_init 8 = .ok (.putfield 9, 3) := by decide +kernel
theorem d_Al_init_11 : decode b_Al_init 11 = .ok (.return_, 1) := by decide +kernel
abbrev rm_Al_init : Room := { frames := 3, cells := 0, slots := 0, locals := 60 }
abbrev q_Al_init (D : va_G) (cy : Nat → ClassId) (A : Nat → Prop) (ad : Nat → Nat) (o : Nat) (i_size : Int32) (res : Int32) : Array Value → State → Outcome → State → Prop := va_Qv (fun (_ : Unit) => True) (fun _ t => Po D cy A [(o, .inr (11, [.ref (ad 26), .int i_size, .int res]))] t) A
def I_Al_init_e (p : Program) (l : Launch) (e : Env) (s : State) (m : MethodId) (args : Array Value) (below : List Frame) (meth : Method) (c : Code) (D : va_G) (cy : Nat → ClassId) (A : Nat → Prop) (ad : Nat → Nat) (o : Nat) (i_size : Int32) (k : Int32 → Option (Int32)) : Prop :=
  ∀ (u0 : Int32) (res : Int32), k u0 = some res → ∀ (H : Heap) (locs : List Loc) (ls : Array Slot), va_P D classes [(o, .inr (11, [.null, .int i_size, .int u0]))] H → va_D A [(o, .inr (11, [.null, .int i_size, .int u0]))] → va_S A s.heap H locs → lv_has ls 1 [(0, .ref o)] → W p l e rm_Al_init s m args below meth c H locs 0 0 (MQ below (q_Al_init D cy A ad o i_size res) args s 0 0 A) (F0 m 0 ls [])
theorem hdd_67 : ({ cls := "java/util/AbstractList", name := "<init>", desc := "()V" } : Jvm.MethodName).cls ≠ "java/lang/invoke/MethodHandle" ∧ ({ cls := "java/util/AbstractList", name := "<init>", desc := "()V" } : Jvm.MethodName).cls ≠ "java/lang/invoke/VarHandle" ∧ (parseMethodDescriptor ({ cls := "java/util/AbstractList", name := "<init>", desc := "()V" } : Jvm.MethodName).desc).map (fun d => d.parameters.length) = some 0 := by decide +kernel
set_option maxHeartbeats 8000000 in
set_option maxRecDepth 100000 in
theorem we_Al_init {p : Program} {l : Launch} {e : Env} {s : State} {m : MethodId} {args : Array Value} {below : List Frame} {meth : Method} {c : Code} {D : va_G} {cy : Nat → ClassId} {A : Nat → Prop} {ad : Nat → Nat} {o : Nat} {i_size : Int32} {fu : Nat} (F : Fx p s m args meth c b_Al_init 1 "java/util/ArrayList" "<init>" none D cy ad A) : I_Al_init_e p l e s m args below meth c D cy A ad o i_size (x_Al_init fu i_size) := by
  obtain ⟨hx, hb, hr, hml, hown, hts, hlocks, hK, hA, hSt, hnm, hex⟩ := id F
  intro u0 res hf H locs ls hP hD hS hl
  unfold x_Al_init at hf
  refine lv_aload_n hx hb d_Al_init_0 rfl (lv_at hl 0 rfl) ?_
  obtain ⟨e1, hc, hf⟩ := bdp1 hf
  refine q_av (wr := []) (va_runI (As := []) (rest := []) ⟨hx, hb, hml, hown, hts⟩ (c_Ab_init l D cy ad fu o i_size u0 _ hc H.size) ⟨q_cB hts gw_344 gw_11 gw_342 hdd_67 ⟨by decide, by decide⟩, rfl, hts _ gw_343⟩ (q_pre (hP.sub [0] rfl) (hD.sub [0] (by decide) rfl) hK hSt hS (va_free hD hS hA [0] rfl) _) rfl rfl hl.1 rfl (lv_room (Nat.le_of_ble_eq_true rfl)) d_Al_init_1 ⟨Nat.le_of_ble_eq_true rfl, Nat.le_of_ble_eq_true rfl⟩) hP hD hS hA [0] [] rfl rfl (by decide) (by decide) (fun H locs hP hD hS => ?_)
  clear hc
  have hP : va_P D classes [(o, .inr (11, [.null, .int i_size, .int e1]))] H := hP
  have hD : va_D A [(o, .inr (11, [.null, .int i_size, .int e1]))] := hD
  refine lv_aload_n hx hb d_Al_init_4 rfl (lv_at hl 0 rfl) ?_
  refine va_gets hx hb (hSt.1 26 _ rfl).1 hS hown (hts _ gw_349) (fun _ h9 => h9) d_Al_init_5 ?_
  refine va_put (D := D) (ci := 11) (v := .ref (ad 26)) (ty := .array (.object "java/lang/Object")) (C := "java/util/ArrayList") (T := F_11) (N := 3) hx hb hts i_11 t_11 t_11_ok n_11 hown hK hP hD hS 0 rfl rfl 0 (by decide) (hts _ gw_351) (fun _ h9 => h9) rfl (by decide +kernel) rfl rfl (Nat.le_of_ble_eq_true rfl) d_Al_init_8 (fun H locs hP hD hS => ?_)
  have hP : va_P D classes [(o, .inr (11, [.ref (ad 26), .int i_size, .int e1]))] H := hP
  have hD : va_D A [(o, .inr (11, [.ref (ad 26), .int i_size, .int e1]))] := hD
  obtain rfl := Option.some.inj hf
  exact q_rv hx hb hr hlocks hK hP hD hS d_Al_init_11
theorem c_Al_init (l : Launch) (D : va_G) (cy : Nat → ClassId) (ad : Nat → Nat) (fu : Nat) (o : Nat) (i_size : Int32) (u0 : Int32) (res : Int32) (hf : x_Al_init fu i_size u0 = some res) (sz : Nat) : Met l ({ cls := "java/util/ArrayList", name := "<init>", desc := "()V" } : Jvm.MethodName) (.code ({ cls := "java/util/ArrayList", name := "<init>", desc := "()V" } : Jvm.MethodName) b_Al_init 1 none :: gw) rm_Al_init (va_Pc [.ref o] (Pr D cy ad [(o, .inr (11, [.null, .int i_size, .int u0]))] sz)) (q_Al_init D cy (va_A [(o, .inr (11, [.null, .int i_size, .int u0]))] sz) ad o i_size res) 0 0 (va_A [(o, .inr (11, [.null, .int i_size, .int u0]))] sz) :=
  q_met (Qc := fun A => q_Al_init D cy A ad o i_size res) (by decide) rfl rfl (Nat.le_of_ble_eq_true rfl) (fun p e s m below meth c ls F hP hD hS hl => we_Al_init (fu := fu) F u0 res hf _ _ _ hP hD hS hl) sz
abbrev b_Le_init : ByteArray := prog_6_method_1_code
theorem d_Le_init_0 : decode b_Le_init 0 = .ok (.aload_n 0, 1) := by decide +kernel
theorem d_Le_init_1 : decode b_Le_init 1 = .ok (.invokespecial 1, 3) := by decide +kernel
theorem d_Le_init_4 : decode b_Le_init 4 = .ok (.aload_n 0, 1) := by decide +kernel
theorem d_Le_init_5 : decode b_Le_init 5 = .ok (.new 7, 3) := by decide +kernel
theorem d_Le_init_8 : decode b_Le_init 8 = .ok (.dup, 1) := by decide +kernel
theorem d_Le_init_9 : decode b_Le_init 9 = .ok (.invokespecial 9, 3) := by decide +kernel
theorem d_Le_init_12 : decode b_Le_init 12 = .ok (.putfield 10, 3) := by decide +kernel
theorem d_Le_init_15 : decode b_Le_init 15 = .ok (.aload_n 0, 1) := by decide +kernel
theorem d_Le_init_16 : decode b_Le_init 16 = .ok (.new 7, 3) := by decide +kernel
theorem d_Le_init_19 : decode b_Le_init 19 = .ok (.dup, 1) := by decide +kernel
theorem d_Le_init_20 : decode b_Le_init 20 = .ok (.invokespecial 9, 3) := by decide +kernel
theorem d_Le_init_23 : decode b_Le_init 23 = .ok (.putfield 16, 3) := by decide +kernel
theorem d_Le_init_26 : decode b_Le_init 26 = .ok (.return_, 1) := by decide +kernel
abbrev rm_Le_init : Room := { frames := 4, cells := 2, slots := 6, locals := 80 }
abbrev q_Le_init (D : va_G) (cy : Nat → ClassId) (A : Nat → Prop) (ad : Nat → Nat) (o : Nat) (res : Int32 × Int32) : Array Value → State → Outcome → State → Prop := va_Qv (fun (_ : Nat × Nat) => True) (fun u t => Po D cy A [(o, .inr (5, [.ref u.1, .ref u.2])), (u.1, .inr (11, [.ref (ad 26), .int (0 : Int32), .int res.1])), (u.2, .inr (11, [.ref (ad 26), .int (0 : Int32), .int res.2]))] t) A
def I_Le_init_e (p : Program) (l : Launch) (e : Env) (s : State) (m : MethodId) (args : Array Value) (below : List Frame) (meth : Method) (c : Code) (D : va_G) (cy : Nat → ClassId) (A : Nat → Prop) (ad : Nat → Nat) (o : Nat) (k : Option (Int32 × Int32)) : Prop :=
  ∀ (res : Int32 × Int32), k  = some res → ∀ (H : Heap) (locs : List Loc) (ls : Array Slot), va_P D classes [(o, .inr (5, [.null, .null]))] H → va_D A [(o, .inr (5, [.null, .null]))] → va_S A s.heap H locs → lv_has ls 1 [(0, .ref o)] → W p l e rm_Le_init s m args below meth c H locs 0 0 (MQ below (q_Le_init D cy A ad o res) args s 2 6 A) (F0 m 0 ls [])
theorem hdd_68 : ({ cls := "java/util/ArrayList", name := "<init>", desc := "()V" } : Jvm.MethodName).cls ≠ "java/lang/invoke/MethodHandle" ∧ ({ cls := "java/util/ArrayList", name := "<init>", desc := "()V" } : Jvm.MethodName).cls ≠ "java/lang/invoke/VarHandle" ∧ (parseMethodDescriptor ({ cls := "java/util/ArrayList", name := "<init>", desc := "()V" } : Jvm.MethodName).desc).map (fun d => d.parameters.length) = some 0 := by decide +kernel
set_option maxHeartbeats 8000000 in
set_option maxRecDepth 100000 in
theorem we_Le_init {p : Program} {l : Launch} {e : Env} {s : State} {m : MethodId} {args : Array Value} {below : List Frame} {meth : Method} {c : Code} {D : va_G} {cy : Nat → ClassId} {A : Nat → Prop} {ad : Nat → Nat} {o : Nat} {fu : Nat} (F : Fx p s m args meth c b_Le_init 1 "CoinKeeper$Ledger" "<init>" none D cy ad A) : I_Le_init_e p l e s m args below meth c D cy A ad o (x_Le_init fu) := by
  obtain ⟨hx, hb, hr, hml, hown, hts, hlocks, hK, hA, hSt, hnm, hex⟩ := id F
  intro  res hf H locs ls hP hD hS hl
  unfold x_Le_init at hf
  refine lv_aload_n hx hb d_Le_init_0 rfl (lv_at hl 0 rfl) ?_
  refine W.objInit hx hb hown (hts _ gw_336) (hts _ gw_36) (hts _ gw_37) rfl (by rw [hml]; exact hl.1) rfl d_Le_init_1 (Nat.le_of_ble_eq_true rfl) (Nat.le_of_ble_eq_true rfl) ?_
  refine W.eq (g2 := F0 m 4 ls []) rfl ?_
  refine lv_aload_n hx hb d_Le_init_4 rfl (lv_at hl 0 rfl) ?_
  refine va_new (ci := 11) (fs := [.null, .int (0 : Int32), .int (0 : Int32)]) (C := "java/util/ArrayList") (T := F_11) (N := 3) hx hb hts i_11 t_11 t_11_ok hown (hts _ gw_337) (hts _ gw_338) (hts _ gw_12) hK hP hD hS hA rfl df_11 (Nat.le_of_ble_eq_true rfl) (Nat.le_of_ble_eq_true rfl) d_Le_init_5 (fun w0 H hP hD hS => ?_)
  refine W.widen (k := 1) (n := 3) (Nat.le_of_ble_eq_true rfl) (Nat.le_of_ble_eq_true rfl) ?_
  have hP : va_P D classes [(o, .inr (5, [.null, .null])), (w0, .inr (11, [.null, .int (0 : Int32), .int (0 : Int32)]))] H := hP
  have hD : va_D A [(o, .inr (5, [.null, .null])), (w0, .inr (11, [.null, .int (0 : Int32), .int (0 : Int32)]))] := hD
  refine lv_dup hx hb d_Le_init_8 rfl ?_
  obtain ⟨e1, hc, hf⟩ := bdp1 hf
  refine q_av (wr := [(o, .inr (5, [.null, .null]))]) (va_runI (As := []) (rest := [.ref w0, .ref o]) ⟨hx, hb, hml, hown, hts⟩ (c_Al_init l D cy ad fu w0 (0 : Int32) (0 : Int32) _ hc H.size) ⟨q_cB hts gw_341 gw_12 gw_339 hdd_68 ⟨by decide, by decide⟩, rfl, hts _ gw_340⟩ (q_pre (hP.sub [1] rfl) (hD.sub [1] (by decide) rfl) hK hSt hS (va_free hD hS hA [1] rfl) _) rfl rfl hl.1 rfl (lv_room (Nat.le_of_ble_eq_true rfl)) d_Le_init_9 ⟨Nat.le_of_ble_eq_true rfl, Nat.le_of_ble_eq_true rfl⟩) hP hD hS hA [1] [0] rfl rfl (by decide) (by decide) (fun H locs hP hD hS => ?_)
  clear hc
  have hP : va_P D classes [(o, .inr (5, [.null, .null])), (w0, .inr (11, [.ref (ad 26), .int (0 : Int32), .int e1]))] H := hP
  have hD : va_D A [(o, .inr (5, [.null, .null])), (w0, .inr (11, [.ref (ad 26), .int (0 : Int32), .int e1]))] := hD
  refine va_putF (D := D) (ci := 5) (v := .ref w0) (ty := .object "java/util/ArrayList") (C := "CoinKeeper$Ledger") (T := F_5) (N := 2) hx hb hts i_5 t_5 t_5_ok n_5 hown hK hP hD hS 0 rfl rfl 0 (by decide) (hts _ gw_363) (fun _ h9 => h9) rfl hnm rfl (by decide +kernel) rfl rfl (Nat.le_of_ble_eq_true rfl) d_Le_init_12 (fun H locs hP hD hS => ?_)
  have hP : va_P D classes [(o, .inr (5, [.ref w0, .null])), (w0, .inr (11, [.ref (ad 26), .int (0 : Int32), .int e1]))] H := hP
  have hD : va_D A [(o, .inr (5, [.ref w0, .null])), (w0, .inr (11, [.ref (ad 26), .int (0 : Int32), .int e1]))] := hD
  refine lv_aload_n hx hb d_Le_init_15 rfl (lv_at hl 0 rfl) ?_
  refine va_new (ci := 11) (fs := [.null, .int (0 : Int32), .int (0 : Int32)]) (C := "java/util/ArrayList") (T := F_11) (N := 3) hx hb hts i_11 t_11 t_11_ok hown (hts _ gw_337) (hts _ gw_338) (hts _ gw_12) hK hP hD hS hA rfl df_11 (Nat.le_of_ble_eq_true rfl) (Nat.le_of_ble_eq_true rfl) d_Le_init_16 (fun w1 H hP hD hS => ?_)
  refine W.widen (k := 2) (n := 6) (Nat.le_of_ble_eq_true rfl) (Nat.le_of_ble_eq_true rfl) ?_
  have hP : va_P D classes [(o, .inr (5, [.ref w0, .null])), (w0, .inr (11, [.ref (ad 26), .int (0 : Int32), .int e1])), (w1, .inr (11, [.null, .int (0 : Int32), .int (0 : Int32)]))] H := hP
  have hD : va_D A [(o, .inr (5, [.ref w0, .null])), (w0, .inr (11, [.ref (ad 26), .int (0 : Int32), .int e1])), (w1, .inr (11, [.null, .int (0 : Int32), .int (0 : Int32)]))] := hD
  refine lv_dup hx hb d_Le_init_19 rfl ?_
  obtain ⟨e2, hc, hf⟩ := bdp1 hf
  refine q_av (wr := [(o, .inr (5, [.ref w0, .null])), (w0, .inr (11, [.ref (ad 26), .int (0 : Int32), .int e1]))]) (va_runI (As := []) (rest := [.ref w1, .ref o]) ⟨hx, hb, hml, hown, hts⟩ (c_Al_init l D cy ad fu w1 (0 : Int32) (0 : Int32) _ hc H.size) ⟨q_cB hts gw_341 gw_12 gw_339 hdd_68 ⟨by decide, by decide⟩, rfl, hts _ gw_340⟩ (q_pre (hP.sub [2] rfl) (hD.sub [2] (by decide) rfl) hK hSt hS (va_free hD hS hA [2] rfl) _) rfl rfl hl.1 rfl (lv_room (Nat.le_of_ble_eq_true rfl)) d_Le_init_20 ⟨Nat.le_of_ble_eq_true rfl, Nat.le_of_ble_eq_true rfl⟩) hP hD hS hA [2] [0, 1] rfl rfl (by decide) (by decide) (fun H locs hP hD hS => ?_)
  clear hc
  have hP : va_P D classes [(o, .inr (5, [.ref w0, .null])), (w0, .inr (11, [.ref (ad 26), .int (0 : Int32), .int e1])), (w1, .inr (11, [.ref (ad 26), .int (0 : Int32), .int e2]))] H := hP
  have hD : va_D A [(o, .inr (5, [.ref w0, .null])), (w0, .inr (11, [.ref (ad 26), .int (0 : Int32), .int e1])), (w1, .inr (11, [.ref (ad 26), .int (0 : Int32), .int e2]))] := hD
  refine va_putF (D := D) (ci := 5) (v := .ref w1) (ty := .object "java/util/ArrayList") (C := "CoinKeeper$Ledger") (T := F_5) (N := 2) hx hb hts i_5 t_5 t_5_ok n_5 hown hK hP hD hS 0 rfl rfl 1 (by decide) (hts _ gw_364) (fun _ h9 => h9) rfl hnm rfl (by decide +kernel) rfl rfl (Nat.le_of_ble_eq_true rfl) d_Le_init_23 (fun H locs hP hD hS => ?_)
  have hP : va_P D classes [(o, .inr (5, [.ref w0, .ref w1])), (w0, .inr (11, [.ref (ad 26), .int (0 : Int32), .int e1])), (w1, .inr (11, [.ref (ad 26), .int (0 : Int32), .int e2]))] H := hP
  have hD : va_D A [(o, .inr (5, [.ref w0, .ref w1])), (w0, .inr (11, [.ref (ad 26), .int (0 : Int32), .int e1])), (w1, .inr (11, [.ref (ad 26), .int (0 : Int32), .int e2]))] := hD
  obtain rfl := Option.some.inj hf
  exact q_rvS (u := (w0, w1)) hx hb hr hlocks hK hP hD hS d_Le_init_26
theorem c_Le_init (l : Launch) (D : va_G) (cy : Nat → ClassId) (ad : Nat → Nat) (fu : Nat) (o : Nat) (res : Int32 × Int32) (hf : x_Le_init fu = some res) (sz : Nat) : Met l ({ cls := "CoinKeeper$Ledger", name := "<init>", desc := "()V" } : Jvm.MethodName) (.code ({ cls := "CoinKeeper$Ledger", name := "<init>", desc := "()V" } : Jvm.MethodName) b_Le_init 1 none :: gw) rm_Le_init (va_Pc [.ref o] (Pr D cy ad [(o, .inr (5, [.null, .null]))] sz)) (q_Le_init D cy (va_A [(o, .inr (5, [.null, .null]))] sz) ad o res) 2 6 (va_A [(o, .inr (5, [.null, .null]))] sz) :=
  q_met (Qc := fun A => q_Le_init D cy A ad o res) (by decide) rfl rfl (Nat.le_of_ble_eq_true rfl) (fun p e s m below meth c ls F hP hD hS hl => we_Le_init (fu := fu) F  res hf _ _ _ hP hD hS hl) sz
abbrev b_Bl_init : ByteArray := prog_2_method_1_code
theorem d_Bl_init_0 : decode b_Bl_init 0 = .ok (.aload_n 0, 1) := by decide +kernel
theorem d_Bl_init_1 : decode b_Bl_init 1 = .ok (.invokespecial 1, 3) := by decide +kernel
theorem d_Bl_init_4 : decode b_Bl_init 4 = .ok (.aload_n 0, 1) := by decide +kernel
theorem d_Bl_init_5 : decode b_Bl_init 5 = .ok (.aload_n 1, 1) := by decide +kernel
theorem d_Bl_init_6 : decode b_Bl_init 6 = .ok (.putfield 7, 3) := by decide +kernel
theorem d_Bl_init_9 : decode b_Bl_init 9 = .ok (.aload_n 0, 1) := by decide +kernel
theorem d_Bl_init_10 : decode b_Bl_init 10 = .ok (.aload_n 2, 1) := by decide +kernel
theorem d_Bl_init_11 : decode b_Bl_init 11 = .ok (.putfield 13, 3) := by decide +kernel
theorem d_Bl_init_14 : decode b_Bl_init 14 = .ok (.aload_n 0, 1) := by decide +kernel
theorem d_Bl_init_15 : decode b_Bl_init 15 = .ok (.aload_n 3, 1) := by decide +kernel
theorem d_Bl_init_16 : decode b_Bl_init 16 = .ok (.putfield 17, 3) := by decide +kernel
theorem d_Bl_init_19 : decode b_Bl_init 19 = .ok (.aload_n 0, 1) := by decide +kernel
theorem d_Bl_init_20 : decode b_Bl_init 20 = .ok (.aload 4, 2) := by decide +kernel
theorem d_Bl_init_22 : decode b_Bl_init 22 = .ok (.putfield 20, 3) := by decide +kernel
theorem d_Bl_init_25 : decode b_Bl_init 25 = .ok (.aload_n 1, 1) := by decide +kernel
theorem d_Bl_init_26 : decode b_Bl_init 26 = .ok (.ifnonnull 7, 3) := by decide +kernel
theorem d_Bl_init_29 : decode b_Bl_init 29 = .ok (.iconst 1, 1) := by decide +kernel
theorem d_Bl_init_30 : decode b_Bl_init 30 = .ok (.goto 4, 3) := by decide +kernel
theorem d_Bl_init_33 : decode b_Bl_init 33 = .ok (.iconst 0, 1) := by decide +kernel
theorem d_Bl_init_34 : decode b_Bl_init 34 = .ok (.istore 5, 2) := by decide +kernel
theorem d_Bl_init_36 : decode b_Bl_init 36 = .ok (.aload_n 0, 1) := by decide +kernel
theorem d_Bl_init_37 : decode b_Bl_init 37 = .ok (.iload 5, 2) := by decide +kernel
theorem d_Bl_init_39 : decode b_Bl_init 39 = .ok (.ifCond .eq 7, 3) := by decide +kernel
theorem d_Bl_init_42 : decode b_Bl_init 42 = .ok (.iconst 0, 1) := by decide +kernel
theorem d_Bl_init_43 : decode b_Bl_init 43 = .ok (.goto 9, 3) := by decide +kernel
theorem d_Bl_init_46 : decode b_Bl_init 46 = .ok (.aload_n 1, 1) := by decide +kernel
theorem d_Bl_init_47 : decode b_Bl_init 47 = .ok (.getfield 23, 3) := by decide +kernel
theorem d_Bl_init_50 : decode b_Bl_init 50 = .ok (.iconst 1, 1) := by decide +kernel
theorem d_Bl_init_51 : decode b_Bl_init 51 = .ok (.iadd, 1) := by decide +kernel
theorem d_Bl_init_52 : decode b_Bl_init 52 = .ok (.putfield 23, 3) := by decide +kernel
theorem d_Bl_init_55 : decode b_Bl_init 55 = .ok (.aload_n 0, 1) := by decide +kernel
theorem d_Bl_init_56 : decode b_Bl_init 56 = .ok (.iload 5, 2) := by decide +kernel
theorem d_Bl_init_58 : decode b_Bl_init 58 = .ok (.ifCond .eq 9, 3) := by decide +kernel
theorem d_Bl_init_61 : decode b_Bl_init 61 = .ok (.ldc2_w 27, 3) := by decide +kernel
theorem d_Bl_init_64 : decode b_Bl_init 64 = .ok (.goto 14, 3) := by decide +kernel
theorem d_Bl_init_67 : decode b_Bl_init 67 = .ok (.aload_n 2, 1) := by decide +kernel
theorem d_Bl_init_68 : decode b_Bl_init 68 = .ok (.bipush 68, 2) := by decide +kernel
theorem d_Bl_init_70 : decode b_Bl_init 70 = .ok (.invokestatic 29, 3) := by decide +kernel
theorem d_Bl_init_73 : decode b_Bl_init 73 = .ok (.i2l, 1) := by decide +kernel
theorem d_Bl_init_74 : decode b_Bl_init 74 = .ok (.ldc2_w 35, 3) := by decide +kernel
theorem d_Bl_init_77 : decode b_Bl_init 77 = .ok (.land, 1) := by decide +kernel
theorem d_Bl_init_78 : decode b_Bl_init 78 = .ok (.putfield 37, 3) := by decide +kernel
theorem d_Bl_init_81 : decode b_Bl_init 81 = .ok (.aload_n 0, 1) := by decide +kernel
theorem d_Bl_init_82 : decode b_Bl_init 82 = .ok (.iload 5, 2) := by decide +kernel
theorem d_Bl_init_84 : decode b_Bl_init 84 = .ok (.ifCond .eq 8, 3) := by decide +kernel
theorem d_Bl_init_87 : decode b_Bl_init 87 = .ok (.ldc 41, 2) := by decide +kernel
theorem d_Bl_init_89 : decode b_Bl_init 89 = .ok (.goto 9, 3) := by decide +kernel
theorem d_Bl_init_92 : decode b_Bl_init 92 = .ok (.aload_n 2, 1) := by decide +kernel
theorem d_Bl_init_93 : decode b_Bl_init 93 = .ok (.bipush 72, 2) := by decide +kernel
theorem d_Bl_init_95 : decode b_Bl_init 95 = .ok (.invokestatic 29, 3) := by decide +kernel
theorem d_Bl_init_98 : decode b_Bl_init 98 = .ok (.putfield 42, 3) := by decide +kernel
theorem d_Bl_init_101 : decode b_Bl_init 101 = .ok (.aload_n 0, 1) := by decide +kernel
theorem d_Bl_init_102 : decode b_Bl_init 102 = .ok (.aload_n 0, 1) := by decide +kernel
theorem d_Bl_init_103 : decode b_Bl_init 103 = .ok (.getfield 42, 3) := by decide +kernel
theorem d_Bl_init_106 : decode b_Bl_init 106 = .ok (.invokestatic 45, 3) := by decide +kernel
theorem d_Bl_init_109 : decode b_Bl_init 109 = .ok (.iload 5, 2) := by decide +kernel
theorem d_Bl_init_111 : decode b_Bl_init 111 = .ok (.ifCond .eq 7, 3) := by decide +kernel
theorem d_Bl_init_114 : decode b_Bl_init 114 = .ok (.lconst 0, 1) := by decide +kernel
theorem d_Bl_init_115 : decode b_Bl_init 115 = .ok (.goto 7, 3) := by decide +kernel
theorem d_Bl_init_118 : decode b_Bl_init 118 = .ok (.aload_n 1, 1) := by decide +kernel
theorem d_Bl_init_119 : decode b_Bl_init 119 = .ok (.getfield 49, 3) := by decide +kernel
theorem d_Bl_init_122 : decode b_Bl_init 122 = .ok (.ladd, 1) := by decide +kernel
theorem d_Bl_init_123 : decode b_Bl_init 123 = .ok (.putfield 49, 3) := by decide +kernel
theorem d_Bl_init_126 : decode b_Bl_init 126 = .ok (.return_, 1) := by decide +kernel
abbrev rm_Bl_init_z1 : Room := { frames := 1, cells := 0, slots := 0, locals := 27 }
abbrev q_Bl_init_z1 (D : va_G) (cy : Nat → ClassId) (A : Nat → Prop) (o : Nat) (b2 : Nat) (b3 : Nat) (b4 : Nat) (i_bad : Int32) (i_valid : Int32) (i_mark : Int32) (n2 : Nat) (h2 : Nat → Int32) (n3 : Nat) (h3 : Nat → Int32) (n4 : Nat) (h4 : Nat → Int32) (res : Int32 × Int64 × Int32 × Int64) : Array Value → State → Outcome → State → Prop := va_Qv (fun (_ : Unit) => True) (fun _ t => Po D cy A [(o, .inr (1, [.null, .ref b2, .ref b3, .ref b4, .int res.1, .long res.2.1, .int res.2.2.1, .long res.2.2.2, .null, .int i_bad, .int i_valid, .int i_mark])), (b2, .inl (cy 0, n2, .inl h2)), (b3, .inl (cy 0, n3, .inl h3)), (b4, .inl (cy 0, n4, .inl h4))] t) A
def I_Bl_init_z1_e (p : Program) (l : Launch) (e : Env) (s : State) (m : MethodId) (args : Array Value) (below : List Frame) (meth : Method) (c : Code) (D : va_G) (cy : Nat → ClassId) (A : Nat → Prop) (ad : Nat → Nat) (o : Nat) (b2 : Nat) (b3 : Nat) (b4 : Nat) (i_bad : Int32) (i_valid : Int32) (i_mark : Int32) (n2 : Nat) (h2 : Nat → Int32) (n3 : Nat) (h3 : Nat → Int32) (n4 : Nat) (h4 : Nat → Int32) (k : Int32 → Int64 → Int32 → Int64 → Option (Int32 × Int64 × Int32 × Int64)) : Prop :=
  ∀ (u0 : Int32) (u1 : Int64) (u2 : Int32) (u3 : Int64) (res : Int32 × Int64 × Int32 × Int64), k u0 u1 u2 u3 = some res → ∀ (H : Heap) (locs : List Loc) (ls : Array Slot), va_P D classes [(o, .inr (1, [.null, .null, .null, .null, .int u0, .long u1, .int u2, .long u3, .null, .int i_bad, .int i_valid, .int i_mark])), (b2, .inl (cy 0, n2, .inl h2)), (b3, .inl (cy 0, n3, .inl h3)), (b4, .inl (cy 0, n4, .inl h4))] H → va_D A [(o, .inr (1, [.null, .null, .null, .null, .int u0, .long u1, .int u2, .long u3, .null, .int i_bad, .int i_valid, .int i_mark])), (b2, .inl (cy 0, n2, .inl h2)), (b3, .inl (cy 0, n3, .inl h3)), (b4, .inl (cy 0, n4, .inl h4))] → va_S A s.heap H locs → lv_has ls 6 [(0, .ref o), (1, .null), (2, .ref b2), (3, .ref b3), (4, .ref b4)] → W p l e rm_Bl_init_z1 s m args below meth c H locs 0 0 (MQ below (q_Bl_init_z1 D cy A o b2 b3 b4 i_bad i_valid i_mark n2 h2 n3 h3 n4 h4 res) args s 0 0 A) (F0 m 0 ls [])
theorem hdd_69 : ({ cls := "CoinKeeper$Block", name := "workOf", desc := "(I)J" } : Jvm.MethodName).cls ≠ "java/lang/invoke/MethodHandle" ∧ ({ cls := "CoinKeeper$Block", name := "workOf", desc := "(I)J" } : Jvm.MethodName).cls ≠ "java/lang/invoke/VarHandle" ∧ (parseMethodDescriptor ({ cls := "CoinKeeper$Block", name := "workOf", desc := "(I)J" } : Jvm.MethodName).desc).map (fun d => d.parameters.length) = some 1 := by decide +kernel
set_option maxHeartbeats 8000000 in
set_option maxRecDepth 100000 in
theorem we_Bl_init_z1 {p : Program} {l : Launch} {e : Env} {s : State} {m : MethodId} {args : Array Value} {below : List Frame} {meth : Method} {c : Code} {D : va_G} {cy : Nat → ClassId} {A : Nat → Prop} {ad : Nat → Nat} {o : Nat} {b2 : Nat} {b3 : Nat} {b4 : Nat} {i_bad : Int32} {i_valid : Int32} {i_mark : Int32} {n2 : Nat} {h2 : Nat → Int32} {n3 : Nat} {h3 : Nat → Int32} {n4 : Nat} {h4 : Nat → Int32} {fu : Nat} (F : Fx p s m args meth c b_Bl_init 6 "CoinKeeper$Block" "<init>" none D cy ad A) : I_Bl_init_z1_e p l e s m args below meth c D cy A ad o b2 b3 b4 i_bad i_valid i_mark n2 h2 n3 h3 n4 h4 (x_Bl_init_z1 fu i_bad i_valid i_mark n2 h2 n3 h3 n4 h4) := by
  obtain ⟨hx, hb, hr, hml, hown, hts, hlocks, hK, hA, hSt, hnm, hex⟩ := id F
  intro u0 u1 u2 u3 res hf H locs ls hP hD hS hl
  unfold x_Bl_init_z1 at hf
  refine lv_aload_n hx hb d_Bl_init_0 rfl (lv_at hl 0 rfl) ?_
  refine W.objInit hx hb hown (hts _ gw_379) (hts _ gw_36) (hts _ gw_37) rfl (by rw [hml]; exact hl.1) rfl d_Bl_init_1 (Nat.le_of_ble_eq_true rfl) (Nat.le_of_ble_eq_true rfl) ?_
  refine W.eq (g2 := F0 m 4 ls []) rfl ?_
  refine lv_aload_n hx hb d_Bl_init_4 rfl (lv_at hl 0 rfl) ?_
  refine lv_aload_nN hx hb d_Bl_init_5 rfl (lv_at hl 1 rfl) ?_
  refine va_putF (D := D) (ci := 1) (v := .null) (ty := .object "CoinKeeper$Block") (C := "CoinKeeper$Block") (T := F_1) (N := 12) hx hb hts i_1 t_1 t_1_ok n_1 hown hK hP hD hS 0 rfl rfl 0 (by decide) (hts _ gw_390) (fun _ h9 => h9) rfl hnm rfl (by decide +kernel) rfl rfl (Nat.le_of_ble_eq_true rfl) d_Bl_init_6 (fun H locs hP hD hS => ?_)
  have hP : va_P D classes [(o, .inr (1, [.null, .null, .null, .null, .int u0, .long u1, .int u2, .long u3, .null, .int i_bad, .int i_valid, .int i_mark])), (b2, .inl (cy 0, n2, .inl h2)), (b3, .inl (cy 0, n3, .inl h3)), (b4, .inl (cy 0, n4, .inl h4))] H := hP
  have hD : va_D A [(o, .inr (1, [.null, .null, .null, .null, .int u0, .long u1, .int u2, .long u3, .null, .int i_bad, .int i_valid, .int i_mark])), (b2, .inl (cy 0, n2, .inl h2)), (b3, .inl (cy 0, n3, .inl h3)), (b4, .inl (cy 0, n4, .inl h4))] := hD
  refine lv_aload_n hx hb d_Bl_init_9 rfl (lv_at hl 0 rfl) ?_
  refine lv_aload_n hx hb d_Bl_init_10 rfl (lv_at hl 2 rfl) ?_
  refine va_putF (D := D) (ci := 1) (v := .ref b2) (ty := .array .byte) (C := "CoinKeeper$Block") (T := F_1) (N := 12) hx hb hts i_1 t_1 t_1_ok n_1 hown hK hP hD hS 0 rfl rfl 1 (by decide) (hts _ gw_392) (fun _ h9 => h9) rfl hnm rfl (by decide +kernel) rfl rfl (Nat.le_of_ble_eq_true rfl) d_Bl_init_11 (fun H locs hP hD hS => ?_)
  have hP : va_P D classes [(o, .inr (1, [.null, .ref b2, .null, .null, .int u0, .long u1, .int u2, .long u3, .null, .int i_bad, .int i_valid, .int i_mark])), (b2, .inl (cy 0, n2, .inl h2)), (b3, .inl (cy 0, n3, .inl h3)), (b4, .inl (cy 0, n4, .inl h4))] H := hP
  have hD : va_D A [(o, .inr (1, [.null, .ref b2, .null, .null, .int u0, .long u1, .int u2, .long u3, .null, .int i_bad, .int i_valid, .int i_mark])), (b2, .inl (cy 0, n2, .inl h2)), (b3, .inl (cy 0, n3, .inl h3)), (b4, .inl (cy 0, n4, .inl h4))] := hD
  refine lv_aload_n hx hb d_Bl_init_14 rfl (lv_at hl 0 rfl) ?_
  refine lv_aload_n hx hb d_Bl_init_15 rfl (lv_at hl 3 rfl) ?_
  refine va_putF (D := D) (ci := 1) (v := .ref b3) (ty := .array .byte) (C := "CoinKeeper$Block") (T := F_1) (N := 12) hx hb hts i_1 t_1 t_1_ok n_1 hown hK hP hD hS 0 rfl rfl 2 (by decide) (hts _ gw_395) (fun _ h9 => h9) rfl hnm rfl (by decide +kernel) rfl rfl (Nat.le_of_ble_eq_true rfl) d_Bl_init_16 (fun H locs hP hD hS => ?_)
  have hP : va_P D classes [(o, .inr (1, [.null, .ref b2, .ref b3, .null, .int u0, .long u1, .int u2, .long u3, .null, .int i_bad, .int i_valid, .int i_mark])), (b2, .inl (cy 0, n2, .inl h2)), (b3, .inl (cy 0, n3, .inl h3)), (b4, .inl (cy 0, n4, .inl h4))] H := hP
  have hD : va_D A [(o, .inr (1, [.null, .ref b2, .ref b3, .null, .int u0, .long u1, .int u2, .long u3, .null, .int i_bad, .int i_valid, .int i_mark])), (b2, .inl (cy 0, n2, .inl h2)), (b3, .inl (cy 0, n3, .inl h3)), (b4, .inl (cy 0, n4, .inl h4))] := hD
  refine lv_aload_n hx hb d_Bl_init_19 rfl (lv_at hl 0 rfl) ?_
  refine lv_aload hx hb d_Bl_init_20 (lv_at hl 4 rfl) ?_
  refine va_putF (D := D) (ci := 1) (v := .ref b4) (ty := .array .byte) (C := "CoinKeeper$Block") (T := F_1) (N := 12) hx hb hts i_1 t_1 t_1_ok n_1 hown hK hP hD hS 0 rfl rfl 3 (by decide) (hts _ gw_397) (fun _ h9 => h9) rfl hnm rfl (by decide +kernel) rfl rfl (Nat.le_of_ble_eq_true rfl) d_Bl_init_22 (fun H locs hP hD hS => ?_)
  have hP : va_P D classes [(o, .inr (1, [.null, .ref b2, .ref b3, .ref b4, .int u0, .long u1, .int u2, .long u3, .null, .int i_bad, .int i_valid, .int i_mark])), (b2, .inl (cy 0, n2, .inl h2)), (b3, .inl (cy 0, n3, .inl h3)), (b4, .inl (cy 0, n4, .inl h4))] H := hP
  have hD : va_D A [(o, .inr (1, [.null, .ref b2, .ref b3, .ref b4, .int u0, .long u1, .int u2, .long u3, .null, .int i_bad, .int i_valid, .int i_mark])), (b2, .inl (cy 0, n2, .inl h2)), (b3, .inl (cy 0, n3, .inl h3)), (b4, .inl (cy 0, n4, .inl h4))] := hD
  refine lv_aload_nN hx hb d_Bl_init_25 rfl (lv_at hl 1 rfl) ?_
  refine lv_ifnonnullN hx hb d_Bl_init_26 ?_
  refine lv_iconst (v := 1) hx hb d_Bl_init_29 (by decide) ?_
  refine lv_goto (tgt := 34) hx hb d_Bl_init_30 (by decide) ?_
  refine lv_istore (lv' := [(5, .int (1 : Int32)), (0, .ref o), (1, .null), (2, .ref b2), (3, .ref b3), (4, .ref b4)]) hx hb d_Bl_init_34 hl (by decide) rfl (fun ls hl => ?_)
  refine lv_aload_n hx hb d_Bl_init_36 rfl (lv_at hl 1 rfl) ?_
  refine lv_iload hx hb d_Bl_init_37 (lv_at hl 0 rfl) ?_
  refine lv_if_eq (tgt := 46) hx hb d_Bl_init_39 (by decide) (fun cx => ?_) (fun cx => ?_)
  · first | exact absurd cx (by decide) | exact absurd (by decide) cx
  clear cx
  refine lv_iconst (v := 0) hx hb d_Bl_init_42 (by decide) ?_
  refine lv_goto (tgt := 52) hx hb d_Bl_init_43 (by decide) ?_
  refine va_putF (D := D) (ci := 1) (v := .int (0 : Int32)) (ty := .int) (C := "CoinKeeper$Block") (T := F_1) (N := 12) hx hb hts i_1 t_1 t_1_ok n_1 hown hK hP hD hS 0 rfl rfl 4 (by decide) (hts _ gw_400) (fun _ h9 => h9) rfl hnm rfl (by decide +kernel) rfl rfl (Nat.le_of_ble_eq_true rfl) d_Bl_init_52 (fun H locs hP hD hS => ?_)
  have hP : va_P D classes [(o, .inr (1, [.null, .ref b2, .ref b3, .ref b4, .int (0 : Int32), .long u1, .int u2, .long u3, .null, .int i_bad, .int i_valid, .int i_mark])), (b2, .inl (cy 0, n2, .inl h2)), (b3, .inl (cy 0, n3, .inl h3)), (b4, .inl (cy 0, n4, .inl h4))] H := hP
  have hD : va_D A [(o, .inr (1, [.null, .ref b2, .ref b3, .ref b4, .int (0 : Int32), .long u1, .int u2, .long u3, .null, .int i_bad, .int i_valid, .int i_mark])), (b2, .inl (cy 0, n2, .inl h2)), (b3, .inl (cy 0, n3, .inl h3)), (b4, .inl (cy 0, n4, .inl h4))] := hD
  refine lv_aload_n hx hb d_Bl_init_55 rfl (lv_at hl 1 rfl) ?_
  refine lv_iload hx hb d_Bl_init_56 (lv_at hl 0 rfl) ?_
  refine lv_if_eq (tgt := 67) hx hb d_Bl_init_58 (by decide) (fun cx => ?_) (fun cx => ?_)
  · first | exact absurd cx (by decide) | exact absurd (by decide) cx
  clear cx
  refine lv_ldc2 (v := 1000000) hx hb hown (hts _ gw_380) d_Bl_init_61 ?_
  refine lv_goto (tgt := 78) hx hb d_Bl_init_64 (by decide) ?_
  refine va_putF (D := D) (ci := 1) (v := .long (1000000 : Int64)) (ty := .long) (C := "CoinKeeper$Block") (T := F_1) (N := 12) hx hb hts i_1 t_1 t_1_ok n_1 hown hK hP hD hS 0 rfl rfl 5 (by decide) (hts _ gw_402) (fun _ h9 => h9) rfl hnm rfl (by decide +kernel) rfl rfl (Nat.le_of_ble_eq_true rfl) d_Bl_init_78 (fun H locs hP hD hS => ?_)
  have hP : va_P D classes [(o, .inr (1, [.null, .ref b2, .ref b3, .ref b4, .int (0 : Int32), .long (1000000 : Int64), .int u2, .long u3, .null, .int i_bad, .int i_valid, .int i_mark])), (b2, .inl (cy 0, n2, .inl h2)), (b3, .inl (cy 0, n3, .inl h3)), (b4, .inl (cy 0, n4, .inl h4))] H := hP
  have hD : va_D A [(o, .inr (1, [.null, .ref b2, .ref b3, .ref b4, .int (0 : Int32), .long (1000000 : Int64), .int u2, .long u3, .null, .int i_bad, .int i_valid, .int i_mark])), (b2, .inl (cy 0, n2, .inl h2)), (b3, .inl (cy 0, n3, .inl h3)), (b4, .inl (cy 0, n4, .inl h4))] := hD
  refine lv_aload_n hx hb d_Bl_init_81 rfl (lv_at hl 1 rfl) ?_
  refine lv_iload hx hb d_Bl_init_82 (lv_at hl 0 rfl) ?_
  refine lv_if_eq (tgt := 92) hx hb d_Bl_init_84 (by decide) (fun cx => ?_) (fun cx => ?_)
  · first | exact absurd cx (by decide) | exact absurd (by decide) cx
  clear cx
  refine lv_ldc (v := 545259519) hx hb hown (hts _ gw_385) d_Bl_init_87 ?_
  refine lv_goto (tgt := 98) hx hb d_Bl_init_89 (by decide) ?_
  refine va_putF (D := D) (ci := 1) (v := .int (545259519 : Int32)) (ty := .int) (C := "CoinKeeper$Block") (T := F_1) (N := 12) hx hb hts i_1 t_1 t_1_ok n_1 hown hK hP hD hS 0 rfl rfl 6 (by decide) (hts _ gw_404) (fun _ h9 => h9) rfl hnm rfl (by decide +kernel) rfl rfl (Nat.le_of_ble_eq_true rfl) d_Bl_init_98 (fun H locs hP hD hS => ?_)
  have hP : va_P D classes [(o, .inr (1, [.null, .ref b2, .ref b3, .ref b4, .int (0 : Int32), .long (1000000 : Int64), .int (545259519 : Int32), .long u3, .null, .int i_bad, .int i_valid, .int i_mark])), (b2, .inl (cy 0, n2, .inl h2)), (b3, .inl (cy 0, n3, .inl h3)), (b4, .inl (cy 0, n4, .inl h4))] H := hP
  have hD : va_D A [(o, .inr (1, [.null, .ref b2, .ref b3, .ref b4, .int (0 : Int32), .long (1000000 : Int64), .int (545259519 : Int32), .long u3, .null, .int i_bad, .int i_valid, .int i_mark])), (b2, .inl (cy 0, n2, .inl h2)), (b3, .inl (cy 0, n3, .inl h3)), (b4, .inl (cy 0, n4, .inl h4))] := hD
  refine lv_aload_n hx hb d_Bl_init_101 rfl (lv_at hl 1 rfl) ?_
  refine lv_aload_n hx hb d_Bl_init_102 rfl (lv_at hl 1 rfl) ?_
  refine va_get (D := D) (ci := 1) (v := .int (545259519 : Int32)) (C := "CoinKeeper$Block") (T := F_1) (N := 12) hx hb hts i_1 hown hK hP 0 rfl rfl 6 (by decide) (hts _ gw_404) (fun _ h9 => h9) rfl d_Bl_init_103 ?_
  obtain ⟨v1, hc, hf⟩ := bdp1 hf
  refine q_al (wr := [(o, .inr (1, [.null, .ref b2, .ref b3, .ref b4, .int (0 : Int32), .long (1000000 : Int64), .int (545259519 : Int32), .long u3, .null, .int i_bad, .int i_valid, .int i_mark])), (b2, .inl (cy 0, n2, .inl h2)), (b3, .inl (cy 0, n3, .inl h3)), (b4, .inl (cy 0, n4, .inl h4))]) (va_runS (As := [.int (545259519 : Int32)]) (rest := [.ref o]) ⟨hx, hb, hml, hown, hts⟩ (c_Bl_workOf l D cy ad fu (545259519 : Int32) _ hc H.size) ⟨q_cB hts gw_388 gw_13 gw_386 hdd_69 ⟨by decide, by decide⟩, hts _ gw_387⟩ (q_pre (hP.sub [] rfl) (hD.sub [] (by decide) rfl) hK hSt hS (va_free hD hS hA [] rfl) _) rfl rfl hl.1 rfl (lv_room (Nat.le_of_ble_eq_true rfl)) d_Bl_init_106 ⟨Nat.le_of_ble_eq_true rfl, Nat.le_of_ble_eq_true rfl⟩) hP hD hS hA [] [0, 1, 2, 3] rfl rfl (by decide) (by decide) (fun H locs hP hD hS => ?_)
  clear hc
  have hP : va_P D classes [(o, .inr (1, [.null, .ref b2, .ref b3, .ref b4, .int (0 : Int32), .long (1000000 : Int64), .int (545259519 : Int32), .long u3, .null, .int i_bad, .int i_valid, .int i_mark])), (b2, .inl (cy 0, n2, .inl h2)), (b3, .inl (cy 0, n3, .inl h3)), (b4, .inl (cy 0, n4, .inl h4))] H := hP
  have hD : va_D A [(o, .inr (1, [.null, .ref b2, .ref b3, .ref b4, .int (0 : Int32), .long (1000000 : Int64), .int (545259519 : Int32), .long u3, .null, .int i_bad, .int i_valid, .int i_mark])), (b2, .inl (cy 0, n2, .inl h2)), (b3, .inl (cy 0, n3, .inl h3)), (b4, .inl (cy 0, n4, .inl h4))] := hD
  refine lv_iload hx hb d_Bl_init_109 (lv_at hl 0 rfl) ?_
  refine lv_if_eq (tgt := 118) hx hb d_Bl_init_111 (by decide) (fun cx => ?_) (fun cx => ?_)
  · first | exact absurd cx (by decide) | exact absurd (by decide) cx
  clear cx
  refine lv_lconst (v := 0) hx hb d_Bl_init_114 (by decide) ?_
  refine lv_goto (tgt := 122) hx hb d_Bl_init_115 (by decide) ?_
  refine lv_ladd hx hb d_Bl_init_122 ?_
  refine lv_topl (fun v2 ev => ?_)
  have hf := bn ev hf
  clear ev
  refine va_putF (D := D) (ci := 1) (v := .long v2) (ty := .long) (C := "CoinKeeper$Block") (T := F_1) (N := 12) hx hb hts i_1 t_1 t_1_ok n_1 hown hK hP hD hS 0 rfl rfl 7 (by decide) (hts _ gw_406) (fun _ h9 => h9) rfl hnm rfl (by decide +kernel) rfl rfl (Nat.le_of_ble_eq_true rfl) d_Bl_init_123 (fun H locs hP hD hS => ?_)
  have hP : va_P D classes [(o, .inr (1, [.null, .ref b2, .ref b3, .ref b4, .int (0 : Int32), .long (1000000 : Int64), .int (545259519 : Int32), .long v2, .null, .int i_bad, .int i_valid, .int i_mark])), (b2, .inl (cy 0, n2, .inl h2)), (b3, .inl (cy 0, n3, .inl h3)), (b4, .inl (cy 0, n4, .inl h4))] H := hP
  have hD : va_D A [(o, .inr (1, [.null, .ref b2, .ref b3, .ref b4, .int (0 : Int32), .long (1000000 : Int64), .int (545259519 : Int32), .long v2, .null, .int i_bad, .int i_valid, .int i_mark])), (b2, .inl (cy 0, n2, .inl h2)), (b3, .inl (cy 0, n3, .inl h3)), (b4, .inl (cy 0, n4, .inl h4))] := hD
  obtain rfl := Option.some.inj hf
  exact q_rv hx hb hr hlocks hK hP hD hS d_Bl_init_126
theorem c_Bl_init_z1 (l : Launch) (D : va_G) (cy : Nat → ClassId) (ad : Nat → Nat) (fu : Nat) (o : Nat) (b2 : Nat) (b3 : Nat) (b4 : Nat) (i_bad : Int32) (i_valid : Int32) (i_mark : Int32) (n2 : Nat) (h2 : Nat → Int32) (n3 : Nat) (h3 : Nat → Int32) (n4 : Nat) (h4 : Nat → Int32) (u0 : Int32) (u1 : Int64) (u2 : Int32) (u3 : Int64) (res : Int32 × Int64 × Int32 × Int64) (hf : x_Bl_init_z1 fu i_bad i_valid i_mark n2 h2 n3 h3 n4 h4 u0 u1 u2 u3 = some res) (sz : Nat) : Met l ({ cls := "CoinKeeper$Block", name := "<init>", desc := "(LCoinKeeper$Block;[B[B[B)V" } : Jvm.MethodName) (.code ({ cls := "CoinKeeper$Block", name := "<init>", desc := "(LCoinKeeper$Block;[B[B[B)V" } : Jvm.MethodName) b_Bl_init 6 none :: gw) rm_Bl_init_z1 (va_Pc [.ref o, .null, .ref b2, .ref b3, .ref b4] (Pr D cy ad [(o, .inr (1, [.null, .null, .null, .null, .int u0, .long u1, .int u2, .long u3, .null, .int i_bad, .int i_valid, .int i_mark])), (b2, .inl (cy 0, n2, .inl h2)), (b3, .inl (cy 0, n3, .inl h3)), (b4, .inl (cy 0, n4, .inl h4))] sz)) (q_Bl_init_z1 D cy (va_A [(o, .inr (1, [.null, .null, .null, .null, .int u0, .long u1, .int u2, .long u3, .null, .int i_bad, .int i_valid, .int i_mark])), (b2, .inl (cy 0, n2, .inl h2)), (b3, .inl (cy 0, n3, .inl h3)), (b4, .inl (cy 0, n4, .inl h4))] sz) o b2 b3 b4 i_bad i_valid i_mark n2 h2 n3 h3 n4 h4 res) 0 0 (va_A [(o, .inr (1, [.null, .null, .null, .null, .int u0, .long u1, .int u2, .long u3, .null, .int i_bad, .int i_valid, .int i_mark])), (b2, .inl (cy 0, n2, .inl h2)), (b3, .inl (cy 0, n3, .inl h3)), (b4, .inl (cy 0, n4, .inl h4))] sz) :=
  q_met (Qc := fun A => q_Bl_init_z1 D cy A o b2 b3 b4 i_bad i_valid i_mark n2 h2 n3 h3 n4 h4 res) (by decide) rfl rfl (Nat.le_of_ble_eq_true rfl) (fun p e s m below meth c ls F hP hD hS hl => we_Bl_init_z1 (fu := fu) F u0 u1 u2 u3 res hf _ _ _ hP hD hS hl) sz
