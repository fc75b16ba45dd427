abbrev b_Al_grow1 : ByteArray := prog_28_method_6_code
theorem d_Al_grow1_0 : decode b_Al_grow1 0 = .ok (.aload_n 0, 1) := by decide +kernel
theorem d_Al_grow1_1 : decode b_Al_grow1 1 = .ok (.getfield 9, 3) := by decide +kernel
theorem d_Al_grow1_4 : decode b_Al_grow1 4 = .ok (.arraylength, 1) := by decide +kernel
theorem d_Al_grow1_5 : decode b_Al_grow1 5 = .ok (.istore_n 2, 1) := by decide +kernel
theorem d_Al_grow1_6 : decode b_Al_grow1 6 = .ok (.iload_n 2, 1) := by decide +kernel
theorem d_Al_grow1_7 : decode b_Al_grow1 7 = .ok (.ifCond .gt 13, 3) := by decide +kernel
theorem d_Al_grow1_10 : decode b_Al_grow1 10 = .ok (.aload_n 0, 1) := by decide +kernel
theorem d_Al_grow1_11 : decode b_Al_grow1 11 = .ok (.getfield 9, 3) := by decide +kernel
theorem d_Al_grow1_14 : decode b_Al_grow1 14 = .ok (.getstatic 39, 3) := by decide +kernel
theorem d_Al_grow1_17 : decode b_Al_grow1 17 = .ok (.if_acmp .eq 28, 3) := by decide +kernel
theorem d_Al_grow1_20 : decode b_Al_grow1 20 = .ok (.iload_n 2, 1) := by decide +kernel
theorem d_Al_grow1_21 : decode b_Al_grow1 21 = .ok (.iload_n 1, 1) := by decide +kernel
theorem d_Al_grow1_22 : decode b_Al_grow1 22 = .ok (.iload_n 2, 1) := by decide +kernel
theorem d_Al_grow1_23 : decode b_Al_grow1 23 = .ok (.isub, 1) := by decide +kernel
theorem d_Al_grow1_24 : decode b_Al_grow1 24 = .ok (.iload_n 2, 1) := by decide +kernel
theorem d_Al_grow1_25 : decode b_Al_grow1 25 = .ok (.iconst 1, 1) := by decide +kernel
theorem d_Al_grow1_26 : decode b_Al_grow1 26 = .ok (.ishr, 1) := by decide +kernel
theorem d_Al_grow1_27 : decode b_Al_grow1 27 = .ok (.invokestatic 73, 3) := by decide +kernel
theorem d_Al_grow1_30 : decode b_Al_grow1 30 = .ok (.istore_n 3, 1) := by decide +kernel
theorem d_Al_grow1_31 : decode b_Al_grow1 31 = .ok (.aload_n 0, 1) := by decide +kernel
theorem d_Al_grow1_32 : decode b_Al_grow1 32 = .ok (.aload_n 0, 1) := by decide +kernel
theorem d_Al_grow1_33 : decode b_Al_grow1 33 = .ok (.getfield 9, 3) := by decide +kernel
theorem d_Al_grow1_36 : decode b_Al_grow1 36 = .ok (.iload_n 3, 1) := by decide +kernel
theorem d_Al_grow1_37 : decode b_Al_grow1 37 = .ok (.invokestatic 66, 3) := by decide +kernel
theorem d_Al_grow1_40 : decode b_Al_grow1 40 = .ok (.dup_x1, 1) := by decide +kernel
theorem d_Al_grow1_41 : decode b_Al_grow1 41 = .ok (.putfield 9, 3) := by decide +kernel
theorem d_Al_grow1_44 : decode b_Al_grow1 44 = .ok (.areturn, 1) := by decide +kernel
theorem d_Al_grow1_45 : decode b_Al_grow1 45 = .ok (.aload_n 0, 1) := by decide +kernel
theorem d_Al_grow1_46 : decode b_Al_grow1 46 = .ok (.bipush 10, 2) := by decide +kernel
theorem d_Al_grow1_48 : decode b_Al_grow1 48 = .ok (.iload_n 1, 1) := by decide +kernel
theorem d_Al_grow1_49 : decode b_Al_grow1 49 = .ok (.invokestatic 79, 3) := by decide +kernel
theorem d_Al_grow1_52 : decode b_Al_grow1 52 = .ok (.anewarray 7, 3) := by decide +kernel
theorem d_Al_grow1_55 : decode b_Al_grow1 55 = .ok (.dup_x1, 1) := by decide +kernel
theorem d_Al_grow1_56 : decode b_Al_grow1 56 = .ok (.putfield 9, 3) := by decide +kernel
theorem d_Al_grow1_59 : decode b_Al_grow1 59 = .ok (.areturn, 1) := by decide +kernel
abbrev rm_Al_grow1_y0S : Room := { frames := 1, cells := 1, slots := 10, locals := 26 }
abbrev q_Al_grow1_y0S (D : va_G) (cy : Nat → ClassId) (A : Nat → Prop) (o : Nat) (i_size : Int32) (i_modCount : Int32) (res : Unit) : Array Value → State → Outcome → State → Prop := va_Qq (fun r' (u : Nat) => r' = some u) (fun u t => Po D cy A [(o, .inr (11, [.ref u, .int i_size, .int i_modCount])), (u, .inl (cy 7, 10, .inr (.inr (.inr (.inr (fun _ => none))))))] t) A
def I_Al_grow1_y0S_e (p : Program) (l : Launch) (e : Env) (s : State) (m : MethodId) (args : Array Value) (below : List Frame) (meth : Method) (c : Code) (D : va_G) (cy : Nat → ClassId) (A : Nat → Prop) (ad : Nat → Nat) (o : Nat) (i_size : Int32) (i_modCount : Int32) (k : Int32 → Option (Unit)) : Prop :=
  ∀ (a1 : Int32) (res : Unit), k a1 = some res → ∀ (H : Heap) (locs : List Loc) (ls : Array Slot), va_P D classes [(o, .inr (11, [.ref (ad 26), .int i_size, .int i_modCount]))] H → va_D A [(o, .inr (11, [.ref (ad 26), .int i_size, .int i_modCount]))] → va_S A s.heap H locs → lv_has ls 4 [(0, .ref o), (1, .int a1)] → W p l e rm_Al_grow1_y0S s m args below meth c H locs 0 0 (MQ below (q_Al_grow1_y0S D cy A o i_size i_modCount res) args s 1 10 A) (F0 m 0 ls [])
set_option maxHeartbeats 8000000 in
set_option maxRecDepth 100000 in
theorem we_Al_grow1_y0S {p : Program} {l : Launch} {e : Env} {s : State} {m : MethodId} {args : Array Value} {below : List Frame} {meth : Method} {c : Code} {D : va_G} {cy : Nat → ClassId} {A : Nat → Prop} {ad : Nat → Nat} {o : Nat} {i_size : Int32} {i_modCount : Int32} {fu : Nat} (F : Fx p s m args meth c b_Al_grow1 4 "java/util/ArrayList" "grow" (Option.some (Jvm.ClassFile.FieldType.array (Jvm.ClassFile.FieldType.object "java/lang/Object"))) D cy ad A) : I_Al_grow1_y0S_e p l e s m args below meth c D cy A ad o i_size i_modCount (x_Al_grow1_y0S fu i_size i_modCount) := by
  obtain ⟨hx, hb, hr, hml, hown, hts, hlocks, hK, hA, hSt, hnm, hex⟩ := id F
  intro a1 res hf H locs ls hP hD hS hl
  unfold x_Al_grow1_y0S at hf
  refine lv_aload_n hx hb d_Al_grow1_0 rfl (lv_at hl 0 rfl) ?_
  refine va_get (D := D) (ci := 11) (v := .ref (ad 26)) (C := "java/util/ArrayList") (T := F_11) (N := 3) hx hb hts i_11 hown hK hP 0 rfl rfl 0 (by decide) (hts _ gw_351) (fun _ h9 => h9) rfl d_Al_grow1_1 ?_
  refine va_tlen (v := 0) hx hb (hSt.1 26 _ rfl).2 hS rfl d_Al_grow1_4 ?_
  refine lv_istore_n (lv' := [(2, .int (0 : Int32)), (0, .ref o), (1, .int a1)]) hx hb d_Al_grow1_5 rfl hl (by decide) rfl (fun ls hl => ?_)
  refine lv_iload_n hx hb d_Al_grow1_6 rfl (lv_at hl 0 rfl) ?_
  refine lv_if_gt (tgt := 20) hx hb d_Al_grow1_7 (by decide) (fun cx => ?_) (fun cx => ?_)
  · first | exact absurd cx (by decide) | exact absurd (by decide) cx
  clear cx
  refine lv_aload_n hx hb d_Al_grow1_10 rfl (lv_at hl 1 rfl) ?_
  refine va_get (D := D) (ci := 11) (v := .ref (ad 26)) (C := "java/util/ArrayList") (T := F_11) (N := 3) hx hb hts i_11 hown hK hP 0 rfl rfl 0 (by decide) (hts _ gw_351) (fun _ h9 => h9) rfl d_Al_grow1_11 ?_
  refine va_gets hx hb (hSt.1 26 _ rfl).1 hS hown (hts _ gw_349) (fun _ h9 => h9) d_Al_grow1_14 ?_
  refine lv_acmp_eq (rx := some (ad 26)) (ry := some (ad 26)) (tgt := 45) hx hb d_Al_grow1_17 (by decide) (fun _ => ?_) (fun h => absurd rfl h)
  refine lv_aload_n hx hb d_Al_grow1_45 rfl (lv_at hl 1 rfl) ?_
  refine lv_bipush (v := 10) hx hb d_Al_grow1_46 (by decide) ?_
  refine lv_iload_n hx hb d_Al_grow1_48 rfl (lv_at hl 2 rfl) ?_
  refine va_mmax (rest := [.ref o]) hx hb (hml.trans hl.1.symm) hown (hts _ gw_498) (hts _ gw_457) (hts _ gw_15) (hts _ gw_458) (by decide) (Nat.le_of_ble_eq_true rfl) (Nat.zero_le _) (Nat.zero_le _) d_Al_grow1_49 ?_
  refine lv_topi (fun v1 ev => ?_)
  have hf := bn ev hf
  clear ev
  obtain ⟨hg, hf⟩ := gdp hf
  obtain rfl := ieq_p hg
  refine q_newq (N' := 10) hx hb hown (hts _ gw_499) (hSt.2.2.2.2 _ (List.mem_of_getElem? (i := 3) rfl)) hK hP hD hS hA 7 rfl (by decide) (by decide) (by decide) (Nat.le_of_ble_eq_true rfl) (Nat.le_of_ble_eq_true rfl) d_Al_grow1_52 (fun w0 H hP hD hS => ?_)
  refine W.widen (k := 1) (n := 10) (Nat.le_of_ble_eq_true rfl) (Nat.le_of_ble_eq_true rfl) ?_
  have hP : va_P D classes [(o, .inr (11, [.ref (ad 26), .int i_size, .int i_modCount])), (w0, .inl (cy 7, 10, .inr (.inr (.inr (.inr (fun _ => none))))))] H := hP
  have hD : va_D A [(o, .inr (11, [.ref (ad 26), .int i_size, .int i_modCount])), (w0, .inl (cy 7, 10, .inr (.inr (.inr (.inr (fun _ => none))))))] := hD
  refine lv_dup_x1 hx hb d_Al_grow1_55 rfl rfl ?_
  refine va_put (D := D) (ci := 11) (v := .ref w0) (ty := .array (.object "java/lang/Object")) (C := "java/util/ArrayList") (T := F_11) (N := 3) hx hb hts i_11 t_11 t_11_ok n_11 hown hK hP hD hS 0 rfl rfl 0 (by decide) (hts _ gw_351) (fun _ h9 => h9) rfl (by decide +kernel) rfl rfl (Nat.le_of_ble_eq_true rfl) d_Al_grow1_56 (fun H locs hP hD hS => ?_)
  have hP : va_P D classes [(o, .inr (11, [.ref w0, .int i_size, .int i_modCount])), (w0, .inl (cy 7, 10, .inr (.inr (.inr (.inr (fun _ => none))))))] H := hP
  have hD : va_D A [(o, .inr (11, [.ref w0, .int i_size, .int i_modCount])), (w0, .inl (cy 7, 10, .inr (.inr (.inr (.inr (fun _ => none))))))] := hD
  obtain rfl := Option.some.inj hf
  exact q_ra (w1 := fun u => [(o, .inr (11, [.ref u, .int i_size, .int i_modCount])), (u, .inl (cy 7, 10, .inr (.inr (.inr (.inr (fun _ => none))))))]) (rr := fun u => some u) w0 rfl hx hb hr (Or.inr ⟨_, rfl⟩) hlocks hK hP hD hS d_Al_grow1_59
theorem c_Al_grow1_y0S (l : Launch) (D : va_G) (cy : Nat → ClassId) (ad : Nat → Nat) (fu : Nat) (o : Nat) (i_size : Int32) (i_modCount : Int32) (a1 : Int32) (res : Unit) (hf : x_Al_grow1_y0S fu i_size i_modCount a1 = some res) (sz : Nat) : Met l ({ cls := "java/util/ArrayList", name := "grow", desc := "(I)[Ljava/lang/Object;" } : Jvm.MethodName) (.code ({ cls := "java/util/ArrayList", name := "grow", desc := "(I)[Ljava/lang/Object;" } : Jvm.MethodName) b_Al_grow1 4 (Option.some (Jvm.ClassFile.FieldType.array (Jvm.ClassFile.FieldType.object "java/lang/Object"))) :: gw) rm_Al_grow1_y0S (va_Pc [.ref o, .int a1] (Pr D cy ad [(o, .inr (11, [.ref (ad 26), .int i_size, .int i_modCount]))] sz)) (q_Al_grow1_y0S D cy (va_A [(o, .inr (11, [.ref (ad 26), .int i_size, .int i_modCount]))] sz) o i_size i_modCount res) 1 10 (va_A [(o, .inr (11, [.ref (ad 26), .int i_size, .int i_modCount]))] sz) :=
  q_met (Qc := fun A => q_Al_grow1_y0S D cy A o i_size i_modCount res) (by decide) rfl rfl (Nat.le_of_ble_eq_true rfl) (fun p e s m below meth c ls F hP hD hS hl => we_Al_grow1_y0S (fu := fu) F a1 res hf _ _ _ hP hD hS hl) sz
abbrev b_Al_grow0 : ByteArray := prog_28_method_7_code
theorem d_Al_grow0_0 : decode b_Al_grow0 0 = .ok (.aload_n 0, 1) := by decide +kernel
theorem d_Al_grow0_1 : decode b_Al_grow0 1 = .ok (.aload_n 0, 1) := by decide +kernel
theorem d_Al_grow0_2 : decode b_Al_grow0 2 = .ok (.getfield 48, 3) := by decide +kernel
theorem d_Al_grow0_5 : decode b_Al_grow0 5 = .ok (.iconst 1, 1) := by decide +kernel
theorem d_Al_grow0_6 : decode b_Al_grow0 6 = .ok (.iadd, 1) := by decide +kernel
theorem d_Al_grow0_7 : decode b_Al_grow0 7 = .ok (.invokevirtual 69, 3) := by decide +kernel
theorem d_Al_grow0_10 : decode b_Al_grow0 10 = .ok (.areturn, 1) := by decide +kernel
abbrev rm_Al_grow0_y0S : Room := { frames := 2, cells := 1, slots := 10, locals := 49 }
abbrev q_Al_grow0_y0S (D : va_G) (cy : Nat → ClassId) (A : Nat → Prop) (o : Nat) (i_size : Int32) (i_modCount : Int32) (res : Unit) : Array Value → State → Outcome → State → Prop := va_Qq (fun r' (u : Nat) => r' = some u) (fun u t => Po D cy A [(o, .inr (11, [.ref u, .int i_size, .int i_modCount])), (u, .inl (cy 7, 10, .inr (.inr (.inr (.inr (fun _ => none))))))] t) A
def I_Al_grow0_y0S_e (p : Program) (l : Launch) (e : Env) (s : State) (m : MethodId) (args : Array Value) (below : List Frame) (meth : Method) (c : Code) (D : va_G) (cy : Nat → ClassId) (A : Nat → Prop) (ad : Nat → Nat) (o : Nat) (i_size : Int32) (i_modCount : Int32) (k : Option (Unit)) : Prop :=
  ∀ (res : Unit), k  = some res → ∀ (H : Heap) (locs : List Loc) (ls : Array Slot), va_P D classes [(o, .inr (11, [.ref (ad 26), .int i_size, .int i_modCount]))] H → va_D A [(o, .inr (11, [.ref (ad 26), .int i_size, .int i_modCount]))] → va_S A s.heap H locs → lv_has ls 1 [(0, .ref o)] → W p l e rm_Al_grow0_y0S s m args below meth c H locs 0 0 (MQ below (q_Al_grow0_y0S D cy A o i_size i_modCount res) args s 1 10 A) (F0 m 0 ls [])
theorem hde_73 : ({ cls := "java/util/ArrayList", name := "grow", desc := "(I)[Ljava/lang/Object;" } : Jvm.MethodName).cls ≠ "java/lang/invoke/MethodHandle" ∧ ({ cls := "java/util/ArrayList", name := "grow", desc := "(I)[Ljava/lang/Object;" } : Jvm.MethodName).cls ≠ "java/lang/invoke/VarHandle" ∧ (parseMethodDescriptor ({ cls := "java/util/ArrayList", name := "grow", desc := "(I)[Ljava/lang/Object;" } : Jvm.MethodName).desc).map (fun d => d.parameters.length) = some 1 := by decide +kernel
set_option maxHeartbeats 8000000 in
set_option maxRecDepth 100000 in
theorem we_Al_grow0_y0S {p : Program} {l : Launch} {e : Env} {s : State} {m : MethodId} {args : Array Value} {below : List Frame} {meth : Method} {c : Code} {D : va_G} {cy : Nat → ClassId} {A : Nat → Prop} {ad : Nat → Nat} {o : Nat} {i_size : Int32} {i_modCount : Int32} {fu : Nat} (F : Fx p s m args meth c b_Al_grow0 1 "java/util/ArrayList" "grow" (Option.some (Jvm.ClassFile.FieldType.array (Jvm.ClassFile.FieldType.object "java/lang/Object"))) D cy ad A) : I_Al_grow0_y0S_e p l e s m args below meth c D cy A ad o i_size i_modCount (x_Al_grow0_y0S fu i_size i_modCount) := by
  obtain ⟨hx, hb, hr, hml, hown, hts, hlocks, hK, hA, hSt, hnm, hex⟩ := id F
  intro  res hf H locs ls hP hD hS hl
  unfold x_Al_grow0_y0S at hf
  refine lv_aload_n hx hb d_Al_grow0_0 rfl (lv_at hl 0 rfl) ?_
  refine lv_aload_n hx hb d_Al_grow0_1 rfl (lv_at hl 0 rfl) ?_
  refine va_get (D := D) (ci := 11) (v := .int i_size) (C := "java/util/ArrayList") (T := F_11) (N := 3) hx hb hts i_11 hown hK hP 0 rfl rfl 1 (by decide) (hts _ gw_352) (fun _ h9 => h9) rfl d_Al_grow0_2 ?_
  refine lv_iconst (v := 1) hx hb d_Al_grow0_5 (by decide) ?_
  refine lv_iadd hx hb d_Al_grow0_6 ?_
  refine lv_topi (fun v1 ev => ?_)
  have hf := bn ev hf
  clear ev
  obtain ⟨⟨⟩, hc, hf⟩ := bdp1 hf
  refine q_aqS (wr := []) (va_runV (C := "java/util/ArrayList") (As := [.int v1]) (rest := []) ⟨hx, hb, hml, hown, hts⟩ (c_Al_grow1_y0S l D cy ad fu o i_size i_modCount v1 _ hc H.size) ⟨q_cB hts gw_452 gw_12 gw_449 hde_73 ⟨by decide, by decide⟩, hts _ gw_451, hts _ gs_2⟩ (q_preV (q_pre (hP.sub [0] rfl) (hD.sub [0] (by decide) rfl) hK hSt hS (va_free hD hS hA [0] rfl) _) (va_recv hK (hP.sub [0] rfl) (ci := 11) (q0 := 0) rfl rfl)) rfl rfl hl.1 rfl (lv_room (Nat.le_of_ble_eq_true rfl)) d_Al_grow0_7 ⟨Nat.le_of_ble_eq_true rfl, Nat.le_of_ble_eq_true rfl⟩) hP hD hS hA [0] [] rfl rfl (by decide) (by decide) (fun uu H locs hP hD hS => ?_)
  clear hc
  obtain ⟨w0, eu⟩ : ∃ z, z = uu := ⟨_, rfl⟩
  subst eu
  refine W.widen (k := 1) (n := 10) (Nat.le_of_ble_eq_true rfl) (Nat.le_of_ble_eq_true rfl) ?_
  have hP : va_P D classes [(o, .inr (11, [.ref w0, .int i_size, .int i_modCount])), (w0, .inl (cy 7, 10, .inr (.inr (.inr (.inr (fun _ => none))))))] H := hP
  have hD : va_D A [(o, .inr (11, [.ref w0, .int i_size, .int i_modCount])), (w0, .inl (cy 7, 10, .inr (.inr (.inr (.inr (fun _ => none))))))] := hD
  refine W.eq (g2 := F0 m 10 ls [.ref w0]) rfl ?_
  obtain rfl := Option.some.inj hf
  exact q_ra (w1 := fun u => [(o, .inr (11, [.ref u, .int i_size, .int i_modCount])), (u, .inl (cy 7, 10, .inr (.inr (.inr (.inr (fun _ => none))))))]) (rr := fun u => some u) w0 rfl hx hb hr (Or.inr ⟨_, rfl⟩) hlocks hK hP hD hS d_Al_grow0_10
theorem c_Al_grow0_y0S (l : Launch) (D : va_G) (cy : Nat → ClassId) (ad : Nat → Nat) (fu : Nat) (o : Nat) (i_size : Int32) (i_modCount : Int32) (res : Unit) (hf : x_Al_grow0_y0S fu i_size i_modCount = some res) (sz : Nat) : Met l ({ cls := "java/util/ArrayList", name := "grow", desc := "()[Ljava/lang/Object;" } : Jvm.MethodName) (.code ({ cls := "java/util/ArrayList", name := "grow", desc := "()[Ljava/lang/Object;" } : Jvm.MethodName) b_Al_grow0 1 (Option.some (Jvm.ClassFile.FieldType.array (Jvm.ClassFile.FieldType.object "java/lang/Object"))) :: gw) rm_Al_grow0_y0S (va_Pc [.ref o] (Pr D cy ad [(o, .inr (11, [.ref (ad 26), .int i_size, .int i_modCount]))] sz)) (q_Al_grow0_y0S D cy (va_A [(o, .inr (11, [.ref (ad 26), .int i_size, .int i_modCount]))] sz) o i_size i_modCount res) 1 10 (va_A [(o, .inr (11, [.ref (ad 26), .int i_size, .int i_modCount]))] sz) :=
  q_met (Qc := fun A => q_Al_grow0_y0S D cy A o i_size i_modCount res) (by decide) rfl rfl (Nat.le_of_ble_eq_true rfl) (fun p e s m below meth c ls F hP hD hS hl => we_Al_grow0_y0S (fu := fu) F  res hf _ _ _ hP hD hS hl) sz
abbrev b_Al_add1 : ByteArray := prog_28_method_24_code
theorem d_Al_add1_0 : decode b_Al_add1 0 = .ok (.iload_n 3, 1) := by decide +kernel
theorem d_Al_add1_1 : decode b_Al_add1 1 = .ok (.aload_n 2, 1) := by decide +kernel
theorem d_Al_add1_2 : decode b_Al_add1 2 = .ok (.arraylength, 1) := by decide +kernel
theorem d_Al_add1_3 : decode b_Al_add1 3 = .ok (.if_icmp .ne 8, 3) := by decide +kernel
theorem d_Al_add1_6 : decode b_Al_add1 6 = .ok (.aload_n 0, 1) := by decide +kernel
theorem d_Al_add1_7 : decode b_Al_add1 7 = .ok (.invokevirtual 129, 3) := by decide +kernel
theorem d_Al_add1_10 : decode b_Al_add1 10 = .ok (.astore_n 2, 1) := by decide +kernel
theorem d_Al_add1_11 : decode b_Al_add1 11 = .ok (.aload_n 2, 1) := by decide +kernel
theorem d_Al_add1_12 : decode b_Al_add1 12 = .ok (.iload_n 3, 1) := by decide +kernel
theorem d_Al_add1_13 : decode b_Al_add1 13 = .ok (.aload_n 1, 1) := by decide +kernel
theorem d_Al_add1_14 : decode b_Al_add1 14 = .ok (.aastore, 1) := by decide +kernel
theorem d_Al_add1_15 : decode b_Al_add1 15 = .ok (.aload_n 0, 1) := by decide +kernel
theorem d_Al_add1_16 : decode b_Al_add1 16 = .ok (.iload_n 3, 1) := by decide +kernel
theorem d_Al_add1_17 : decode b_Al_add1 17 = .ok (.iconst 1, 1) := by decide +kernel
theorem d_Al_add1_18 : decode b_Al_add1 18 = .ok (.iadd, 1) := by decide +kernel
theorem d_Al_add1_19 : decode b_Al_add1 19 = .ok (.putfield 48, 3) := by decide +kernel
theorem d_Al_add1_22 : decode b_Al_add1 22 = .ok (.return_, 1) := by decide +kernel
abbrev rm_Al_add1_y0Sy1beforecoinss2x26 : Room := { frames := 3, cells := 1, slots := 10, locals := 69 }
abbrev q_Al_add1_y0Sy1beforecoinss2x26 (D : va_G) (cy : Nat → ClassId) (A : Nat → Prop) (o : Nat) (o1 : Nat) (r1_raw : Value) (v_a1_id : Value) (r1_ids : Value) (i_modCount : Int32) (i1_height : Int32) (j1_time : Int64) (i1_bits : Int32) (j1_work : Int64) (i1_bad : Int32) (i1_valid : Int32) (i1_mark : Int32) (res : Int32) : Array Value → State → Outcome → State → Prop := va_Qv (fun (_ : Nat) => True) (fun u t => Po D cy A [(o, .inr (11, [.ref u, .int res, .int i_modCount])), (o1, .inr (1, [.null, r1_raw, v_a1_id, r1_ids, .int i1_height, .long j1_time, .int i1_bits, .long j1_work, .null, .int i1_bad, .int i1_valid, .int i1_mark])), (u, .inl (cy 7, 10, .inr (.inr (.inr (.inr (va_up (fun _ => none) 0 (some o1)))))))] t) A
def I_Al_add1_y0Sy1beforecoinss2x26_e (p : Program) (l : Launch) (e : Env) (s : State) (m : MethodId) (args : Array Value) (below : List Frame) (meth : Method) (c : Code) (D : va_G) (cy : Nat → ClassId) (A : Nat → Prop) (ad : Nat → Nat) (o : Nat) (o1 : Nat) (r1_raw : Value) (v_a1_id : Value) (r1_ids : Value) (i_modCount : Int32) (i1_height : Int32) (j1_time : Int64) (i1_bits : Int32) (j1_work : Int64) (i1_bad : Int32) (i1_valid : Int32) (i1_mark : Int32) (k : Int32 → Int32 → Option (Int32)) : Prop :=
  ∀ (a3 : Int32) (u0 : Int32) (res : Int32), k a3 u0 = some res → ∀ (H : Heap) (locs : List Loc) (ls : Array Slot), va_P D classes [(o, .inr (11, [.ref (ad 26), .int u0, .int i_modCount])), (o1, .inr (1, [.null, r1_raw, v_a1_id, r1_ids, .int i1_height, .long j1_time, .int i1_bits, .long j1_work, .null, .int i1_bad, .int i1_valid, .int i1_mark]))] H → va_D A [(o, .inr (11, [.ref (ad 26), .int u0, .int i_modCount])), (o1, .inr (1, [.null, r1_raw, v_a1_id, r1_ids, .int i1_height, .long j1_time, .int i1_bits, .long j1_work, .null, .int i1_bad, .int i1_valid, .int i1_mark]))] → va_S A s.heap H locs → lv_has ls 4 [(0, .ref o), (1, .ref o1), (2, .ref (ad 26)), (3, .int a3)] → W p l e rm_Al_add1_y0Sy1beforecoinss2x26 s m args below meth c H locs 0 0 (MQ below (q_Al_add1_y0Sy1beforecoinss2x26 D cy A o o1 r1_raw v_a1_id r1_ids i_modCount i1_height j1_time i1_bits j1_work i1_bad i1_valid i1_mark res) args s 1 10 A) (F0 m 0 ls [])
theorem hde_74 : ({ cls := "java/util/ArrayList", name := "grow", desc := "()[Ljava/lang/Object;" } : Jvm.MethodName).cls ≠ "java/lang/invoke/MethodHandle" ∧ ({ cls := "java/util/ArrayList", name := "grow", desc := "()[Ljava/lang/Object;" } : Jvm.MethodName).cls ≠ "java/lang/invoke/VarHandle" ∧ (parseMethodDescriptor ({ cls := "java/util/ArrayList", name := "grow", desc := "()[Ljava/lang/Object;" } : Jvm.MethodName).desc).map (fun d => d.parameters.length) = some 0 := by decide +kernel
set_option maxHeartbeats 8000000 in
set_option maxRecDepth 100000 in
theorem we_Al_add1_y0Sy1beforecoinss2x26 {p : Program} {l : Launch} {e : Env} {s : State} {m : MethodId} {args : Array Value} {below : List Frame} {meth : Method} {c : Code} {D : va_G} {cy : Nat → ClassId} {A : Nat → Prop} {ad : Nat → Nat} {o : Nat} {o1 : Nat} {r1_raw : Value} {v_a1_id : Value} {r1_ids : Value} {i_modCount : Int32} {i1_height : Int32} {j1_time : Int64} {i1_bits : Int32} {j1_work : Int64} {i1_bad : Int32} {i1_valid : Int32} {i1_mark : Int32} {fu : Nat} (F : Fx p s m args meth c b_Al_add1 4 "java/util/ArrayList" "add" none D cy ad A) : I_Al_add1_y0Sy1beforecoinss2x26_e p l e s m args below meth c D cy A ad o o1 r1_raw v_a1_id r1_ids i_modCount i1_height j1_time i1_bits j1_work i1_bad i1_valid i1_mark (x_Al_add1_y0Sy1beforecoinss2x26 fu i_modCount i1_height j1_time i1_bits j1_work i1_bad i1_valid i1_mark) := by
  obtain ⟨hx, hb, hr, hml, hown, hts, hlocks, hK, hA, hSt, hnm, hex⟩ := id F
  intro a3 u0 res hf H locs ls hP hD hS hl
  unfold x_Al_add1_y0Sy1beforecoinss2x26 at hf
  refine lv_iload_n hx hb d_Al_add1_0 rfl (lv_at hl 3 rfl) ?_
  refine lv_aload_n hx hb d_Al_add1_1 rfl (lv_at hl 2 rfl) ?_
  refine va_tlen (v := 0) hx hb (hSt.1 26 _ rfl).2 hS rfl d_Al_add1_2 ?_
  refine lv_icmp_ne (tgt := 11) hx hb d_Al_add1_3 (by decide) (fun cx => ?_) (fun cx => ?_)
  · have hf := ifn cx hf
    refine lv_aload_n hx hb d_Al_add1_11 rfl (lv_at hl 2 rfl) ?_
    refine lv_iload_n hx hb d_Al_add1_12 rfl (lv_at hl 3 rfl) ?_
    refine lv_aload_n hx hb d_Al_add1_13 rfl (lv_at hl 1 rfl) ?_
    exact nomatch hf
  · have hf := ifp cx hf
    refine lv_aload_n hx hb d_Al_add1_6 rfl (lv_at hl 0 rfl) ?_
    obtain ⟨⟨⟩, hc, hf⟩ := bdp1 hf
    refine q_aqS (wr := [(o1, .inr (1, [.null, r1_raw, v_a1_id, r1_ids, .int i1_height, .long j1_time, .int i1_bits, .long j1_work, .null, .int i1_bad, .int i1_valid, .int i1_mark]))]) (va_runV (C := "java/util/ArrayList") (As := []) (rest := []) ⟨hx, hb, hml, hown, hts⟩ (c_Al_grow0_y0S l D cy ad fu o u0 i_modCount _ hc H.size) ⟨q_cB hts gw_448 gw_12 gw_445 hde_74 ⟨by decide, by decide⟩, hts _ gw_447, hts _ gs_1⟩ (q_preV (q_pre (hP.sub [0] rfl) (hD.sub [0] (by decide) rfl) hK hSt hS (va_free hD hS hA [0] rfl) _) (va_recv hK (hP.sub [0] rfl) (ci := 11) (q0 := 0) rfl rfl)) rfl rfl hl.1 rfl (lv_room (Nat.le_of_ble_eq_true rfl)) d_Al_add1_7 ⟨Nat.le_of_ble_eq_true rfl, Nat.le_of_ble_eq_true rfl⟩) hP hD hS hA [0] [1] rfl rfl (by decide) (by decide) (fun uu H locs hP hD hS => ?_)
    clear hc
    obtain ⟨w0, eu⟩ : ∃ z, z = uu := ⟨_, rfl⟩
    subst eu
    refine W.widen (k := 1) (n := 10) (Nat.le_of_ble_eq_true rfl) (Nat.le_of_ble_eq_true rfl) ?_
    have hP : va_P D classes [(o1, .inr (1, [.null, r1_raw, v_a1_id, r1_ids, .int i1_height, .long j1_time, .int i1_bits, .long j1_work, .null, .int i1_bad, .int i1_valid, .int i1_mark])), (o, .inr (11, [.ref w0, .int u0, .int i_modCount])), (w0, .inl (cy 7, 10, .inr (.inr (.inr (.inr (fun _ => none))))))] H := hP
    have hD : va_D A [(o1, .inr (1, [.null, r1_raw, v_a1_id, r1_ids, .int i1_height, .long j1_time, .int i1_bits, .long j1_work, .null, .int i1_bad, .int i1_valid, .int i1_mark])), (o, .inr (11, [.ref w0, .int u0, .int i_modCount])), (w0, .inl (cy 7, 10, .inr (.inr (.inr (.inr (fun _ => none))))))] := hD
    refine W.eq (g2 := F0 m 10 ls [.ref w0]) rfl ?_
    refine lv_astore_n (lv' := [(2, .ref w0), (0, .ref o), (1, .ref o1), (3, .int a3)]) hx hb d_Al_add1_10 rfl hl (by decide) rfl (fun ls hl => ?_)
    refine lv_aload_n hx hb d_Al_add1_11 rfl (lv_at hl 0 rfl) ?_
    refine lv_iload_n hx hb d_Al_add1_12 rfl (lv_at hl 3 rfl) ?_
    refine lv_aload_n hx hb d_Al_add1_13 rfl (lv_at hl 2 rfl) ?_
    obtain ⟨hg, hf⟩ := gdp hf
    obtain rfl := ieq_p hg
    refine va_astqO hx hb hK hP hD hS 2 7 0 1 rfl rfl (hSt.2.1 _ (List.mem_of_getElem? (i := 35) rfl)) rfl rfl (inb_in (by decide)) d_Al_add1_14 (fun H locs hP hD hS => ?_)
    have hP : va_P D classes [(o1, .inr (1, [.null, r1_raw, v_a1_id, r1_ids, .int i1_height, .long j1_time, .int i1_bits, .long j1_work, .null, .int i1_bad, .int i1_valid, .int i1_mark])), (o, .inr (11, [.ref w0, .int u0, .int i_modCount])), (w0, .inl (cy 7, 10, .inr (.inr (.inr (.inr (va_up (fun _ => none) 0 (some o1)))))))] H := hP
    have hD : va_D A [(o1, .inr (1, [.null, r1_raw, v_a1_id, r1_ids, .int i1_height, .long j1_time, .int i1_bits, .long j1_work, .null, .int i1_bad, .int i1_valid, .int i1_mark])), (o, .inr (11, [.ref w0, .int u0, .int i_modCount])), (w0, .inl (cy 7, 10, .inr (.inr (.inr (.inr (va_up (fun _ => none) 0 (some o1)))))))] := hD
    refine lv_aload_n hx hb d_Al_add1_15 rfl (lv_at hl 1 rfl) ?_
    refine lv_iload_n hx hb d_Al_add1_16 rfl (lv_at hl 3 rfl) ?_
    refine lv_iconst (v := 1) hx hb d_Al_add1_17 (by decide) ?_
    refine lv_iadd hx hb d_Al_add1_18 ?_
    refine W.eq (g2 := F0 m 19 ls [.int (1 : Int32), .ref o]) (by rw [show ((0 : Int32) : Int32) + (1 : Int32) = (1 : Int32) by decide]) ?_
    refine va_put (D := D) (ci := 11) (v := .int (1 : Int32)) (ty := .int) (C := "java/util/ArrayList") (T := F_11) (N := 3) hx hb hts i_11 t_11 t_11_ok n_11 hown hK hP hD hS 1 rfl rfl 1 (by decide) (hts _ gw_352) (fun _ h9 => h9) rfl (by decide +kernel) rfl rfl (Nat.le_of_ble_eq_true rfl) d_Al_add1_19 (fun H locs hP hD hS => ?_)
    have hP : va_P D classes [(o1, .inr (1, [.null, r1_raw, v_a1_id, r1_ids, .int i1_height, .long j1_time, .int i1_bits, .long j1_work, .null, .int i1_bad, .int i1_valid, .int i1_mark])), (o, .inr (11, [.ref w0, .int (1 : Int32), .int i_modCount])), (w0, .inl (cy 7, 10, .inr (.inr (.inr (.inr (va_up (fun _ => none) 0 (some o1)))))))] H := hP
    have hD : va_D A [(o1, .inr (1, [.null, r1_raw, v_a1_id, r1_ids, .int i1_height, .long j1_time, .int i1_bits, .long j1_work, .null, .int i1_bad, .int i1_valid, .int i1_mark])), (o, .inr (11, [.ref w0, .int (1 : Int32), .int i_modCount])), (w0, .inl (cy 7, 10, .inr (.inr (.inr (.inr (va_up (fun _ => none) 0 (some o1)))))))] := hD
    obtain rfl := Option.some.inj hf
    exact q_rvS (u := w0) hx hb hr hlocks hK (hP.sub [1, 0, 2] rfl) (hD.sub [1, 0, 2] (by decide) rfl) hS d_Al_add1_22
theorem c_Al_add1_y0Sy1beforecoinss2x26 (l : Launch) (D : va_G) (cy : Nat → ClassId) (ad : Nat → Nat) (fu : Nat) (o : Nat) (o1 : Nat) (r1_raw : Value) (v_a1_id : Value) (r1_ids : Value) (i_modCount : Int32) (i1_height : Int32) (j1_time : Int64) (i1_bits : Int32) (j1_work : Int64) (i1_bad : Int32) (i1_valid : Int32) (i1_mark : Int32) (a3 : Int32) (u0 : Int32) (res : Int32) (hf : x_Al_add1_y0Sy1beforecoinss2x26 fu i_modCount i1_height j1_time i1_bits j1_work i1_bad i1_valid i1_mark a3 u0 = some res) (sz : Nat) : Met l ({ cls := "java/util/ArrayList", name := "add", desc := "(Ljava/lang/Object;[Ljava/lang/Object;I)V" } : Jvm.MethodName) (.code ({ cls := "java/util/ArrayList", name := "add", desc := "(Ljava/lang/Object;[Ljava/lang/Object;I)V" } : Jvm.MethodName) b_Al_add1 4 none :: gw) rm_Al_add1_y0Sy1beforecoinss2x26 (va_Pc [.ref o, .ref o1, .ref (ad 26), .int a3] (Pr D cy ad [(o, .inr (11, [.ref (ad 26), .int u0, .int i_modCount])), (o1, .inr (1, [.null, r1_raw, v_a1_id, r1_ids, .int i1_height, .long j1_time, .int i1_bits, .long j1_work, .null, .int i1_bad, .int i1_valid, .int i1_mark]))] sz)) (q_Al_add1_y0Sy1beforecoinss2x26 D cy (va_A [(o, .inr (11, [.ref (ad 26), .int u0, .int i_modCount])), (o1, .inr (1, [.null, r1_raw, v_a1_id, r1_ids, .int i1_height, .long j1_time, .int i1_bits, .long j1_work, .null, .int i1_bad, .int i1_valid, .int i1_mark]))] sz) o o1 r1_raw v_a1_id r1_ids i_modCount i1_height j1_time i1_bits j1_work i1_bad i1_valid i1_mark res) 1 10 (va_A [(o, .inr (11, [.ref (ad 26), .int u0, .int i_modCount])), (o1, .inr (1, [.null, r1_raw, v_a1_id, r1_ids, .int i1_height, .long j1_time, .int i1_bits, .long j1_work, .null, .int i1_bad, .int i1_valid, .int i1_mark]))] sz) :=
  q_met (Qc := fun A => q_Al_add1_y0Sy1beforecoinss2x26 D cy A o o1 r1_raw v_a1_id r1_ids i_modCount i1_height j1_time i1_bits j1_work i1_bad i1_valid i1_mark res) (by decide) rfl rfl (Nat.le_of_ble_eq_true rfl) (fun p e s m below meth c ls F hP hD hS hl => we_Al_add1_y0Sy1beforecoinss2x26 (fu := fu) F a3 u0 res hf _ _ _ hP hD hS hl) sz
abbrev b_Al_add0 : ByteArray := prog_28_method_25_code
theorem d_Al_add0_0 : decode b_Al_add0 0 = .ok (.aload_n 0, 1) := by decide +kernel
theorem d_Al_add0_1 : decode b_Al_add0 1 = .ok (.dup, 1) := by decide +kernel
theorem d_Al_add0_2 : decode b_Al_add0 2 = .ok (.getfield 63, 3) := by decide +kernel
theorem d_Al_add0_5 : decode b_Al_add0 5 = .ok (.iconst 1, 1) := by decide +kernel
theorem d_Al_add0_6 : decode b_Al_add0 6 = .ok (.iadd, 1) := by decide +kernel
theorem d_Al_add0_7 : decode b_Al_add0 7 = .ok (.putfield 63, 3) := by decide +kernel
theorem d_Al_add0_10 : decode b_Al_add0 10 = .ok (.aload_n 0, 1) := by decide +kernel
theorem d_Al_add0_11 : decode b_Al_add0 11 = .ok (.aload_n 1, 1) := by decide +kernel
theorem d_Al_add0_12 : decode b_Al_add0 12 = .ok (.aload_n 0, 1) := by decide +kernel
theorem d_Al_add0_13 : decode b_Al_add0 13 = .ok (.getfield 9, 3) := by decide +kernel
theorem d_Al_add0_16 : decode b_Al_add0 16 = .ok (.aload_n 0, 1) := by decide +kernel
theorem d_Al_add0_17 : decode b_Al_add0 17 = .ok (.getfield 48, 3) := by decide +kernel
theorem d_Al_add0_20 : decode b_Al_add0 20 = .ok (.invokevirtual 131, 3) := by decide +kernel
theorem d_Al_add0_23 : decode b_Al_add0 23 = .ok (.iconst 1, 1) := by decide +kernel
theorem d_Al_add0_24 : decode b_Al_add0 24 = .ok (.ireturn, 1) := by decide +kernel
abbrev rm_Al_add0_y0Sy1beforecoins : Room := { frames := 4, cells := 1, slots := 10, locals := 92 }
abbrev q_Al_add0_y0Sy1beforecoins (D : va_G) (cy : Nat → ClassId) (A : Nat → Prop) (o : Nat) (o1 : Nat) (r1_raw : Value) (v_a1_id : Value) (r1_ids : Value) (i1_height : Int32) (j1_time : Int64) (i1_bits : Int32) (j1_work : Int64) (i1_bad : Int32) (i1_valid : Int32) (i1_mark : Int32) (res : Int32 × Int32 × Int32) : Array Value → State → Outcome → State → Prop := va_Qi (fun r' (_ : Nat) => r' = res.1) (fun u t => Po D cy A [(o, .inr (11, [.ref u, .int res.2.1, .int res.2.2])), (o1, .inr (1, [.null, r1_raw, v_a1_id, r1_ids, .int i1_height, .long j1_time, .int i1_bits, .long j1_work, .null, .int i1_bad, .int i1_valid, .int i1_mark])), (u, .inl (cy 7, 10, .inr (.inr (.inr (.inr (va_up (fun _ => none) 0 (some o1)))))))] t) A
def I_Al_add0_y0Sy1beforecoins_e (p : Program) (l : Launch) (e : Env) (s : State) (m : MethodId) (args : Array Value) (below : List Frame) (meth : Method) (c : Code) (D : va_G) (cy : Nat → ClassId) (A : Nat → Prop) (ad : Nat → Nat) (o : Nat) (o1 : Nat) (r1_raw : Value) (v_a1_id : Value) (r1_ids : Value) (i1_height : Int32) (j1_time : Int64) (i1_bits : Int32) (j1_work : Int64) (i1_bad : Int32) (i1_valid : Int32) (i1_mark : Int32) (k : Int32 → Int32 → Option (Int32 × Int32 × Int32)) : Prop :=
  ∀ (u0 : Int32) (u1 : Int32) (res : Int32 × Int32 × Int32), k u0 u1 = some res → ∀ (H : Heap) (locs : List Loc) (ls : Array Slot), va_P D classes [(o, .inr (11, [.ref (ad 26), .int u0, .int u1])), (o1, .inr (1, [.null, r1_raw, v_a1_id, r1_ids, .int i1_height, .long j1_time, .int i1_bits, .long j1_work, .null, .int i1_bad, .int i1_valid, .int i1_mark]))] H → va_D A [(o, .inr (11, [.ref (ad 26), .int u0, .int u1])), (o1, .inr (1, [.null, r1_raw, v_a1_id, r1_ids, .int i1_height, .long j1_time, .int i1_bits, .long j1_work, .null, .int i1_bad, .int i1_valid, .int i1_mark]))] → va_S A s.heap H locs → lv_has ls 2 [(0, .ref o), (1, .ref o1)] → W p l e rm_Al_add0_y0Sy1beforecoins s m args below meth c H locs 0 0 (MQ below (q_Al_add0_y0Sy1beforecoins D cy A o o1 r1_raw v_a1_id r1_ids i1_height j1_time i1_bits j1_work i1_bad i1_valid i1_mark res) args s 1 10 A) (F0 m 0 ls [])
theorem hde_75 : ({ cls := "java/util/ArrayList", name := "add", desc := "(Ljava/lang/Object;[Ljava/lang/Object;I)V" } : Jvm.MethodName).cls ≠ "java/lang/invoke/MethodHandle" ∧ ({ cls := "java/util/ArrayList", name := "add", desc := "(Ljava/lang/Object;[Ljava/lang/Object;I)V" } : Jvm.MethodName).cls ≠ "java/lang/invoke/VarHandle" ∧ (parseMethodDescriptor ({ cls := "java/util/ArrayList", name := "add", desc := "(Ljava/lang/Object;[Ljava/lang/Object;I)V" } : Jvm.MethodName).desc).map (fun d => d.parameters.length) = some 3 := by decide +kernel
set_option maxHeartbeats 8000000 in
set_option maxRecDepth 100000 in
theorem we_Al_add0_y0Sy1beforecoins {p : Program} {l : Launch} {e : Env} {s : State} {m : MethodId} {args : Array Value} {below : List Frame} {meth : Method} {c : Code} {D : va_G} {cy : Nat → ClassId} {A : Nat → Prop} {ad : Nat → Nat} {o : Nat} {o1 : Nat} {r1_raw : Value} {v_a1_id : Value} {r1_ids : Value} {i1_height : Int32} {j1_time : Int64} {i1_bits : Int32} {j1_work : Int64} {i1_bad : Int32} {i1_valid : Int32} {i1_mark : Int32} {fu : Nat} (F : Fx p s m args meth c b_Al_add0 2 "java/util/ArrayList" "add" (some .boolean) D cy ad A) : I_Al_add0_y0Sy1beforecoins_e p l e s m args below meth c D cy A ad o o1 r1_raw v_a1_id r1_ids i1_height j1_time i1_bits j1_work i1_bad i1_valid i1_mark (x_Al_add0_y0Sy1beforecoins fu i1_height j1_time i1_bits j1_work i1_bad i1_valid i1_mark) := by
  obtain ⟨hx, hb, hr, hml, hown, hts, hlocks, hK, hA, hSt, hnm, hex⟩ := id F
  intro u0 u1 res hf H locs ls hP hD hS hl
  unfold x_Al_add0_y0Sy1beforecoins at hf
  refine lv_aload_n hx hb d_Al_add0_0 rfl (lv_at hl 0 rfl) ?_
  refine lv_dup hx hb d_Al_add0_1 rfl ?_
  refine va_get (D := D) (ci := 11) (v := .int u1) (C := "java/util/ArrayList") (T := F_11) (N := 3) hx hb hts i_11 hown hK hP 0 rfl rfl 2 (by decide) (hts _ gw_354) (u_same (hts _ gw_355)) rfl d_Al_add0_2 ?_
  refine lv_iconst (v := 1) hx hb d_Al_add0_5 (by decide) ?_
  refine lv_iadd hx hb d_Al_add0_6 ?_
  refine lv_topi (fun v1 ev => ?_)
  have hf := bn ev hf
  clear ev
  refine va_put (D := D) (ci := 11) (v := .int v1) (ty := .int) (C := "java/util/ArrayList") (T := F_11) (N := 3) hx hb hts i_11 t_11 t_11_ok n_11 hown hK hP hD hS 0 rfl rfl 2 (by decide) (hts _ gw_354) (u_same (hts _ gw_355)) rfl (by decide +kernel) rfl rfl (Nat.le_of_ble_eq_true rfl) d_Al_add0_7 (fun H locs hP hD hS => ?_)
  have hP : va_P D classes [(o, .inr (11, [.ref (ad 26), .int u0, .int v1])), (o1, .inr (1, [.null, r1_raw, v_a1_id, r1_ids, .int i1_height, .long j1_time, .int i1_bits, .long j1_work, .null, .int i1_bad, .int i1_valid, .int i1_mark]))] H := hP
  have hD : va_D A [(o, .inr (11, [.ref (ad 26), .int u0, .int v1])), (o1, .inr (1, [.null, r1_raw, v_a1_id, r1_ids, .int i1_height, .long j1_time, .int i1_bits, .long j1_work, .null, .int i1_bad, .int i1_valid, .int i1_mark]))] := hD
  refine lv_aload_n hx hb d_Al_add0_10 rfl (lv_at hl 0 rfl) ?_
  refine lv_aload_n hx hb d_Al_add0_11 rfl (lv_at hl 1 rfl) ?_
  refine lv_aload_n hx hb d_Al_add0_12 rfl (lv_at hl 0 rfl) ?_
  refine va_get (D := D) (ci := 11) (v := .ref (ad 26)) (C := "java/util/ArrayList") (T := F_11) (N := 3) hx hb hts i_11 hown hK hP 0 rfl rfl 0 (by decide) (hts _ gw_351) (fun _ h9 => h9) rfl d_Al_add0_13 ?_
  refine lv_aload_n hx hb d_Al_add0_16 rfl (lv_at hl 0 rfl) ?_
  refine va_get (D := D) (ci := 11) (v := .int u0) (C := "java/util/ArrayList") (T := F_11) (N := 3) hx hb hts i_11 hown hK hP 0 rfl rfl 1 (by decide) (hts _ gw_352) (fun _ h9 => h9) rfl d_Al_add0_17 ?_
  obtain ⟨e2, hc, hf⟩ := bdp1 hf
  refine q_avS (wr := []) (va_runV (C := "java/util/ArrayList") (As := [.ref o1, .ref (ad 26), .int u0]) (rest := []) ⟨hx, hb, hml, hown, hts⟩ (c_Al_add1_y0Sy1beforecoinss2x26 l D cy ad fu o o1 r1_raw v_a1_id r1_ids v1 i1_height j1_time i1_bits j1_work i1_bad i1_valid i1_mark u0 u0 _ hc H.size) ⟨q_cB hts gw_444 gw_12 gw_441 hde_75 ⟨by decide, by decide⟩, hts _ gw_443, hts _ gs_0⟩ (q_preV (q_pre (hP.sub [0, 1] rfl) (hD.sub [0, 1] (by decide) rfl) hK hSt hS (va_free hD hS hA [0, 1] rfl) _) (va_recv hK (hP.sub [0, 1] rfl) (ci := 11) (q0 := 0) rfl rfl)) rfl rfl hl.1 rfl (lv_room (Nat.le_of_ble_eq_true rfl)) d_Al_add0_20 ⟨Nat.le_of_ble_eq_true rfl, Nat.le_of_ble_eq_true rfl⟩) hP hD hS hA [0, 1] [] rfl rfl (by decide) (by decide) (fun uu H locs hP hD hS => ?_)
  clear hc
  obtain ⟨w0, eu⟩ : ∃ z, z = uu := ⟨_, rfl⟩
  subst eu
  refine W.widen (k := 1) (n := 10) (Nat.le_of_ble_eq_true rfl) (Nat.le_of_ble_eq_true rfl) ?_
  have hP : va_P D classes [(o, .inr (11, [.ref w0, .int e2, .int v1])), (o1, .inr (1, [.null, r1_raw, v_a1_id, r1_ids, .int i1_height, .long j1_time, .int i1_bits, .long j1_work, .null, .int i1_bad, .int i1_valid, .int i1_mark])), (w0, .inl (cy 7, 10, .inr (.inr (.inr (.inr (va_up (fun _ => none) 0 (some o1)))))))] H := hP
  have hD : va_D A [(o, .inr (11, [.ref w0, .int e2, .int v1])), (o1, .inr (1, [.null, r1_raw, v_a1_id, r1_ids, .int i1_height, .long j1_time, .int i1_bits, .long j1_work, .null, .int i1_bad, .int i1_valid, .int i1_mark])), (w0, .inl (cy 7, 10, .inr (.inr (.inr (.inr (va_up (fun _ => none) 0 (some o1)))))))] := hD
  refine lv_iconst (v := 1) hx hb d_Al_add0_23 (by decide) ?_
  obtain rfl := Option.some.inj hf
  exact q_rzS w0 hx hb hr hlocks hK hP hD hS (isb_n (v := 1) (by decide)) d_Al_add0_24
theorem c_Al_add0_y0Sy1beforecoins (l : Launch) (D : va_G) (cy : Nat → ClassId) (ad : Nat → Nat) (fu : Nat) (o : Nat) (o1 : Nat) (r1_raw : Value) (v_a1_id : Value) (r1_ids : Value) (i1_height : Int32) (j1_time : Int64) (i1_bits : Int32) (j1_work : Int64) (i1_bad : Int32) (i1_valid : Int32) (i1_mark : Int32) (u0 : Int32) (u1 : Int32) (res : Int32 × Int32 × Int32) (hf : x_Al_add0_y0Sy1beforecoins fu i1_height j1_time i1_bits j1_work i1_bad i1_valid i1_mark u0 u1 = some res) (sz : Nat) : Met l ({ cls := "java/util/ArrayList", name := "add", desc := "(Ljava/lang/Object;)Z" } : Jvm.MethodName) (.code ({ cls := "java/util/ArrayList", name := "add", desc := "(Ljava/lang/Object;)Z" } : Jvm.MethodName) b_Al_add0 2 (some .boolean) :: gw) rm_Al_add0_y0Sy1beforecoins (va_Pc [.ref o, .ref o1] (Pr D cy ad [(o, .inr (11, [.ref (ad 26), .int u0, .int u1])), (o1, .inr (1, [.null, r1_raw, v_a1_id, r1_ids, .int i1_height, .long j1_time, .int i1_bits, .long j1_work, .null, .int i1_bad, .int i1_valid, .int i1_mark]))] sz)) (q_Al_add0_y0Sy1beforecoins D cy (va_A [(o, .inr (11, [.ref (ad 26), .int u0, .int u1])), (o1, .inr (1, [.null, r1_raw, v_a1_id, r1_ids, .int i1_height, .long j1_time, .int i1_bits, .long j1_work, .null, .int i1_bad, .int i1_valid, .int i1_mark]))] sz) o o1 r1_raw v_a1_id r1_ids i1_height j1_time i1_bits j1_work i1_bad i1_valid i1_mark res) 1 10 (va_A [(o, .inr (11, [.ref (ad 26), .int u0, .int u1])), (o1, .inr (1, [.null, r1_raw, v_a1_id, r1_ids, .int i1_height, .long j1_time, .int i1_bits, .long j1_work, .null, .int i1_bad, .int i1_valid, .int i1_mark]))] sz) :=
  q_met (Qc := fun A => q_Al_add0_y0Sy1beforecoins D cy A o o1 r1_raw v_a1_id r1_ids i1_height j1_time i1_bits j1_work i1_bad i1_valid i1_mark res) (by decide) rfl rfl (Nat.le_of_ble_eq_true rfl) (fun p e s m below meth c ls F hP hD hS hl => we_Al_add0_y0Sy1beforecoins (fu := fu) F u0 u1 res hf _ _ _ hP hD hS hl) sz
