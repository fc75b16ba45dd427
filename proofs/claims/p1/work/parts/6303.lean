abbrev rm_Al_get_y0R : Room := { frames := 2, cells := 0, slots := 0, locals := 43 }
abbrev q_Al_get_y0R (D : va_G) (cy : Nat → ClassId) (A : Nat → Prop) (o : Nat) (a_el : Nat) (r_e0 : Nat) (i_size : Int32) (i_modCount : Int32) (res : Unit) : Array Value → State → Outcome → State → Prop := va_Qq (fun r' (_ : Unit) => r' = some r_e0) (fun _ t => Po D cy A [(o, .inr (11, [.ref a_el, .int i_size, .int i_modCount])), (a_el, .inl (cy 7, 10, .inr (.inr (.inr (.inr (va_up (fun _ => none) 0 (some r_e0)))))))] t) A
def I_Al_get_y0R_e (p : Program) (l : Launch) (e : Env) (s : State) (m : MethodId) (args : Array Value) (below : List Frame) (meth : Method) (c : Code) (D : va_G) (cy : Nat → ClassId) (A : Nat → Prop) (ad : Nat → Nat) (o : Nat) (a_el : Nat) (r_e0 : Nat) (i_size : Int32) (i_modCount : Int32) (k : Int32 → Option (Unit)) : Prop :=
  ∀ (a1 : Int32) (res : Unit), k a1 = some res → ∀ (H : Heap) (locs : List Loc) (ls : Array Slot), va_P D classes [(o, .inr (11, [.ref a_el, .int i_size, .int i_modCount])), (a_el, .inl (cy 7, 10, .inr (.inr (.inr (.inr (va_up (fun _ => none) 0 (some r_e0)))))))] H → va_D A [(o, .inr (11, [.ref a_el, .int i_size, .int i_modCount])), (a_el, .inl (cy 7, 10, .inr (.inr (.inr (.inr (va_up (fun _ => none) 0 (some r_e0)))))))] → va_S A s.heap H locs → lv_has ls 2 [(0, .ref o), (1, .int a1)] → W p l e rm_Al_get_y0R s m args below meth c H locs 0 0 (MQ below (q_Al_get_y0R D cy A o a_el r_e0 i_size i_modCount res) args s 0 0 A) (F0 m 0 ls [])
def x_Al_get_y0R (fu : Nat) (i_size : Int32) (i_modCount : Int32) (a1 : Int32) : Option (Unit) :=
  bd1 (x_Ob_checkIndex fu a1 i_size) fun v1 => bd1 (x_Al_elementData_y0R fu i_size i_modCount a1) fun _ => some ()
set_option maxHeartbeats 8000000 in
set_option maxRecDepth 100000 in
theorem we_Al_get_y0R {p : Program} {l : Launch} {e : Env} {s : State} {m : MethodId} {args : Array Value} {below : List Frame} {meth : Method} {c : Code} {D : va_G} {cy : Nat → ClassId} {A : Nat → Prop} {ad : Nat → Nat} {o : Nat} {a_el : Nat} {r_e0 : Nat} {i_size : Int32} {i_modCount : Int32} {fu : Nat} (F : Fx p s m args meth c b_Al_get 2 "java/util/ArrayList" "get" (Option.some (Jvm.ClassFile.FieldType.object "java/lang/Object")) D cy ad A) : I_Al_get_y0R_e p l e s m args below meth c D cy A ad o a_el r_e0 i_size i_modCount (x_Al_get_y0R fu i_size i_modCount) := by
  obtain ⟨hx, hb, hr, hml, hown, hts, hlocks, hK, hA, hSt, hnm, hex⟩ := id F
  intro a1 res hf H locs ls hP hD hS hl
  unfold x_Al_get_y0R at hf
  refine lv_iload_n hx hb d_Al_get_0 rfl (lv_at hl 1 rfl) ?_
  refine lv_aload_n hx hb d_Al_get_1 rfl (lv_at hl 0 rfl) ?_
  refine va_get (D := D) (ci := 11) (v := .int i_size) (C := "java/util/ArrayList") (T := F_11) (N := 3) hx hb hts i_11 hown hK hP 0 rfl rfl 1 (by decide) (hts _ gw_352) (fun _ h9 => h9) rfl d_Al_get_2 ?_
  obtain ⟨v1, hc, hf⟩ := bdp1 hf
  refine q_ai (wr := [(o, .inr (11, [.ref a_el, .int i_size, .int i_modCount])), (a_el, .inl (cy 7, 10, .inr (.inr (.inr (.inr (va_up (fun _ => none) 0 (some r_e0)))))))]) (va_runS (As := [.int a1, .int i_size]) (rest := []) ⟨hx, hb, hml, hown, hts⟩ (c_Ob_checkIndex l D cy ad fu a1 i_size _ hc H.size) ⟨q_cB hts gw_558 gw_25 gw_556 hdf_64 ⟨by decide, by decide⟩, hts _ gw_557⟩ (q_pre (hP.sub [] rfl) (hD.sub [] (by decide) rfl) hK hSt hS (va_free hD hS hA [] rfl) _) rfl rfl hl.1 rfl (lv_room (Nat.le_of_ble_eq_true rfl)) d_Al_get_5 ⟨Nat.le_of_ble_eq_true rfl, Nat.le_of_ble_eq_true rfl⟩) hP hD hS hA [] [0, 1] rfl rfl (by decide) (by decide) (fun H locs hP hD hS => ?_)
  clear hc
  have hP : va_P D classes [(o, .inr (11, [.ref a_el, .int i_size, .int i_modCount])), (a_el, .inl (cy 7, 10, .inr (.inr (.inr (.inr (va_up (fun _ => none) 0 (some r_e0)))))))] H := hP
  have hD : va_D A [(o, .inr (11, [.ref a_el, .int i_size, .int i_modCount])), (a_el, .inl (cy 7, 10, .inr (.inr (.inr (.inr (va_up (fun _ => none) 0 (some r_e0)))))))] := hD
  refine lv_pop hx hb d_Al_get_8 rfl ?_
  refine lv_aload_n hx hb d_Al_get_9 rfl (lv_at hl 0 rfl) ?_
  refine lv_iload_n hx hb d_Al_get_10 rfl (lv_at hl 1 rfl) ?_
  obtain ⟨⟨⟩, hc, hf⟩ := bdp1 hf
  refine q_aqS (wr := []) (va_runV (C := "java/util/ArrayList") (As := [.int a1]) (rest := []) ⟨hx, hb, hml, hown, hts⟩ (c_Al_elementData_y0R l D cy ad fu o a_el r_e0 i_size i_modCount a1 _ hc H.size) ⟨q_cB hts gw_565 gw_12 gw_562 hdf_65 ⟨by decide, by decide⟩, hts _ gw_563, hts _ gw_564⟩ (q_preV (q_pre (hP.sub [0, 1] rfl) (hD.sub [0, 1] (by decide) rfl) hK hSt hS (va_free hD hS hA [0, 1] rfl) _) (va_recv hK (hP.sub [0, 1] rfl) (ci := 11) (q0 := 0) rfl rfl)) rfl rfl hl.1 rfl (lv_room (Nat.le_of_ble_eq_true rfl)) d_Al_get_11 ⟨Nat.le_of_ble_eq_true rfl, Nat.le_of_ble_eq_true rfl⟩) hP hD hS hA [0, 1] [] rfl rfl (by decide) (by decide) (fun _ H locs hP hD hS => ?_)
  clear hc
  have hP : va_P D classes [(o, .inr (11, [.ref a_el, .int i_size, .int i_modCount])), (a_el, .inl (cy 7, 10, .inr (.inr (.inr (.inr (va_up (fun _ => none) 0 (some r_e0)))))))] H := hP
  have hD : va_D A [(o, .inr (11, [.ref a_el, .int i_size, .int i_modCount])), (a_el, .inl (cy 7, 10, .inr (.inr (.inr (.inr (va_up (fun _ => none) 0 (some r_e0)))))))] := hD
  refine W.eq (g2 := F0 m 14 ls [.ref r_e0]) rfl ?_
  obtain rfl := Option.some.inj hf
  exact q_ra (w1 := fun _ => [(o, .inr (11, [.ref a_el, .int i_size, .int i_modCount])), (a_el, .inl (cy 7, 10, .inr (.inr (.inr (.inr (va_up (fun _ => none) 0 (some r_e0)))))))]) (rr := fun _ => some r_e0) () rfl hx hb hr (Or.inl ⟨_, rfl⟩) hlocks hK hP hD hS d_Al_get_14
theorem c_Al_get_y0R (l : Launch) (D : va_G) (cy : Nat → ClassId) (ad : Nat → Nat) (fu : Nat) (o : Nat) (a_el : Nat) (r_e0 : Nat) (i_size : Int32) (i_modCount : Int32) (a1 : Int32) (res : Unit) (hf : x_Al_get_y0R fu i_size i_modCount a1 = some res) (sz : Nat) : Met l ({ cls := "java/util/ArrayList", name := "get", desc := "(I)Ljava/lang/Object;" } : Jvm.MethodName) (.code ({ cls := "java/util/ArrayList", name := "get", desc := "(I)Ljava/lang/Object;" } : Jvm.MethodName) b_Al_get 2 (Option.some (Jvm.ClassFile.FieldType.object "java/lang/Object")) :: gw) rm_Al_get_y0R (va_Pc [.ref o, .int a1] (Pr D cy ad [(o, .inr (11, [.ref a_el, .int i_size, .int i_modCount])), (a_el, .inl (cy 7, 10, .inr (.inr (.inr (.inr (va_up (fun _ => none) 0 (some r_e0)))))))] sz)) (q_Al_get_y0R D cy (va_A [(o, .inr (11, [.ref a_el, .int i_size, .int i_modCount])), (a_el, .inl (cy 7, 10, .inr (.inr (.inr (.inr (va_up (fun _ => none) 0 (some r_e0)))))))] sz) o a_el r_e0 i_size i_modCount res) 0 0 (va_A [(o, .inr (11, [.ref a_el, .int i_size, .int i_modCount])), (a_el, .inl (cy 7, 10, .inr (.inr (.inr (.inr (va_up (fun _ => none) 0 (some r_e0)))))))] sz) :=
  q_met (Qc := fun A => q_Al_get_y0R D cy A o a_el r_e0 i_size i_modCount res) (by decide) rfl rfl (Nat.le_of_ble_eq_true rfl) (fun p e s m below meth c ls F hP hD hS hl => we_Al_get_y0R (fu := fu) F a1 res hf _ _ _ hP hD hS hl) sz
abbrev b_K_badBlocks : ByteArray := prog_1_method_23_code
theorem d_K_badBlocks_0 : decode b_K_badBlocks 0 = .ok (.iconst 0, 1) := by decide +kernel
theorem d_K_badBlocks_1 : decode b_K_badBlocks 1 = .ok (.istore_n 1, 1) := by decide +kernel
theorem d_K_badBlocks_2 : decode b_K_badBlocks 2 = .ok (.iconst 0, 1) := by decide +kernel
theorem d_K_badBlocks_3 : decode b_K_badBlocks 3 = .ok (.istore_n 2, 1) := by decide +kernel
theorem d_K_badBlocks_4 : decode b_K_badBlocks 4 = .ok (.iload_n 2, 1) := by decide +kernel
theorem d_K_badBlocks_5 : decode b_K_badBlocks 5 = .ok (.aload_n 0, 1) := by decide +kernel
theorem d_K_badBlocks_6 : decode b_K_badBlocks 6 = .ok (.getfield 56, 3) := by decide +kernel
theorem d_K_badBlocks_9 : decode b_K_badBlocks 9 = .ok (.invokevirtual 93, 3) := by decide +kernel
theorem d_K_badBlocks_12 : decode b_K_badBlocks 12 = .ok (.if_icmp .ge 29, 3) := by decide +kernel
theorem d_K_badBlocks_15 : decode b_K_badBlocks 15 = .ok (.aload_n 0, 1) := by decide +kernel
theorem d_K_badBlocks_16 : decode b_K_badBlocks 16 = .ok (.getfield 56, 3) := by decide +kernel
theorem d_K_badBlocks_19 : decode b_K_badBlocks 19 = .ok (.iload_n 2, 1) := by decide +kernel
theorem d_K_badBlocks_20 : decode b_K_badBlocks 20 = .ok (.invokevirtual 232, 3) := by decide +kernel
theorem d_K_badBlocks_23 : decode b_K_badBlocks 23 = .ok (.checkcast 66, 3) := by decide +kernel
theorem d_K_badBlocks_26 : decode b_K_badBlocks 26 = .ok (.getfield 213, 3) := by decide +kernel
theorem d_K_badBlocks_29 : decode b_K_badBlocks 29 = .ok (.ifCond .eq 6, 3) := by decide +kernel
theorem d_K_badBlocks_32 : decode b_K_badBlocks 32 = .ok (.iinc 1 1, 3) := by decide +kernel
theorem d_K_badBlocks_35 : decode b_K_badBlocks 35 = .ok (.iinc 2 1, 3) := by decide +kernel
theorem d_K_badBlocks_38 : decode b_K_badBlocks 38 = .ok (.goto (-34), 3) := by decide +kernel
theorem d_K_badBlocks_41 : decode b_K_badBlocks 41 = .ok (.iload_n 1, 1) := by decide +kernel
theorem d_K_badBlocks_42 : decode b_K_badBlocks 42 = .ok (.ireturn, 1) := by decide +kernel
abbrev rm_K_badBlocks : Room := { frames := 3, cells := 0, slots := 0, locals := 64 }
abbrev q_K_badBlocks (D : va_G) (cy : Nat → ClassId) (A : Nat → Prop) (o : Nat) (v_a_row : Value) (v_a_id : Value) (v_o_sha : Value) (r_signatures : Value) (v_o_machine : Value) (v_o_layout : Value) (v_o_ledger : Value) (r_spent : Value) (o_blocks : Nat) (a_blocks_el : Nat) (o_tip : Nat) (r_tip_raw : Value) (v_a_tip_id : Value) (r_tip_ids : Value) (i_rowLength : Int32) (i_takenBytes : Int32) (i_checkedTxs : Int32) (i_blocks_size : Int32) (i_blocks_modCount : Int32) (i_tip_height : Int32) (j_tip_time : Int64) (i_tip_bits : Int32) (j_tip_work : Int64) (i_tip_bad : Int32) (i_tip_valid : Int32) (i_tip_mark : Int32) (res : Int32) : Array Value → State → Outcome → State → Prop := va_Qi (fun r' (_ : Unit) => r' = res) (fun _ t => Po D cy A [(o, .inr (0, [v_a_row, .int i_rowLength, v_a_id, v_o_sha, r_signatures, v_o_machine, v_o_layout, v_o_ledger, .ref o_blocks, r_spent, .ref o_tip, .int i_takenBytes, .int i_checkedTxs])), (o_blocks, .inr (11, [.ref a_blocks_el, .int i_blocks_size, .int i_blocks_modCount])), (a_blocks_el, .inl (cy 7, 10, .inr (.inr (.inr (.inr (va_up (fun _ => none) 0 (some o_tip))))))), (o_tip, .inr (1, [.null, r_tip_raw, v_a_tip_id, r_tip_ids, .int i_tip_height, .long j_tip_time, .int i_tip_bits, .long j_tip_work, .null, .int i_tip_bad, .int i_tip_valid, .int i_tip_mark]))] t) A
def I_K_badBlocks_35 (p : Program) (l : Launch) (e : Env) (s : State) (m : MethodId) (args : Array Value) (below : List Frame) (meth : Method) (c : Code) (D : va_G) (cy : Nat → ClassId) (A : Nat → Prop) (ad : Nat → Nat) (o : Nat) (v_a_row : Value) (v_a_id : Value) (v_o_sha : Value) (r_signatures : Value) (v_o_machine : Value) (v_o_layout : Value) (v_o_ledger : Value) (r_spent : Value) (o_blocks : Nat) (a_blocks_el : Nat) (o_tip : Nat) (r_tip_raw : Value) (v_a_tip_id : Value) (r_tip_ids : Value) (i_rowLength : Int32) (i_takenBytes : Int32) (i_checkedTxs : Int32) (i_blocks_size : Int32) (i_blocks_modCount : Int32) (i_tip_height : Int32) (j_tip_time : Int64) (i_tip_bits : Int32) (j_tip_work : Int64) (i_tip_bad : Int32) (i_tip_valid : Int32) (i_tip_mark : Int32) (k : Int32 → Int32 → Option (Int32)) : Prop :=
  ∀ (x1 : Int32) (x2 : Int32) (res : Int32), k x1 x2 = some res → ∀ (H : Heap) (locs : List Loc) (ls : Array Slot), va_P D classes [(o, .inr (0, [v_a_row, .int i_rowLength, v_a_id, v_o_sha, r_signatures, v_o_machine, v_o_layout, v_o_ledger, .ref o_blocks, r_spent, .ref o_tip, .int i_takenBytes, .int i_checkedTxs])), (o_blocks, .inr (11, [.ref a_blocks_el, .int i_blocks_size, .int i_blocks_modCount])), (a_blocks_el, .inl (cy 7, 10, .inr (.inr (.inr (.inr (va_up (fun _ => none) 0 (some o_tip))))))), (o_tip, .inr (1, [.null, r_tip_raw, v_a_tip_id, r_tip_ids, .int i_tip_height, .long j_tip_time, .int i_tip_bits, .long j_tip_work, .null, .int i_tip_bad, .int i_tip_valid, .int i_tip_mark]))] H → va_D A [(o, .inr (0, [v_a_row, .int i_rowLength, v_a_id, v_o_sha, r_signatures, v_o_machine, v_o_layout, v_o_ledger, .ref o_blocks, r_spent, .ref o_tip, .int i_takenBytes, .int i_checkedTxs])), (o_blocks, .inr (11, [.ref a_blocks_el, .int i_blocks_size, .int i_blocks_modCount])), (a_blocks_el, .inl (cy 7, 10, .inr (.inr (.inr (.inr (va_up (fun _ => none) 0 (some o_tip))))))), (o_tip, .inr (1, [.null, r_tip_raw, v_a_tip_id, r_tip_ids, .int i_tip_height, .long j_tip_time, .int i_tip_bits, .long j_tip_work, .null, .int i_tip_bad, .int i_tip_valid, .int i_tip_mark]))] → va_S A s.heap H locs → lv_has ls 3 [(0, .ref o), (1, .int x1), (2, .int x2)] → W p l e rm_K_badBlocks s m args below meth c H locs 0 0 (MQ below (q_K_badBlocks D cy A o v_a_row v_a_id v_o_sha r_signatures v_o_machine v_o_layout v_o_ledger r_spent o_blocks a_blocks_el o_tip r_tip_raw v_a_tip_id r_tip_ids i_rowLength i_takenBytes i_checkedTxs i_blocks_size i_blocks_modCount i_tip_height j_tip_time i_tip_bits j_tip_work i_tip_bad i_tip_valid i_tip_mark res) args s 0 0 A) (F0 m 35 ls [])
def I_K_badBlocks_4 (p : Program) (l : Launch) (e : Env) (s : State) (m : MethodId) (args : Array Value) (below : List Frame) (meth : Method) (c : Code) (D : va_G) (cy : Nat → ClassId) (A : Nat → Prop) (ad : Nat → Nat) (o : Nat) (v_a_row : Value) (v_a_id : Value) (v_o_sha : Value) (r_signatures : Value) (v_o_machine : Value) (v_o_layout : Value) (v_o_ledger : Value) (r_spent : Value) (o_blocks : Nat) (a_blocks_el : Nat) (o_tip : Nat) (r_tip_raw : Value) (v_a_tip_id : Value) (r_tip_ids : Value) (i_rowLength : Int32) (i_takenBytes : Int32) (i_checkedTxs : Int32) (i_blocks_size : Int32) (i_blocks_modCount : Int32) (i_tip_height : Int32) (j_tip_time : Int64) (i_tip_bits : Int32) (j_tip_work : Int64) (i_tip_bad : Int32) (i_tip_valid : Int32) (i_tip_mark : Int32) (k : Int32 → Int32 → Option (Int32)) : Prop :=
  ∀ (x1 : Int32) (x2 : Int32) (res : Int32), k x1 x2 = some res → ∀ (H : Heap) (locs : List Loc) (ls : Array Slot), va_P D classes [(o, .inr (0, [v_a_row, .int i_rowLength, v_a_id, v_o_sha, r_signatures, v_o_machine, v_o_layout, v_o_ledger, .ref o_blocks, r_spent, .ref o_tip, .int i_takenBytes, .int i_checkedTxs])), (o_blocks, .inr (11, [.ref a_blocks_el, .int i_blocks_size, .int i_blocks_modCount])), (a_blocks_el, .inl (cy 7, 10, .inr (.inr (.inr (.inr (va_up (fun _ => none) 0 (some o_tip))))))), (o_tip, .inr (1, [.null, r_tip_raw, v_a_tip_id, r_tip_ids, .int i_tip_height, .long j_tip_time, .int i_tip_bits, .long j_tip_work, .null, .int i_tip_bad, .int i_tip_valid, .int i_tip_mark]))] H → va_D A [(o, .inr (0, [v_a_row, .int i_rowLength, v_a_id, v_o_sha, r_signatures, v_o_machine, v_o_layout, v_o_ledger, .ref o_blocks, r_spent, .ref o_tip, .int i_takenBytes, .int i_checkedTxs])), (o_blocks, .inr (11, [.ref a_blocks_el, .int i_blocks_size, .int i_blocks_modCount])), (a_blocks_el, .inl (cy 7, 10, .inr (.inr (.inr (.inr (va_up (fun _ => none) 0 (some o_tip))))))), (o_tip, .inr (1, [.null, r_tip_raw, v_a_tip_id, r_tip_ids, .int i_tip_height, .long j_tip_time, .int i_tip_bits, .long j_tip_work, .null, .int i_tip_bad, .int i_tip_valid, .int i_tip_mark]))] → va_S A s.heap H locs → lv_has ls 3 [(0, .ref o), (1, .int x1), (2, .int x2)] → W p l e rm_K_badBlocks s m args below meth c H locs 0 0 (MQ below (q_K_badBlocks D cy A o v_a_row v_a_id v_o_sha r_signatures v_o_machine v_o_layout v_o_ledger r_spent o_blocks a_blocks_el o_tip r_tip_raw v_a_tip_id r_tip_ids i_rowLength i_takenBytes i_checkedTxs i_blocks_size i_blocks_modCount i_tip_height j_tip_time i_tip_bits j_tip_work i_tip_bad i_tip_valid i_tip_mark res) args s 0 0 A) (F0 m 4 ls [])
def I_K_badBlocks_e (p : Program) (l : Launch) (e : Env) (s : State) (m : MethodId) (args : Array Value) (below : List Frame) (meth : Method) (c : Code) (D : va_G) (cy : Nat → ClassId) (A : Nat → Prop) (ad : Nat → Nat) (o : Nat) (v_a_row : Value) (v_a_id : Value) (v_o_sha : Value) (r_signatures : Value) (v_o_machine : Value) (v_o_layout : Value) (v_o_ledger : Value) (r_spent : Value) (o_blocks : Nat) (a_blocks_el : Nat) (o_tip : Nat) (r_tip_raw : Value) (v_a_tip_id : Value) (r_tip_ids : Value) (i_rowLength : Int32) (i_takenBytes : Int32) (i_checkedTxs : Int32) (i_blocks_size : Int32) (i_blocks_modCount : Int32) (i_tip_height : Int32) (j_tip_time : Int64) (i_tip_bits : Int32) (j_tip_work : Int64) (i_tip_bad : Int32) (i_tip_valid : Int32) (i_tip_mark : Int32) (k : Option (Int32)) : Prop :=
  ∀ (res : Int32), k  = some res → ∀ (H : Heap) (locs : List Loc) (ls : Array Slot), va_P D classes [(o, .inr (0, [v_a_row, .int i_rowLength, v_a_id, v_o_sha, r_signatures, v_o_machine, v_o_layout, v_o_ledger, .ref o_blocks, r_spent, .ref o_tip, .int i_takenBytes, .int i_checkedTxs])), (o_blocks, .inr (11, [.ref a_blocks_el, .int i_blocks_size, .int i_blocks_modCount])), (a_blocks_el, .inl (cy 7, 10, .inr (.inr (.inr (.inr (va_up (fun _ => none) 0 (some o_tip))))))), (o_tip, .inr (1, [.null, r_tip_raw, v_a_tip_id, r_tip_ids, .int i_tip_height, .long j_tip_time, .int i_tip_bits, .long j_tip_work, .null, .int i_tip_bad, .int i_tip_valid, .int i_tip_mark]))] H → va_D A [(o, .inr (0, [v_a_row, .int i_rowLength, v_a_id, v_o_sha, r_signatures, v_o_machine, v_o_layout, v_o_ledger, .ref o_blocks, r_spent, .ref o_tip, .int i_takenBytes, .int i_checkedTxs])), (o_blocks, .inr (11, [.ref a_blocks_el, .int i_blocks_size, .int i_blocks_modCount])), (a_blocks_el, .inl (cy 7, 10, .inr (.inr (.inr (.inr (va_up (fun _ => none) 0 (some o_tip))))))), (o_tip, .inr (1, [.null, r_tip_raw, v_a_tip_id, r_tip_ids, .int i_tip_height, .long j_tip_time, .int i_tip_bits, .long j_tip_work, .null, .int i_tip_bad, .int i_tip_valid, .int i_tip_mark]))] → va_S A s.heap H locs → lv_has ls 3 [(0, .ref o)] → W p l e rm_K_badBlocks s m args below meth c H locs 0 0 (MQ below (q_K_badBlocks D cy A o v_a_row v_a_id v_o_sha r_signatures v_o_machine v_o_layout v_o_ledger r_spent o_blocks a_blocks_el o_tip r_tip_raw v_a_tip_id r_tip_ids i_rowLength i_takenBytes i_checkedTxs i_blocks_size i_blocks_modCount i_tip_height j_tip_time i_tip_bits j_tip_work i_tip_bad i_tip_valid i_tip_mark res) args s 0 0 A) (F0 m 0 ls [])
def xb_K_badBlocks_35 (fu : Nat) (i_rowLength : Int32) (i_takenBytes : Int32) (i_checkedTxs : Int32) (i_blocks_size : Int32) (i_blocks_modCount : Int32) (i_tip_height : Int32) (j_tip_time : Int64) (i_tip_bits : Int32) (j_tip_work : Int64) (i_tip_bad : Int32) (i_tip_valid : Int32) (i_tip_mark : Int32) (k_4 : Int32 → Int32 → Option (Int32)) (x1 : Int32) (x2 : Int32) : Option (Int32) :=
  bnd (x2 + (1 : Int32)) fun v1 => k_4 x1 v1
set_option maxHeartbeats 8000000 in
set_option maxRecDepth 100000 in
theorem wb_K_badBlocks_35 {p : Program} {l : Launch} {e : Env} {s : State} {m : MethodId} {args : Array Value} {below : List Frame} {meth : Method} {c : Code} {D : va_G} {cy : Nat → ClassId} {A : Nat → Prop} {ad : Nat → Nat} {o : Nat} {v_a_row : Value} {v_a_id : Value} {v_o_sha : Value} {r_signatures : Value} {v_o_machine : Value} {v_o_layout : Value} {v_o_ledger : Value} {r_spent : Value} {o_blocks : Nat} {a_blocks_el : Nat} {o_tip : Nat} {r_tip_raw : Value} {v_a_tip_id : Value} {r_tip_ids : Value} {i_rowLength : Int32} {i_takenBytes : Int32} {i_checkedTxs : Int32} {i_blocks_size : Int32} {i_blocks_modCount : Int32} {i_tip_height : Int32} {j_tip_time : Int64} {i_tip_bits : Int32} {j_tip_work : Int64} {i_tip_bad : Int32} {i_tip_valid : Int32} {i_tip_mark : Int32} {fu : Nat} {k_4 : Int32 → Int32 → Option (Int32)} (F : Fx p s m args meth c b_K_badBlocks 3 "CoinKeeper" "badBlocks" (some .int) D cy ad A) (hk_4 : I_K_badBlocks_4 p l e s m args below meth c D cy A ad o v_a_row v_a_id v_o_sha r_signatures v_o_machine v_o_layout v_o_ledger r_spent o_blocks a_blocks_el o_tip r_tip_raw v_a_tip_id r_tip_ids i_rowLength i_takenBytes i_checkedTxs i_blocks_size i_blocks_modCount i_tip_height j_tip_time i_tip_bits j_tip_work i_tip_bad i_tip_valid i_tip_mark k_4) : I_K_badBlocks_35 p l e s m args below meth c D cy A ad o v_a_row v_a_id v_o_sha r_signatures v_o_machine v_o_layout v_o_ledger r_spent o_blocks a_blocks_el o_tip r_tip_raw v_a_tip_id r_tip_ids i_rowLength i_takenBytes i_checkedTxs i_blocks_size i_blocks_modCount i_tip_height j_tip_time i_tip_bits j_tip_work i_tip_bad i_tip_valid i_tip_mark (xb_K_badBlocks_35 fu i_rowLength i_takenBytes i_checkedTxs i_blocks_size i_blocks_modCount i_tip_height j_tip_time i_tip_bits j_tip_work i_tip_bad i_tip_valid i_tip_mark k_4) := by
  obtain ⟨hx, hb, hr, hml, hown, hts, hlocks, hK, hA, hSt, hnm, hex⟩ := id F
  intro x1 x2 res hf H locs ls hP hD hS hl
  unfold xb_K_badBlocks_35 at hf
  obtain ⟨v1, ev, hf⟩ := bne hf
  refine lv_iinc (v := v1) (lv' := [(2, .int v1), (0, .ref o), (1, .int x1)]) hx hb d_K_badBlocks_35 hl (k := 2) rfl (by rw [ev]; rfl) (by decide) rfl (fun ls hl => ?_)
  clear ev
  refine lv_goto (tgt := 4) hx hb d_K_badBlocks_38 (by decide) ?_
  exact hk_4 _ _ _ hf _ _ _ hP hD hS (lv_sub hl [1, 2, 0] rfl)
def xb_K_badBlocks_4 (fu : Nat) (i_rowLength : Int32) (i_takenBytes : Int32) (i_checkedTxs : Int32) (i_blocks_size : Int32) (i_blocks_modCount : Int32) (i_tip_height : Int32) (j_tip_time : Int64) (i_tip_bits : Int32) (j_tip_work : Int64) (i_tip_bad : Int32) (i_tip_valid : Int32) (i_tip_mark : Int32) (k_4 : Int32 → Int32 → Option (Int32)) (x1 : Int32) (x2 : Int32) : Option (Int32) :=
  bd1 (x_Al_size_y0R fu i_blocks_size i_blocks_modCount) fun v1 => if v1 ≤ x2 then (some (x1)) else (bd1 (x_Al_get_y0R fu i_blocks_size i_blocks_modCount x2) fun _ => if i_tip_bad = 0 then (xb_K_badBlocks_35 fu i_rowLength i_takenBytes i_checkedTxs i_blocks_size i_blocks_modCount i_tip_height j_tip_time i_tip_bits j_tip_work i_tip_bad i_tip_valid i_tip_mark k_4 x1 x2) else (bnd (x1 + (1 : Int32)) fun v2 => xb_K_badBlocks_35 fu i_rowLength i_takenBytes i_checkedTxs i_blocks_size i_blocks_modCount i_tip_height j_tip_time i_tip_bits j_tip_work i_tip_bad i_tip_valid i_tip_mark k_4 v2 x2))
set_option maxHeartbeats 8000000 in
set_option maxRecDepth 100000 in
theorem wb_K_badBlocks_4 {p : Program} {l : Launch} {e : Env} {s : State} {m : MethodId} {args : Array Value} {below : List Frame} {meth : Method} {c : Code} {D : va_G} {cy : Nat → ClassId} {A : Nat → Prop} {ad : Nat → Nat} {o : Nat} {v_a_row : Value} {v_a_id : Value} {v_o_sha : Value} {r_signatures : Value} {v_o_machine : Value} {v_o_layout : Value} {v_o_ledger : Value} {r_spent : Value} {o_blocks : Nat} {a_blocks_el : Nat} {o_tip : Nat} {r_tip_raw : Value} {v_a_tip_id : Value} {r_tip_ids : Value} {i_rowLength : Int32} {i_takenBytes : Int32} {i_checkedTxs : Int32} {i_blocks_size : Int32} {i_blocks_modCount : Int32} {i_tip_height : Int32} {j_tip_time : Int64} {i_tip_bits : Int32} {j_tip_work : Int64} {i_tip_bad : Int32} {i_tip_valid : Int32} {i_tip_mark : Int32} {fu : Nat} {k_4 : Int32 → Int32 → Option (Int32)} (F : Fx p s m args meth c b_K_badBlocks 3 "CoinKeeper" "badBlocks" (some .int) D cy ad A) (hk_4 : I_K_badBlocks_4 p l e s m args below meth c D cy A ad o v_a_row v_a_id v_o_sha r_signatures v_o_machine v_o_layout v_o_ledger r_spent o_blocks a_blocks_el o_tip r_tip_raw v_a_tip_id r_tip_ids i_rowLength i_takenBytes i_checkedTxs i_blocks_size i_blocks_modCount i_tip_height j_tip_time i_tip_bits j_tip_work i_tip_bad i_tip_valid i_tip_mark k_4) : I_K_badBlocks_4 p l e s m args below meth c D cy A ad o v_a_row v_a_id v_o_sha r_signatures v_o_machine v_o_layout v_o_ledger r_spent o_blocks a_blocks_el o_tip r_tip_raw v_a_tip_id r_tip_ids i_rowLength i_takenBytes i_checkedTxs i_blocks_size i_blocks_modCount i_tip_height j_tip_time i_tip_bits j_tip_work i_tip_bad i_tip_valid i_tip_mark (xb_K_badBlocks_4 fu i_rowLength i_takenBytes i_checkedTxs i_blocks_size i_blocks_modCount i_tip_height j_tip_time i_tip_bits j_tip_work i_tip_bad i_tip_valid i_tip_mark k_4) := by
  obtain ⟨hx, hb, hr, hml, hown, hts, hlocks, hK, hA, hSt, hnm, hex⟩ := id F
  intro x1 x2 res hf H locs ls hP hD hS hl
  unfold xb_K_badBlocks_4 at hf
  refine lv_iload_n hx hb d_K_badBlocks_4 rfl (lv_at hl 2 rfl) ?_
  refine lv_aload_n hx hb d_K_badBlocks_5 rfl (lv_at hl 0 rfl) ?_
  refine va_get (D := D) (ci := 0) (v := .ref o_blocks) (C := "CoinKeeper") (T := F_0) (N := 13) hx hb hts i_0 hown hK hP 0 rfl rfl 8 (by decide) (hts _ gw_508) (fun _ h9 => h9) rfl d_K_badBlocks_6 ?_
  obtain ⟨v1, hc, hf⟩ := bdp1 hf
  refine q_ai (wr := [(o, .inr (0, [v_a_row, .int i_rowLength, v_a_id, v_o_sha, r_signatures, v_o_machine, v_o_layout, v_o_ledger, .ref o_blocks, r_spent, .ref o_tip, .int i_takenBytes, .int i_checkedTxs])), (a_blocks_el, .inl (cy 7, 10, .inr (.inr (.inr (.inr (va_up (fun _ => none) 0 (some o_tip))))))), (o_tip, .inr (1, [.null, r_tip_raw, v_a_tip_id, r_tip_ids, .int i_tip_height, .long j_tip_time, .int i_tip_bits, .long j_tip_work, .null, .int i_tip_bad, .int i_tip_valid, .int i_tip_mark]))]) (va_runV (C := "java/util/ArrayList") (As := []) (rest := [.int x2]) ⟨hx, hb, hml, hown, hts⟩ (c_Al_size_y0R l D cy ad fu o_blocks (.ref a_blocks_el) i_blocks_size i_blocks_modCount _ hc H.size) ⟨q_cB hts gw_551 gw_12 gw_673 hdf_53 ⟨by decide, by decide⟩, hts _ gw_549, hts _ gw_550⟩ (q_preV (q_pre (hP.sub [1] rfl) (hD.sub [1] (by decide) rfl) hK hSt hS (va_free hD hS hA [1] rfl) _) (va_recv hK (hP.sub [1] rfl) (ci := 11) (q0 := 0) rfl rfl)) rfl rfl hl.1 rfl (lv_room (Nat.le_of_ble_eq_true rfl)) d_K_badBlocks_9 ⟨Nat.le_of_ble_eq_true rfl, Nat.le_of_ble_eq_true rfl⟩) hP hD hS hA [1] [0, 2, 3] rfl rfl (by decide) (by decide) (fun H locs hP hD hS => ?_)
  clear hc
  have hP : va_P D classes [(o, .inr (0, [v_a_row, .int i_rowLength, v_a_id, v_o_sha, r_signatures, v_o_machine, v_o_layout, v_o_ledger, .ref o_blocks, r_spent, .ref o_tip, .int i_takenBytes, .int i_checkedTxs])), (a_blocks_el, .inl (cy 7, 10, .inr (.inr (.inr (.inr (va_up (fun _ => none) 0 (some o_tip))))))), (o_tip, .inr (1, [.null, r_tip_raw, v_a_tip_id, r_tip_ids, .int i_tip_height, .long j_tip_time, .int i_tip_bits, .long j_tip_work, .null, .int i_tip_bad, .int i_tip_valid, .int i_tip_mark])), (o_blocks, .inr (11, [.ref a_blocks_el, .int i_blocks_size, .int i_blocks_modCount]))] H := hP
  have hD : va_D A [(o, .inr (0, [v_a_row, .int i_rowLength, v_a_id, v_o_sha, r_signatures, v_o_machine, v_o_layout, v_o_ledger, .ref o_blocks, r_spent, .ref o_tip, .int i_takenBytes, .int i_checkedTxs])), (a_blocks_el, .inl (cy 7, 10, .inr (.inr (.inr (.inr (va_up (fun _ => none) 0 (some o_tip))))))), (o_tip, .inr (1, [.null, r_tip_raw, v_a_tip_id, r_tip_ids, .int i_tip_height, .long j_tip_time, .int i_tip_bits, .long j_tip_work, .null, .int i_tip_bad, .int i_tip_valid, .int i_tip_mark])), (o_blocks, .inr (11, [.ref a_blocks_el, .int i_blocks_size, .int i_blocks_modCount]))] := hD
  refine lv_icmp_ge (tgt := 41) hx hb d_K_badBlocks_12 (by decide) (fun cx => ?_) (fun cx => ?_)
  · have hf := ifp cx hf
    refine lv_iload_n hx hb d_K_badBlocks_41 rfl (lv_at hl 1 rfl) ?_
    obtain rfl := Option.some.inj hf
    exact q_ri hx hb hr hlocks hK (hP.sub [0, 3, 1, 2] rfl) (hD.sub [0, 3, 1, 2] (by decide) rfl) hS d_K_badBlocks_42
  · have hf := ifn cx hf
    refine lv_aload_n hx hb d_K_badBlocks_15 rfl (lv_at hl 0 rfl) ?_
    refine va_get (D := D) (ci := 0) (v := .ref o_blocks) (C := "CoinKeeper") (T := F_0) (N := 13) hx hb hts i_0 hown hK hP 0 rfl rfl 8 (by decide) (hts _ gw_508) (fun _ h9 => h9) rfl d_K_badBlocks_16 ?_
    refine lv_iload_n hx hb d_K_badBlocks_19 rfl (lv_at hl 2 rfl) ?_
    obtain ⟨⟨⟩, hc, hf⟩ := bdp1 hf
    refine q_aqS (wr := [(o, .inr (0, [v_a_row, .int i_rowLength, v_a_id, v_o_sha, r_signatures, v_o_machine, v_o_layout, v_o_ledger, .ref o_blocks, r_spent, .ref o_tip, .int i_takenBytes, .int i_checkedTxs])), (o_tip, .inr (1, [.null, r_tip_raw, v_a_tip_id, r_tip_ids, .int i_tip_height, .long j_tip_time, .int i_tip_bits, .long j_tip_work, .null, .int i_tip_bad, .int i_tip_valid, .int i_tip_mark]))]) (va_runV (C := "java/util/ArrayList") (As := [.int x2]) (rest := []) ⟨hx, hb, hml, hown, hts⟩ (c_Al_get_y0R l D cy ad fu o_blocks a_blocks_el o_tip i_blocks_size i_blocks_modCount x2 _ hc H.size) ⟨q_cB hts gw_555 gw_12 gw_743 hdf_66 ⟨by decide, by decide⟩, hts _ gw_553, hts _ gw_554⟩ (q_preV (q_pre (hP.sub [3, 1] rfl) (hD.sub [3, 1] (by decide) rfl) hK hSt hS (va_free hD hS hA [3, 1] rfl) _) (va_recv hK (hP.sub [3, 1] rfl) (ci := 11) (q0 := 0) rfl rfl)) rfl rfl hl.1 rfl (lv_room (Nat.le_of_ble_eq_true rfl)) d_K_badBlocks_20 ⟨Nat.le_of_ble_eq_true rfl, Nat.le_of_ble_eq_true rfl⟩) hP hD hS hA [3, 1] [0, 2] rfl rfl (by decide) (by decide) (fun _ H locs hP hD hS => ?_)
    clear hc
    have hP : va_P D classes [(o, .inr (0, [v_a_row, .int i_rowLength, v_a_id, v_o_sha, r_signatures, v_o_machine, v_o_layout, v_o_ledger, .ref o_blocks, r_spent, .ref o_tip, .int i_takenBytes, .int i_checkedTxs])), (o_tip, .inr (1, [.null, r_tip_raw, v_a_tip_id, r_tip_ids, .int i_tip_height, .long j_tip_time, .int i_tip_bits, .long j_tip_work, .null, .int i_tip_bad, .int i_tip_valid, .int i_tip_mark])), (o_blocks, .inr (11, [.ref a_blocks_el, .int i_blocks_size, .int i_blocks_modCount])), (a_blocks_el, .inl (cy 7, 10, .inr (.inr (.inr (.inr (va_up (fun _ => none) 0 (some o_tip)))))))] H := hP
    have hD : va_D A [(o, .inr (0, [v_a_row, .int i_rowLength, v_a_id, v_o_sha, r_signatures, v_o_machine, v_o_layout, v_o_ledger, .ref o_blocks, r_spent, .ref o_tip, .int i_takenBytes, .int i_checkedTxs])), (o_tip, .inr (1, [.null, r_tip_raw, v_a_tip_id, r_tip_ids, .int i_tip_height, .long j_tip_time, .int i_tip_bits, .long j_tip_work, .null, .int i_tip_bad, .int i_tip_valid, .int i_tip_mark])), (o_blocks, .inr (11, [.ref a_blocks_el, .int i_blocks_size, .int i_blocks_modCount])), (a_blocks_el, .inl (cy 7, 10, .inr (.inr (.inr (.inr (va_up (fun _ => none) 0 (some o_tip)))))))] := hD
    refine W.eq (g2 := F0 m 23 ls [.ref o_tip]) rfl ?_
    refine va_castY (C := "CoinKeeper$Block") hx hb hown (hts _ gw_374) (hSt.2.1 _ (List.mem_of_getElem? (i := 24) rfl)) (va_recv hK hP (ci := 1) (q0 := 1) rfl rfl) d_K_badBlocks_23 ?_
    refine va_get (D := D) (ci := 1) (v := .int i_tip_bad) (C := "CoinKeeper$Block") (T := F_1) (N := 12) hx hb hts i_1 hown hK hP 1 rfl rfl 9 (by decide) (hts _ gw_409) (fun _ h9 => h9) rfl d_K_badBlocks_26 ?_
    refine lv_if_eq (tgt := 35) hx hb d_K_badBlocks_29 (by decide) (fun cx => ?_) (fun cx => ?_)
    · have hf := ifp cx hf
      exact wb_K_badBlocks_35 (fu := fu) F hk_4 _ _ _ hf _ _ _ (hP.sub (ws' := [(o, .inr (0, [v_a_row, .int i_rowLength, v_a_id, v_o_sha, r_signatures, v_o_machine, v_o_layout, v_o_ledger, .ref o_blocks, r_spent, .ref o_tip, .int i_takenBytes, .int i_checkedTxs])), (o_blocks, .inr (11, [.ref a_blocks_el, .int i_blocks_size, .int i_blocks_modCount])), (a_blocks_el, .inl (cy 7, 10, .inr (.inr (.inr (.inr (va_up (fun _ => none) 0 (some o_tip))))))), (o_tip, .inr (1, [.null, r_tip_raw, v_a_tip_id, r_tip_ids, .int i_tip_height, .long j_tip_time, .int i_tip_bits, .long j_tip_work, .null, .int i_tip_bad, .int i_tip_valid, .int i_tip_mark]))]) [0, 2, 3, 1] rfl) (hD.sub (ws' := [(o, .inr (0, [v_a_row, .int i_rowLength, v_a_id, v_o_sha, r_signatures, v_o_machine, v_o_layout, v_o_ledger, .ref o_blocks, r_spent, .ref o_tip, .int i_takenBytes, .int i_checkedTxs])), (o_blocks, .inr (11, [.ref a_blocks_el, .int i_blocks_size, .int i_blocks_modCount])), (a_blocks_el, .inl (cy 7, 10, .inr (.inr (.inr (.inr (va_up (fun _ => none) 0 (some o_tip))))))), (o_tip, .inr (1, [.null, r_tip_raw, v_a_tip_id, r_tip_ids, .int i_tip_height, .long j_tip_time, .int i_tip_bits, .long j_tip_work, .null, .int i_tip_bad, .int i_tip_valid, .int i_tip_mark]))]) [0, 2, 3, 1] (by decide) rfl) hS (lv_sub hl [0, 1, 2] rfl)
    · have hf := ifn cx hf
      obtain ⟨v2, ev, hf⟩ := bne hf
      refine lv_iinc (v := v2) (lv' := [(1, .int v2), (0, .ref o), (2, .int x2)]) hx hb d_K_badBlocks_32 hl (k := 1) rfl (by rw [ev]; rfl) (by decide) rfl (fun ls hl => ?_)
      clear ev
      exact wb_K_badBlocks_35 (fu := fu) F hk_4 _ _ _ hf _ _ _ (hP.sub (ws' := [(o, .inr (0, [v_a_row, .int i_rowLength, v_a_id, v_o_sha, r_signatures, v_o_machine, v_o_layout, v_o_ledger, .ref o_blocks, r_spent, .ref o_tip, .int i_takenBytes, .int i_checkedTxs])), (o_blocks, .inr (11, [.ref a_blocks_el, .int i_blocks_size, .int i_blocks_modCount])), (a_blocks_el, .inl (cy 7, 10, .inr (.inr (.inr (.inr (va_up (fun _ => none) 0 (some o_tip))))))), (o_tip, .inr (1, [.null, r_tip_raw, v_a_tip_id, r_tip_ids, .int i_tip_height, .long j_tip_time, .int i_tip_bits, .long j_tip_work, .null, .int i_tip_bad, .int i_tip_valid, .int i_tip_mark]))]) [0, 2, 3, 1] rfl) (hD.sub (ws' := [(o, .inr (0, [v_a_row, .int i_rowLength, v_a_id, v_o_sha, r_signatures, v_o_machine, v_o_layout, v_o_ledger, .ref o_blocks, r_spent, .ref o_tip, .int i_takenBytes, .int i_checkedTxs])), (o_blocks, .inr (11, [.ref a_blocks_el, .int i_blocks_size, .int i_blocks_modCount])), (a_blocks_el, .inl (cy 7, 10, .inr (.inr (.inr (.inr (va_up (fun _ => none) 0 (some o_tip))))))), (o_tip, .inr (1, [.null, r_tip_raw, v_a_tip_id, r_tip_ids, .int i_tip_height, .long j_tip_time, .int i_tip_bits, .long j_tip_work, .null, .int i_tip_bad, .int i_tip_valid, .int i_tip_mark]))]) [0, 2, 3, 1] (by decide) rfl) hS (lv_sub hl [1, 0, 2] rfl)
def x_K_badBlocks_4 (fu : Nat) (i_rowLength : Int32) (i_takenBytes : Int32) (i_checkedTxs : Int32) (i_blocks_size : Int32) (i_blocks_modCount : Int32) (i_tip_height : Int32) (j_tip_time : Int64) (i_tip_bits : Int32) (j_tip_work : Int64) (i_tip_bad : Int32) (i_tip_valid : Int32) (i_tip_mark : Int32) : Nat → Int32 → Int32 → Option (Int32)
  | 0 => fun _ _ => none
  | n + 1 => xb_K_badBlocks_4 fu i_rowLength i_takenBytes i_checkedTxs i_blocks_size i_blocks_modCount i_tip_height j_tip_time i_tip_bits j_tip_work i_tip_bad i_tip_valid i_tip_mark (x_K_badBlocks_4 fu i_rowLength i_takenBytes i_checkedTxs i_blocks_size i_blocks_modCount i_tip_height j_tip_time i_tip_bits j_tip_work i_tip_bad i_tip_valid i_tip_mark n)
theorem w_K_badBlocks_4 {p : Program} {l : Launch} {e : Env} {s : State} {m : MethodId} {args : Array Value} {below : List Frame} {meth : Method} {c : Code} {D : va_G} {cy : Nat → ClassId} {A : Nat → Prop} {ad : Nat → Nat} {o : Nat} {v_a_row : Value} {v_a_id : Value} {v_o_sha : Value} {r_signatures : Value} {v_o_machine : Value} {v_o_layout : Value} {v_o_ledger : Value} {r_spent : Value} {o_blocks : Nat} {a_blocks_el : Nat} {o_tip : Nat} {r_tip_raw : Value} {v_a_tip_id : Value} {r_tip_ids : Value} {i_rowLength : Int32} {i_takenBytes : Int32} {i_checkedTxs : Int32} {i_blocks_size : Int32} {i_blocks_modCount : Int32} {i_tip_height : Int32} {j_tip_time : Int64} {i_tip_bits : Int32} {j_tip_work : Int64} {i_tip_bad : Int32} {i_tip_valid : Int32} {i_tip_mark : Int32} {fu : Nat} (F : Fx p s m args meth c b_K_badBlocks 3 "CoinKeeper" "badBlocks" (some .int) D cy ad A) : ∀ n : Nat, I_K_badBlocks_4 p l e s m args below meth c D cy A ad o v_a_row v_a_id v_o_sha r_signatures v_o_machine v_o_layout v_o_ledger r_spent o_blocks a_blocks_el o_tip r_tip_raw v_a_tip_id r_tip_ids i_rowLength i_takenBytes i_checkedTxs i_blocks_size i_blocks_modCount i_tip_height j_tip_time i_tip_bits j_tip_work i_tip_bad i_tip_valid i_tip_mark (x_K_badBlocks_4 fu i_rowLength i_takenBytes i_checkedTxs i_blocks_size i_blocks_modCount i_tip_height j_tip_time i_tip_bits j_tip_work i_tip_bad i_tip_valid i_tip_mark n)
  | 0 => fun _ _ _ hf => nomatch (show (none : Option (Int32)) = some _ from hf)
  | n + 1 => wb_K_badBlocks_4 F (w_K_badBlocks_4 F n)
def x_K_badBlocks (fu : Nat) (i_rowLength : Int32) (i_takenBytes : Int32) (i_checkedTxs : Int32) (i_blocks_size : Int32) (i_blocks_modCount : Int32) (i_tip_height : Int32) (j_tip_time : Int64) (i_tip_bits : Int32) (j_tip_work : Int64) (i_tip_bad : Int32) (i_tip_valid : Int32) (i_tip_mark : Int32) : Option (Int32) :=
  x_K_badBlocks_4 fu i_rowLength i_takenBytes i_checkedTxs i_blocks_size i_blocks_modCount i_tip_height j_tip_time i_tip_bits j_tip_work i_tip_bad i_tip_valid i_tip_mark fu (0 : Int32) (0 : Int32)
set_option maxHeartbeats 8000000 in
set_option maxRecDepth 100000 in
theorem we_K_badBlocks {p : Program} {l : Launch} {e : Env} {s : State} {m : MethodId} {args : Array Value} {below : List Frame} {meth : Method} {c : Code} {D : va_G} {cy : Nat → ClassId} {A : Nat → Prop} {ad : Nat → Nat} {o : Nat} {v_a_row : Value} {v_a_id : Value} {v_o_sha : Value} {r_signatures : Value} {v_o_machine : Value} {v_o_layout : Value} {v_o_ledger : Value} {r_spent : Value} {o_blocks : Nat} {a_blocks_el : Nat} {o_tip : Nat} {r_tip_raw : Value} {v_a_tip_id : Value} {r_tip_ids : Value} {i_rowLength : Int32} {i_takenBytes : Int32} {i_checkedTxs : Int32} {i_blocks_size : Int32} {i_blocks_modCount : Int32} {i_tip_height : Int32} {j_tip_time : Int64} {i_tip_bits : Int32} {j_tip_work : Int64} {i_tip_bad : Int32} {i_tip_valid : Int32} {i_tip_mark : Int32} {fu : Nat} (F : Fx p s m args meth c b_K_badBlocks 3 "CoinKeeper" "badBlocks" (some .int) D cy ad A) : I_K_badBlocks_e p l e s m args below meth c D cy A ad o v_a_row v_a_id v_o_sha r_signatures v_o_machine v_o_layout v_o_ledger r_spent o_blocks a_blocks_el o_tip r_tip_raw v_a_tip_id r_tip_ids i_rowLength i_takenBytes i_checkedTxs i_blocks_size i_blocks_modCount i_tip_height j_tip_time i_tip_bits j_tip_work i_tip_bad i_tip_valid i_tip_mark (x_K_badBlocks fu i_rowLength i_takenBytes i_checkedTxs i_blocks_size i_blocks_modCount i_tip_height j_tip_time i_tip_bits j_tip_work i_tip_bad i_tip_valid i_tip_mark) := by
  obtain ⟨hx, hb, hr, hml, hown, hts, hlocks, hK, hA, hSt, hnm, hex⟩ := id F
  intro  res hf H locs ls hP hD hS hl
  unfold x_K_badBlocks at hf
  refine lv_iconst (v := 0) hx hb d_K_badBlocks_0 (by decide) ?_
  refine lv_istore_n (lv' := [(1, .int (0 : Int32)), (0, .ref o)]) hx hb d_K_badBlocks_1 rfl hl (by decide) rfl (fun ls hl => ?_)
  refine lv_iconst (v := 0) hx hb d_K_badBlocks_2 (by decide) ?_
  refine lv_istore_n (lv' := [(2, .int (0 : Int32)), (1, .int (0 : Int32)), (0, .ref o)]) hx hb d_K_badBlocks_3 rfl hl (by decide) rfl (fun ls hl => ?_)
  exact w_K_badBlocks_4 F fu _ _ _ hf _ _ _ hP hD hS (lv_sub hl [2, 1, 0] rfl)
theorem c_K_badBlocks (l : Launch) (D : va_G) (cy : Nat → ClassId) (ad : Nat → Nat) (fu : Nat) (o : Nat) (v_a_row : Value) (v_a_id : Value) (v_o_sha : Value) (r_signatures : Value) (v_o_machine : Value) (v_o_layout : Value) (v_o_ledger : Value) (r_spent : Value) (o_blocks : Nat) (a_blocks_el : Nat) (o_tip : Nat) (r_tip_raw : Value) (v_a_tip_id : Value) (r_tip_ids : Value) (i_rowLength : Int32) (i_takenBytes : Int32) (i_checkedTxs : Int32) (i_blocks_size : Int32) (i_blocks_modCount : Int32) (i_tip_height : Int32) (j_tip_time : Int64) (i_tip_bits : Int32) (j_tip_work : Int64) (i_tip_bad : Int32) (i_tip_valid : Int32) (i_tip_mark : Int32) (res : Int32) (hf : x_K_badBlocks fu i_rowLength i_takenBytes i_checkedTxs i_blocks_size i_blocks_modCount i_tip_height j_tip_time i_tip_bits j_tip_work i_tip_bad i_tip_valid i_tip_mark = some res) (sz : Nat) : Met l ({ cls := "CoinKeeper", name := "badBlocks", desc := "()I" } : Jvm.MethodName) (.code ({ cls := "CoinKeeper", name := "badBlocks", desc := "()I" } : Jvm.MethodName) b_K_badBlocks 3 (some .int) :: gw) rm_K_badBlocks (va_Pc [.ref o] (Pr D cy ad [(o, .inr (0, [v_a_row, .int i_rowLength, v_a_id, v_o_sha, r_signatures, v_o_machine, v_o_layout, v_o_ledger, .ref o_blocks, r_spent, .ref o_tip, .int i_takenBytes, .int i_checkedTxs])), (o_blocks, .inr (11, [.ref a_blocks_el, .int i_blocks_size, .int i_blocks_modCount])), (a_blocks_el, .inl (cy 7, 10, .inr (.inr (.inr (.inr (va_up (fun _ => none) 0 (some o_tip))))))), (o_tip, .inr (1, [.null, r_tip_raw, v_a_tip_id, r_tip_ids, .int i_tip_height, .long j_tip_time, .int i_tip_bits, .long j_tip_work, .null, .int i_tip_bad, .int i_tip_valid, .int i_tip_mark]))] sz)) (q_K_badBlocks D cy (va_A [(o, .inr (0, [v_a_row, .int i_rowLength, v_a_id, v_o_sha, r_signatures, v_o_machine, v_o_layout, v_o_ledger, .ref o_blocks, r_spent, .ref o_tip, .int i_takenBytes, .int i_checkedTxs])), (o_blocks, .inr (11, [.ref a_blocks_el, .int i_blocks_size, .int i_blocks_modCount])), (a_blocks_el, .inl (cy 7, 10, .inr (.inr (.inr (.inr (va_up (fun _ => none) 0 (some o_tip))))))), (o_tip, .inr (1, [.null, r_tip_raw, v_a_tip_id, r_tip_ids, .int i_tip_height, .long j_tip_time, .int i_tip_bits, .long j_tip_work, .null, .int i_tip_bad, .int i_tip_valid, .int i_tip_mark]))] sz) o v_a_row v_a_id v_o_sha r_signatures v_o_machine v_o_layout v_o_ledger r_spent o_blocks a_blocks_el o_tip r_tip_raw v_a_tip_id r_tip_ids i_rowLength i_takenBytes i_checkedTxs i_blocks_size i_blocks_modCount i_tip_height j_tip_time i_tip_bits j_tip_work i_tip_bad i_tip_valid i_tip_mark res) 0 0 (va_A [(o, .inr (0, [v_a_row, .int i_rowLength, v_a_id, v_o_sha, r_signatures, v_o_machine, v_o_layout, v_o_ledger, .ref o_blocks, r_spent, .ref o_tip, .int i_takenBytes, .int i_checkedTxs])), (o_blocks, .inr (11, [.ref a_blocks_el, .int i_blocks_size, .int i_blocks_modCount])), (a_blocks_el, .inl (cy 7, 10, .inr (.inr (.inr (.inr (va_up (fun _ => none) 0 (some o_tip))))))), (o_tip, .inr (1, [.null, r_tip_raw, v_a_tip_id, r_tip_ids, .int i_tip_height, .long j_tip_time, .int i_tip_bits, .long j_tip_work, .null, .int i_tip_bad, .int i_tip_valid, .int i_tip_mark]))] sz) :=
  q_met (Qc := fun A => q_K_badBlocks D cy A o v_a_row v_a_id v_o_sha r_signatures v_o_machine v_o_layout v_o_ledger r_spent o_blocks a_blocks_el o_tip r_tip_raw v_a_tip_id r_tip_ids i_rowLength i_takenBytes i_checkedTxs i_blocks_size i_blocks_modCount i_tip_height j_tip_time i_tip_bits j_tip_work i_tip_bad i_tip_valid i_tip_mark res) (by decide) rfl rfl (Nat.le_of_ble_eq_true rfl) (fun p e s m below meth c ls F hP hD hS hl => we_K_badBlocks (fu := fu) F  res hf _ _ _ hP hD hS hl) sz
abbrev b_K_count : ByteArray := prog_1_method_9_code
theorem d_K_count_0 : decode b_K_count 0 = .ok (.iload_n 1, 1) := by decide +kernel
theorem d_K_count_1 : decode b_K_count 1 = .ok (.ifCond .lt 8, 3) := by decide +kernel
theorem d_K_count_4 : decode b_K_count 4 = .ok (.iload_n 1, 1) := by decide +kernel
theorem d_K_count_5 : decode b_K_count 5 = .ok (.iconst 5, 1) := by decide +kernel
theorem d_K_count_6 : decode b_K_count 6 = .ok (.if_icmp .le 11, 3) := by decide +kernel
theorem d_K_count_9 : decode b_K_count 9 = .ok (.new 90, 3) := by decide +kernel
theorem d_K_count_12 : decode b_K_count 12 = .ok (.dup, 1) := by decide +kernel
theorem d_K_count_13 : decode b_K_count 13 = .ok (.invokespecial 92, 3) := by decide +kernel
theorem d_K_count_16 : decode b_K_count 16 = .ok (.athrow, 1) := by decide +kernel
theorem d_K_count_17 : decode b_K_count 17 = .ok (.iload_n 1, 1) := by decide +kernel
theorem d_K_count_18 : decode b_K_count 18 = .ok (.ifCond .ne 14, 3) := by decide +kernel
theorem d_K_count_21 : decode b_K_count 21 = .ok (.aload_n 0, 1) := by decide +kernel
theorem d_K_count_22 : decode b_K_count 22 = .ok (.getfield 56, 3) := by decide +kernel
theorem d_K_count_25 : decode b_K_count 25 = .ok (.invokevirtual 93, 3) := by decide +kernel
theorem d_K_count_28 : decode b_K_count 28 = .ok (.iconst 1, 1) := by decide +kernel
theorem d_K_count_29 : decode b_K_count 29 = .ok (.isub, 1) := by decide +kernel
theorem d_K_count_30 : decode b_K_count 30 = .ok (.i2l, 1) := by decide +kernel
theorem d_K_count_31 : decode b_K_count 31 = .ok (.lreturn, 1) := by decide +kernel
theorem d_K_count_32 : decode b_K_count 32 = .ok (.iload_n 1, 1) := by decide +kernel
theorem d_K_count_33 : decode b_K_count 33 = .ok (.iconst 1, 1) := by decide +kernel
theorem d_K_count_34 : decode b_K_count 34 = .ok (.if_icmp .ne 9, 3) := by decide +kernel
theorem d_K_count_37 : decode b_K_count 37 = .ok (.aload_n 0, 1) := by decide +kernel
theorem d_K_count_38 : decode b_K_count 38 = .ok (.invokevirtual 190, 3) := by decide +kernel
theorem d_K_count_41 : decode b_K_count 41 = .ok (.i2l, 1) := by decide +kernel
theorem d_K_count_42 : decode b_K_count 42 = .ok (.lreturn, 1) := by decide +kernel
theorem d_K_count_43 : decode b_K_count 43 = .ok (.iload_n 1, 1) := by decide +kernel
theorem d_K_count_44 : decode b_K_count 44 = .ok (.iconst 2, 1) := by decide +kernel
theorem d_K_count_45 : decode b_K_count 45 = .ok (.if_icmp .ne 12, 3) := by decide +kernel
theorem d_K_count_48 : decode b_K_count 48 = .ok (.aload_n 0, 1) := by decide +kernel
theorem d_K_count_49 : decode b_K_count 49 = .ok (.getfield 49, 3) := by decide +kernel
theorem d_K_count_52 : decode b_K_count 52 = .ok (.invokevirtual 193, 3) := by decide +kernel
theorem d_K_count_55 : decode b_K_count 55 = .ok (.i2l, 1) := by decide +kernel
theorem d_K_count_56 : decode b_K_count 56 = .ok (.lreturn, 1) := by decide +kernel
theorem d_K_count_57 : decode b_K_count 57 = .ok (.iload_n 1, 1) := by decide +kernel
theorem d_K_count_58 : decode b_K_count 58 = .ok (.iconst 3, 1) := by decide +kernel
theorem d_K_count_59 : decode b_K_count 59 = .ok (.if_icmp .ne 11, 3) := by decide +kernel
theorem d_K_count_62 : decode b_K_count 62 = .ok (.aload_n 0, 1) := by decide +kernel
theorem d_K_count_63 : decode b_K_count 63 = .ok (.getfield 49, 3) := by decide +kernel
theorem d_K_count_66 : decode b_K_count 66 = .ok (.invokevirtual 194, 3) := by decide +kernel
theorem d_K_count_69 : decode b_K_count 69 = .ok (.lreturn, 1) := by decide +kernel
theorem d_K_count_70 : decode b_K_count 70 = .ok (.iload_n 1, 1) := by decide +kernel
theorem d_K_count_71 : decode b_K_count 71 = .ok (.iconst 4, 1) := by decide +kernel
theorem d_K_count_72 : decode b_K_count 72 = .ok (.if_icmp .ne 13, 3) := by decide +kernel
theorem d_K_count_75 : decode b_K_count 75 = .ok (.aload_n 0, 1) := by decide +kernel
theorem d_K_count_76 : decode b_K_count 76 = .ok (.getfield 71, 3) := by decide +kernel
theorem d_K_count_79 : decode b_K_count 79 = .ok (.getfield 109, 3) := by decide +kernel
theorem d_K_count_82 : decode b_K_count 82 = .ok (.goto 8, 3) := by decide +kernel
theorem d_K_count_85 : decode b_K_count 85 = .ok (.aload_n 0, 1) := by decide +kernel
theorem d_K_count_86 : decode b_K_count 86 = .ok (.getfield 79, 3) := by decide +kernel
theorem d_K_count_89 : decode b_K_count 89 = .ok (.i2l, 1) := by decide +kernel
theorem d_K_count_90 : decode b_K_count 90 = .ok (.lreturn, 1) := by decide +kernel
abbrev rm_K_count : Room := { frames := 4, cells := 0, slots := 0, locals := 87 }
abbrev q_K_count (D : va_G) (cy : Nat → ClassId) (A : Nat → Prop) (ad : Nat → Nat) (o : Nat) (v_a_row : Value) (v_a_id : Value) (v_o_sha : Value) (r_signatures : Value) (v_o_machine : Value) (v_o_layout : Value) (r_spent : Value) (o_ledger : Nat) (v_o_ledger_changes : Value) (o_ledger_unspent : Nat) (o_blocks : Nat) (a_blocks_el : Nat) (o_tip : Nat) (r_tip_raw : Value) (v_a_tip_id : Value) (r_tip_ids : Value) (i_rowLength : Int32) (i_takenBytes : Int32) (i_checkedTxs : Int32) (i_ledger_unspent_size : Int32) (i_ledger_unspent_modCount : Int32) (i_blocks_size : Int32) (i_blocks_modCount : Int32) (i_tip_height : Int32) (j_tip_time : Int64) (i_tip_bits : Int32) (j_tip_work : Int64) (i_tip_bad : Int32) (i_tip_valid : Int32) (i_tip_mark : Int32) (res : Int64) : Array Value → State → Outcome → State → Prop := va_Ql (fun r' (_ : Unit) => r' = res) (fun _ t => Po D cy A [(o, .inr (0, [v_a_row, .int i_rowLength, v_a_id, v_o_sha, r_signatures, v_o_machine, v_o_layout, .ref o_ledger, .ref o_blocks, r_spent, .ref o_tip, .int i_takenBytes, .int i_checkedTxs])), (o_ledger, .inr (5, [.ref o_ledger_unspent, v_o_ledger_changes])), (o_ledger_unspent, .inr (11, [.ref (ad 26), .int i_ledger_unspent_size, .int i_ledger_unspent_modCount])), (o_blocks, .inr (11, [.ref a_blocks_el, .int i_blocks_size, .int i_blocks_modCount])), (a_blocks_el, .inl (cy 7, 10, .inr (.inr (.inr (.inr (va_up (fun _ => none) 0 (some o_tip))))))), (o_tip, .inr (1, [.null, r_tip_raw, v_a_tip_id, r_tip_ids, .int i_tip_height, .long j_tip_time, .int i_tip_bits, .long j_tip_work, .null, .int i_tip_bad, .int i_tip_valid, .int i_tip_mark]))] t) A
def I_K_count_9 (p : Program) (l : Launch) (e : Env) (s : State) (m : MethodId) (args : Array Value) (below : List Frame) (meth : Method) (c : Code) (D : va_G) (cy : Nat → ClassId) (A : Nat → Prop) (ad : Nat → Nat) (o : Nat) (v_a_row : Value) (v_a_id : Value) (v_o_sha : Value) (r_signatures : Value) (v_o_machine : Value) (v_o_layout : Value) (r_spent : Value) (o_ledger : Nat) (v_o_ledger_changes : Value) (o_ledger_unspent : Nat) (o_blocks : Nat) (a_blocks_el : Nat) (o_tip : Nat) (r_tip_raw : Value) (v_a_tip_id : Value) (r_tip_ids : Value) (i_rowLength : Int32) (i_takenBytes : Int32) (i_checkedTxs : Int32) (i_ledger_unspent_size : Int32) (i_ledger_unspent_modCount : Int32) (i_blocks_size : Int32) (i_blocks_modCount : Int32) (i_tip_height : Int32) (j_tip_time : Int64) (i_tip_bits : Int32) (j_tip_work : Int64) (i_tip_bad : Int32) (i_tip_valid : Int32) (i_tip_mark : Int32) (k : Option (Int64)) : Prop :=
  ∀ (res : Int64), k  = some res → ∀ (H : Heap) (locs : List Loc) (ls : Array Slot), va_P D classes [(o, .inr (0, [v_a_row, .int i_rowLength, v_a_id, v_o_sha, r_signatures, v_o_machine, v_o_layout, .ref o_ledger, .ref o_blocks, r_spent, .ref o_tip, .int i_takenBytes, .int i_checkedTxs])), (o_ledger, .inr (5, [.ref o_ledger_unspent, v_o_ledger_changes])), (o_ledger_unspent, .inr (11, [.ref (ad 26), .int i_ledger_unspent_size, .int i_ledger_unspent_modCount])), (o_blocks, .inr (11, [.ref a_blocks_el, .int i_blocks_size, .int i_blocks_modCount])), (a_blocks_el, .inl (cy 7, 10, .inr (.inr (.inr (.inr (va_up (fun _ => none) 0 (some o_tip))))))), (o_tip, .inr (1, [.null, r_tip_raw, v_a_tip_id, r_tip_ids, .int i_tip_height, .long j_tip_time, .int i_tip_bits, .long j_tip_work, .null, .int i_tip_bad, .int i_tip_valid, .int i_tip_mark]))] H → va_D A [(o, .inr (0, [v_a_row, .int i_rowLength, v_a_id, v_o_sha, r_signatures, v_o_machine, v_o_layout, .ref o_ledger, .ref o_blocks, r_spent, .ref o_tip, .int i_takenBytes, .int i_checkedTxs])), (o_ledger, .inr (5, [.ref o_ledger_unspent, v_o_ledger_changes])), (o_ledger_unspent, .inr (11, [.ref (ad 26), .int i_ledger_unspent_size, .int i_ledger_unspent_modCount])), (o_blocks, .inr (11, [.ref a_blocks_el, .int i_blocks_size, .int i_blocks_modCount])), (a_blocks_el, .inl (cy 7, 10, .inr (.inr (.inr (.inr (va_up (fun _ => none) 0 (some o_tip))))))), (o_tip, .inr (1, [.null, r_tip_raw, v_a_tip_id, r_tip_ids, .int i_tip_height, .long j_tip_time, .int i_tip_bits, .long j_tip_work, .null, .int i_tip_bad, .int i_tip_valid, .int i_tip_mark]))] → va_S A s.heap H locs → lv_has ls 2 [] → W p l e rm_K_count s m args below meth c H locs 0 0 (MQ below (q_K_count D cy A ad o v_a_row v_a_id v_o_sha r_signatures v_o_machine v_o_layout r_spent o_ledger v_o_ledger_changes o_ledger_unspent o_blocks a_blocks_el o_tip r_tip_raw v_a_tip_id r_tip_ids i_rowLength i_takenBytes i_checkedTxs i_ledger_unspent_size i_ledger_unspent_modCount i_blocks_size i_blocks_modCount i_tip_height j_tip_time i_tip_bits j_tip_work i_tip_bad i_tip_valid i_tip_mark res) args s 0 0 A) (F0 m 9 ls [])
def I_K_count_e (p : Program) (l : Launch) (e : Env) (s : State) (m : MethodId) (args : Array Value) (below : List Frame) (meth : Method) (c : Code) (D : va_G) (cy : Nat → ClassId) (A : Nat → Prop) (ad : Nat → Nat) (o : Nat) (v_a_row : Value) (v_a_id : Value) (v_o_sha : Value) (r_signatures : Value) (v_o_machine : Value) (v_o_layout : Value) (r_spent : Value) (o_ledger : Nat) (v_o_ledger_changes : Value) (o_ledger_unspent : Nat) (o_blocks : Nat) (a_blocks_el : Nat) (o_tip : Nat) (r_tip_raw : Value) (v_a_tip_id : Value) (r_tip_ids : Value) (i_rowLength : Int32) (i_takenBytes : Int32) (i_checkedTxs : Int32) (i_ledger_unspent_size : Int32) (i_ledger_unspent_modCount : Int32) (i_blocks_size : Int32) (i_blocks_modCount : Int32) (i_tip_height : Int32) (j_tip_time : Int64) (i_tip_bits : Int32) (j_tip_work : Int64) (i_tip_bad : Int32) (i_tip_valid : Int32) (i_tip_mark : Int32) (k : Int32 → Option (Int64)) : Prop :=
  ∀ (a1 : Int32) (res : Int64), k a1 = some res → ∀ (H : Heap) (locs : List Loc) (ls : Array Slot), va_P D classes [(o, .inr (0, [v_a_row, .int i_rowLength, v_a_id, v_o_sha, r_signatures, v_o_machine, v_o_layout, .ref o_ledger, .ref o_blocks, r_spent, .ref o_tip, .int i_takenBytes, .int i_checkedTxs])), (o_ledger, .inr (5, [.ref o_ledger_unspent, v_o_ledger_changes])), (o_ledger_unspent, .inr (11, [.ref (ad 26), .int i_ledger_unspent_size, .int i_ledger_unspent_modCount])), (o_blocks, .inr (11, [.ref a_blocks_el, .int i_blocks_size, .int i_blocks_modCount])), (a_blocks_el, .inl (cy 7, 10, .inr (.inr (.inr (.inr (va_up (fun _ => none) 0 (some o_tip))))))), (o_tip, .inr (1, [.null, r_tip_raw, v_a_tip_id, r_tip_ids, .int i_tip_height, .long j_tip_time, .int i_tip_bits, .long j_tip_work, .null, .int i_tip_bad, .int i_tip_valid, .int i_tip_mark]))] H → va_D A [(o, .inr (0, [v_a_row, .int i_rowLength, v_a_id, v_o_sha, r_signatures, v_o_machine, v_o_layout, .ref o_ledger, .ref o_blocks, r_spent, .ref o_tip, .int i_takenBytes, .int i_checkedTxs])), (o_ledger, .inr (5, [.ref o_ledger_unspent, v_o_ledger_changes])), (o_ledger_unspent, .inr (11, [.ref (ad 26), .int i_ledger_unspent_size, .int i_ledger_unspent_modCount])), (o_blocks, .inr (11, [.ref a_blocks_el, .int i_blocks_size, .int i_blocks_modCount])), (a_blocks_el, .inl (cy 7, 10, .inr (.inr (.inr (.inr (va_up (fun _ => none) 0 (some o_tip))))))), (o_tip, .inr (1, [.null, r_tip_raw, v_a_tip_id, r_tip_ids, .int i_tip_height, .long j_tip_time, .int i_tip_bits, .long j_tip_work, .null, .int i_tip_bad, .int i_tip_valid, .int i_tip_mark]))] → va_S A s.heap H locs → lv_has ls 2 [(0, .ref o), (1, .int a1)] → W p l e rm_K_count s m args below meth c H locs 0 0 (MQ below (q_K_count D cy A ad o v_a_row v_a_id v_o_sha r_signatures v_o_machine v_o_layout r_spent o_ledger v_o_ledger_changes o_ledger_unspent o_blocks a_blocks_el o_tip r_tip_raw v_a_tip_id r_tip_ids i_rowLength i_takenBytes i_checkedTxs i_ledger_unspent_size i_ledger_unspent_modCount i_blocks_size i_blocks_modCount i_tip_height j_tip_time i_tip_bits j_tip_work i_tip_bad i_tip_valid i_tip_mark res) args s 0 0 A) (F0 m 0 ls [])
def xb_K_count_9 (fu : Nat) (i_rowLength : Int32) (i_takenBytes : Int32) (i_checkedTxs : Int32) (i_ledger_unspent_size : Int32) (i_ledger_unspent_modCount : Int32) (i_blocks_size : Int32) (i_blocks_modCount : Int32) (i_tip_height : Int32) (j_tip_time : Int64) (i_tip_bits : Int32) (j_tip_work : Int64) (i_tip_bad : Int32) (i_tip_valid : Int32) (i_tip_mark : Int32) : Option (Int64) :=
  none
set_option maxHeartbeats 8000000 in
set_option maxRecDepth 100000 in
theorem wb_K_count_9 {p : Program} {l : Launch} {e : Env} {s : State} {m : MethodId} {args : Array Value} {below : List Frame} {meth : Method} {c : Code} {D : va_G} {cy : Nat → ClassId} {A : Nat → Prop} {ad : Nat → Nat} {o : Nat} {v_a_row : Value} {v_a_id : Value} {v_o_sha : Value} {r_signatures : Value} {v_o_machine : Value} {v_o_layout : Value} {r_spent : Value} {o_ledger : Nat} {v_o_ledger_changes : Value} {o_ledger_unspent : Nat} {o_blocks : Nat} {a_blocks_el : Nat} {o_tip : Nat} {r_tip_raw : Value} {v_a_tip_id : Value} {r_tip_ids : Value} {i_rowLength : Int32} {i_takenBytes : Int32} {i_checkedTxs : Int32} {i_ledger_unspent_size : Int32} {i_ledger_unspent_modCount : Int32} {i_blocks_size : Int32} {i_blocks_modCount : Int32} {i_tip_height : Int32} {j_tip_time : Int64} {i_tip_bits : Int32} {j_tip_work : Int64} {i_tip_bad : Int32} {i_tip_valid : Int32} {i_tip_mark : Int32} {fu : Nat} (F : Fx p s m args meth c b_K_count 2 "CoinKeeper" "count" (some .long) D cy ad A) : I_K_count_9 p l e s m args below meth c D cy A ad o v_a_row v_a_id v_o_sha r_signatures v_o_machine v_o_layout r_spent o_ledger v_o_ledger_changes o_ledger_unspent o_blocks a_blocks_el o_tip r_tip_raw v_a_tip_id r_tip_ids i_rowLength i_takenBytes i_checkedTxs i_ledger_unspent_size i_ledger_unspent_modCount i_blocks_size i_blocks_modCount i_tip_height j_tip_time i_tip_bits j_tip_work i_tip_bad i_tip_valid i_tip_mark (xb_K_count_9 fu i_rowLength i_takenBytes i_checkedTxs i_ledger_unspent_size i_ledger_unspent_modCount i_blocks_size i_blocks_modCount i_tip_height j_tip_time i_tip_bits j_tip_work i_tip_bad i_tip_valid i_tip_mark) := by
  obtain ⟨hx, hb, hr, hml, hown, hts, hlocks, hK, hA, hSt, hnm, hex⟩ := id F
  intro  res hf H locs ls hP hD hS hl
  unfold xb_K_count_9 at hf
  exact nomatch hf
theorem hdf_67 : ({ cls := "CoinKeeper$Ledger", name := "values", desc := "()J" } : Jvm.MethodName).cls ≠ "java/lang/invoke/MethodHandle" ∧ ({ cls := "CoinKeeper$Ledger", name := "values", desc := "()J" } : Jvm.MethodName).cls ≠ "java/lang/invoke/VarHandle" ∧ (parseMethodDescriptor ({ cls := "CoinKeeper$Ledger", name := "values", desc := "()J" } : Jvm.MethodName).desc).map (fun d => d.parameters.length) = some 0 := by decide +kernel
theorem hdf_68 : ({ cls := "CoinKeeper$Ledger", name := "size", desc := "()I" } : Jvm.MethodName).cls ≠ "java/lang/invoke/MethodHandle" ∧ ({ cls := "CoinKeeper$Ledger", name := "size", desc := "()I" } : Jvm.MethodName).cls ≠ "java/lang/invoke/VarHandle" ∧ (parseMethodDescriptor ({ cls := "CoinKeeper$Ledger", name := "size", desc := "()I" } : Jvm.MethodName).desc).map (fun d => d.parameters.length) = some 0 := by decide +kernel
theorem hdf_69 : ({ cls := "CoinKeeper", name := "badBlocks", desc := "()I" } : Jvm.MethodName).cls ≠ "java/lang/invoke/MethodHandle" ∧ ({ cls := "CoinKeeper", name := "badBlocks", desc := "()I" } : Jvm.MethodName).cls ≠ "java/lang/invoke/VarHandle" ∧ (parseMethodDescriptor ({ cls := "CoinKeeper", name := "badBlocks", desc := "()I" } : Jvm.MethodName).desc).map (fun d => d.parameters.length) = some 0 := by decide +kernel
def x_K_count (fu : Nat) (i_rowLength : Int32) (i_takenBytes : Int32) (i_checkedTxs : Int32) (i_ledger_unspent_size : Int32) (i_ledger_unspent_modCount : Int32) (i_blocks_size : Int32) (i_blocks_modCount : Int32) (i_tip_height : Int32) (j_tip_time : Int64) (i_tip_bits : Int32) (j_tip_work : Int64) (i_tip_bad : Int32) (i_tip_valid : Int32) (i_tip_mark : Int32) (a1 : Int32) : Option (Int64) :=
  if a1 < 0 then (xb_K_count_9 fu i_rowLength i_takenBytes i_checkedTxs i_ledger_unspent_size i_ledger_unspent_modCount i_blocks_size i_blocks_modCount i_tip_height j_tip_time i_tip_bits j_tip_work i_tip_bad i_tip_valid i_tip_mark ) else (if a1 ≤ (5 : Int32) then (if a1 = 0 then (bd1 (x_Al_size_y0R fu i_blocks_size i_blocks_modCount) fun v7 => bnd ((v7 - (1 : Int32)).toInt64) fun v8 => some (v8)) else (if a1 = (1 : Int32) then (bd1 (x_K_badBlocks fu i_rowLength i_takenBytes i_checkedTxs i_blocks_size i_blocks_modCount i_tip_height j_tip_time i_tip_bits j_tip_work i_tip_bad i_tip_valid i_tip_mark) fun v5 => bnd (v5.toInt64) fun v6 => some (v6)) else (if a1 = (2 : Int32) then (bd1 (x_Le_size fu i_ledger_unspent_size i_ledger_unspent_modCount) fun v3 => bnd (v3.toInt64) fun v4 => some (v4)) else (if a1 = (3 : Int32) then (bd1 (x_Le_values fu i_ledger_unspent_size i_ledger_unspent_modCount) fun v2 => some (v2)) else (if a1 = (4 : Int32) then (some (j_tip_work)) else (bnd (i_rowLength.toInt64) fun v1 => some (v1))))))) else (xb_K_count_9 fu i_rowLength i_takenBytes i_checkedTxs i_ledger_unspent_size i_ledger_unspent_modCount i_blocks_size i_blocks_modCount i_tip_height j_tip_time i_tip_bits j_tip_work i_tip_bad i_tip_valid i_tip_mark ))
set_option maxHeartbeats 8000000 in
set_option maxRecDepth 100000 in
theorem we_K_count {p : Program} {l : Launch} {e : Env} {s : State} {m : MethodId} {args : Array Value} {below : List Frame} {meth : Method} {c : Code} {D : va_G} {cy : Nat → ClassId} {A : Nat → Prop} {ad : Nat → Nat} {o : Nat} {v_a_row : Value} {v_a_id : Value} {v_o_sha : Value} {r_signatures : Value} {v_o_machine : Value} {v_o_layout : Value} {r_spent : Value} {o_ledger : Nat} {v_o_ledger_changes : Value} {o_ledger_unspent : Nat} {o_blocks : Nat} {a_blocks_el : Nat} {o_tip : Nat} {r_tip_raw : Value} {v_a_tip_id : Value} {r_tip_ids : Value} {i_rowLength : Int32} {i_takenBytes : Int32} {i_checkedTxs : Int32} {i_ledger_unspent_size : Int32} {i_ledger_unspent_modCount : Int32} {i_blocks_size : Int32} {i_blocks_modCount : Int32} {i_tip_height : Int32} {j_tip_time : Int64} {i_tip_bits : Int32} {j_tip_work : Int64} {i_tip_bad : Int32} {i_tip_valid : Int32} {i_tip_mark : Int32} {fu : Nat} (F : Fx p s m args meth c b_K_count 2 "CoinKeeper" "count" (some .long) D cy ad A) : I_K_count_e p l e s m args below meth c D cy A ad o v_a_row v_a_id v_o_sha r_signatures v_o_machine v_o_layout r_spent o_ledger v_o_ledger_changes o_ledger_unspent o_blocks a_blocks_el o_tip r_tip_raw v_a_tip_id r_tip_ids i_rowLength i_takenBytes i_checkedTxs i_ledger_unspent_size i_ledger_unspent_modCount i_blocks_size i_blocks_modCount i_tip_height j_tip_time i_tip_bits j_tip_work i_tip_bad i_tip_valid i_tip_mark (x_K_count fu i_rowLength i_takenBytes i_checkedTxs i_ledger_unspent_size i_ledger_unspent_modCount i_blocks_size i_blocks_modCount i_tip_height j_tip_time i_tip_bits j_tip_work i_tip_bad i_tip_valid i_tip_mark) := by
  obtain ⟨hx, hb, hr, hml, hown, hts, hlocks, hK, hA, hSt, hnm, hex⟩ := id F
  intro a1 res hf H locs ls hP hD hS hl
  unfold x_K_count at hf
  refine lv_iload_n hx hb d_K_count_0 rfl (lv_at hl 1 rfl) ?_
  refine lv_if_lt (tgt := 9) hx hb d_K_count_1 (by decide) (fun cx => ?_) (fun cx => ?_)
  · have hf := ifp cx hf
    exact wb_K_count_9 (fu := fu) F _ hf _ _ _ hP hD hS (lv_sub hl [] rfl)
  · have hf := ifn cx hf
    refine lv_iload_n hx hb d_K_count_4 rfl (lv_at hl 1 rfl) ?_
    refine lv_iconst (v := 5) hx hb d_K_count_5 (by decide) ?_
    refine lv_icmp_le (tgt := 17) hx hb d_K_count_6 (by decide) (fun cx => ?_) (fun cx => ?_)
    · have hf := ifp cx hf
      refine lv_iload_n hx hb d_K_count_17 rfl (lv_at hl 1 rfl) ?_
      refine lv_if_ne (tgt := 32) hx hb d_K_count_18 (by decide) (fun cx => ?_) (fun cx => ?_)
      · have hf := ifn cx hf
        refine lv_iload_n hx hb d_K_count_32 rfl (lv_at hl 1 rfl) ?_
        refine lv_iconst (v := 1) hx hb d_K_count_33 (by decide) ?_
        refine lv_icmp_ne (tgt := 43) hx hb d_K_count_34 (by decide) (fun cx => ?_) (fun cx => ?_)
        · have hf := ifn cx hf
          refine lv_iload_n hx hb d_K_count_43 rfl (lv_at hl 1 rfl) ?_
          refine lv_iconst (v := 2) hx hb d_K_count_44 (by decide) ?_
          refine lv_icmp_ne (tgt := 57) hx hb d_K_count_45 (by decide) (fun cx => ?_) (fun cx => ?_)
          · have hf := ifn cx hf
            refine lv_iload_n hx hb d_K_count_57 rfl (lv_at hl 1 rfl) ?_
            refine lv_iconst (v := 3) hx hb d_K_count_58 (by decide) ?_
            refine lv_icmp_ne (tgt := 70) hx hb d_K_count_59 (by decide) (fun cx => ?_) (fun cx => ?_)
            · have hf := ifn cx hf
              refine lv_iload_n hx hb d_K_count_70 rfl (lv_at hl 1 rfl) ?_
              refine lv_iconst (v := 4) hx hb d_K_count_71 (by decide) ?_
              refine lv_icmp_ne (tgt := 85) hx hb d_K_count_72 (by decide) (fun cx => ?_) (fun cx => ?_)
              · have hf := ifn cx hf
                refine lv_aload_n hx hb d_K_count_85 rfl (lv_at hl 0 rfl) ?_
                refine va_get (D := D) (ci := 0) (v := .int i_rowLength) (C := "CoinKeeper") (T := F_0) (N := 13) hx hb hts i_0 hown hK hP 0 rfl rfl 1 (by decide) (hts _ gw_501) (fun _ h9 => h9) rfl d_K_count_86 ?_
                refine lv_i2l hx hb d_K_count_89 rfl ?_
                refine lv_topl (fun v1 ev => ?_)
                have hf := bn ev hf
                clear ev
                obtain rfl := Option.some.inj hf
                exact q_rl hx hb hr hlocks hK hP hD hS d_K_count_90
              · have hf := ifp cx hf
                refine lv_aload_n hx hb d_K_count_75 rfl (lv_at hl 0 rfl) ?_
                refine va_get (D := D) (ci := 0) (v := .ref o_tip) (C := "CoinKeeper") (T := F_0) (N := 13) hx hb hts i_0 hown hK hP 0 rfl rfl 10 (by decide) (hts _ gw_510) (fun _ h9 => h9) rfl d_K_count_76 ?_
                refine va_get (D := D) (ci := 1) (v := .long j_tip_work) (C := "CoinKeeper$Block") (T := F_1) (N := 12) hx hb hts i_1 hown hK hP 5 rfl rfl 7 (by decide) (hts _ gw_407) (fun _ h9 => h9) rfl d_K_count_79 ?_
                refine lv_goto (tgt := 90) hx hb d_K_count_82 (by decide) ?_
                obtain rfl := Option.some.inj hf
                exact q_rl hx hb hr hlocks hK hP hD hS d_K_count_90
            · have hf := ifp cx hf
              refine lv_aload_n hx hb d_K_count_62 rfl (lv_at hl 0 rfl) ?_
              refine va_get (D := D) (ci := 0) (v := .ref o_ledger) (C := "CoinKeeper") (T := F_0) (N := 13) hx hb hts i_0 hown hK hP 0 rfl rfl 7 (by decide) (hts _ gw_507) (fun _ h9 => h9) rfl d_K_count_63 ?_
              obtain ⟨v2, hc, hf⟩ := bdp1 hf
              refine q_al (wr := [(o, .inr (0, [v_a_row, .int i_rowLength, v_a_id, v_o_sha, r_signatures, v_o_machine, v_o_layout, .ref o_ledger, .ref o_blocks, r_spent, .ref o_tip, .int i_takenBytes, .int i_checkedTxs])), (o_blocks, .inr (11, [.ref a_blocks_el, .int i_blocks_size, .int i_blocks_modCount])), (a_blocks_el, .inl (cy 7, 10, .inr (.inr (.inr (.inr (va_up (fun _ => none) 0 (some o_tip))))))), (o_tip, .inr (1, [.null, r_tip_raw, v_a_tip_id, r_tip_ids, .int i_tip_height, .long j_tip_time, .int i_tip_bits, .long j_tip_work, .null, .int i_tip_bad, .int i_tip_valid, .int i_tip_mark]))]) (va_runV (C := "CoinKeeper$Ledger") (As := []) (rest := []) ⟨hx, hb, hml, hown, hts⟩ (c_Le_values l D cy ad fu o_ledger v_o_ledger_changes o_ledger_unspent i_ledger_unspent_size i_ledger_unspent_modCount _ hc H.size) ⟨q_cB hts gw_1347 gw_9 gw_1344 hdf_67 ⟨by decide, by decide⟩, hts _ gw_1345, hts _ gw_1346⟩ (q_preV (q_pre (hP.sub [1, 2] rfl) (hD.sub [1, 2] (by decide) rfl) hK hSt hS (va_free hD hS hA [1, 2] rfl) _) (va_recv hK (hP.sub [1, 2] rfl) (ci := 5) (q0 := 0) rfl rfl)) rfl rfl hl.1 rfl (lv_room (Nat.le_of_ble_eq_true rfl)) d_K_count_66 ⟨Nat.le_of_ble_eq_true rfl, Nat.le_of_ble_eq_true rfl⟩) hP hD hS hA [1, 2] [0, 3, 4, 5] rfl rfl (by decide) (by decide) (fun H locs hP hD hS => ?_)
              clear hc
              have hP : va_P D classes [(o, .inr (0, [v_a_row, .int i_rowLength, v_a_id, v_o_sha, r_signatures, v_o_machine, v_o_layout, .ref o_ledger, .ref o_blocks, r_spent, .ref o_tip, .int i_takenBytes, .int i_checkedTxs])), (o_blocks, .inr (11, [.ref a_blocks_el, .int i_blocks_size, .int i_blocks_modCount])), (a_blocks_el, .inl (cy 7, 10, .inr (.inr (.inr (.inr (va_up (fun _ => none) 0 (some o_tip))))))), (o_tip, .inr (1, [.null, r_tip_raw, v_a_tip_id, r_tip_ids, .int i_tip_height, .long j_tip_time, .int i_tip_bits, .long j_tip_work, .null, .int i_tip_bad, .int i_tip_valid, .int i_tip_mark])), (o_ledger, .inr (5, [.ref o_ledger_unspent, v_o_ledger_changes])), (o_ledger_unspent, .inr (11, [.ref (ad 26), .int i_ledger_unspent_size, .int i_ledger_unspent_modCount]))] H := hP
              have hD : va_D A [(o, .inr (0, [v_a_row, .int i_rowLength, v_a_id, v_o_sha, r_signatures, v_o_machine, v_o_layout, .ref o_ledger, .ref o_blocks, r_spent, .ref o_tip, .int i_takenBytes, .int i_checkedTxs])), (o_blocks, .inr (11, [.ref a_blocks_el, .int i_blocks_size, .int i_blocks_modCount])), (a_blocks_el, .inl (cy 7, 10, .inr (.inr (.inr (.inr (va_up (fun _ => none) 0 (some o_tip))))))), (o_tip, .inr (1, [.null, r_tip_raw, v_a_tip_id, r_tip_ids, .int i_tip_height, .long j_tip_time, .int i_tip_bits, .long j_tip_work, .null, .int i_tip_bad, .int i_tip_valid, .int i_tip_mark])), (o_ledger, .inr (5, [.ref o_ledger_unspent, v_o_ledger_changes])), (o_ledger_unspent, .inr (11, [.ref (ad 26), .int i_ledger_unspent_size, .int i_ledger_unspent_modCount]))] := hD
              obtain rfl := Option.some.inj hf
              exact q_rl hx hb hr hlocks hK (hP.sub [0, 4, 5, 1, 2, 3] rfl) (hD.sub [0, 4, 5, 1, 2, 3] (by decide) rfl) hS d_K_count_69
          · have hf := ifp cx hf
            refine lv_aload_n hx hb d_K_count_48 rfl (lv_at hl 0 rfl) ?_
            refine va_get (D := D) (ci := 0) (v := .ref o_ledger) (C := "CoinKeeper") (T := F_0) (N := 13) hx hb hts i_0 hown hK hP 0 rfl rfl 7 (by decide) (hts _ gw_507) (fun _ h9 => h9) rfl d_K_count_49 ?_
            obtain ⟨v3, hc, hf⟩ := bdp1 hf
            refine q_ai (wr := [(o, .inr (0, [v_a_row, .int i_rowLength, v_a_id, v_o_sha, r_signatures, v_o_machine, v_o_layout, .ref o_ledger, .ref o_blocks, r_spent, .ref o_tip, .int i_takenBytes, .int i_checkedTxs])), (o_blocks, .inr (11, [.ref a_blocks_el, .int i_blocks_size, .int i_blocks_modCount])), (a_blocks_el, .inl (cy 7, 10, .inr (.inr (.inr (.inr (va_up (fun _ => none) 0 (some o_tip))))))), (o_tip, .inr (1, [.null, r_tip_raw, v_a_tip_id, r_tip_ids, .int i_tip_height, .long j_tip_time, .int i_tip_bits, .long j_tip_work, .null, .int i_tip_bad, .int i_tip_valid, .int i_tip_mark]))]) (va_runV (C := "CoinKeeper$Ledger") (As := []) (rest := []) ⟨hx, hb, hml, hown, hts⟩ (c_Le_size l D cy ad fu o_ledger v_o_ledger_changes o_ledger_unspent i_ledger_unspent_size i_ledger_unspent_modCount _ hc H.size) ⟨q_cB hts gw_1343 gw_9 gw_1340 hdf_68 ⟨by decide, by decide⟩, hts _ gw_1341, hts _ gw_1342⟩ (q_preV (q_pre (hP.sub [1, 2] rfl) (hD.sub [1, 2] (by decide) rfl) hK hSt hS (va_free hD hS hA [1, 2] rfl) _) (va_recv hK (hP.sub [1, 2] rfl) (ci := 5) (q0 := 0) rfl rfl)) rfl rfl hl.1 rfl (lv_room (Nat.le_of_ble_eq_true rfl)) d_K_count_52 ⟨Nat.le_of_ble_eq_true rfl, Nat.le_of_ble_eq_true rfl⟩) hP hD hS hA [1, 2] [0, 3, 4, 5] rfl rfl (by decide) (by decide) (fun H locs hP hD hS => ?_)
            clear hc
            have hP : va_P D classes [(o, .inr (0, [v_a_row, .int i_rowLength, v_a_id, v_o_sha, r_signatures, v_o_machine, v_o_layout, .ref o_ledger, .ref o_blocks, r_spent, .ref o_tip, .int i_takenBytes, .int i_checkedTxs])), (o_blocks, .inr (11, [.ref a_blocks_el, .int i_blocks_size, .int i_blocks_modCount])), (a_blocks_el, .inl (cy 7, 10, .inr (.inr (.inr (.inr (va_up (fun _ => none) 0 (some o_tip))))))), (o_tip, .inr (1, [.null, r_tip_raw, v_a_tip_id, r_tip_ids, .int i_tip_height, .long j_tip_time, .int i_tip_bits, .long j_tip_work, .null, .int i_tip_bad, .int i_tip_valid, .int i_tip_mark])), (o_ledger, .inr (5, [.ref o_ledger_unspent, v_o_ledger_changes])), (o_ledger_unspent, .inr (11, [.ref (ad 26), .int i_ledger_unspent_size, .int i_ledger_unspent_modCount]))] H := hP
            have hD : va_D A [(o, .inr (0, [v_a_row, .int i_rowLength, v_a_id, v_o_sha, r_signatures, v_o_machine, v_o_layout, .ref o_ledger, .ref o_blocks, r_spent, .ref o_tip, .int i_takenBytes, .int i_checkedTxs])), (o_blocks, .inr (11, [.ref a_blocks_el, .int i_blocks_size, .int i_blocks_modCount])), (a_blocks_el, .inl (cy 7, 10, .inr (.inr (.inr (.inr (va_up (fun _ => none) 0 (some o_tip))))))), (o_tip, .inr (1, [.null, r_tip_raw, v_a_tip_id, r_tip_ids, .int i_tip_height, .long j_tip_time, .int i_tip_bits, .long j_tip_work, .null, .int i_tip_bad, .int i_tip_valid, .int i_tip_mark])), (o_ledger, .inr (5, [.ref o_ledger_unspent, v_o_ledger_changes])), (o_ledger_unspent, .inr (11, [.ref (ad 26), .int i_ledger_unspent_size, .int i_ledger_unspent_modCount]))] := hD
            refine lv_i2l hx hb d_K_count_55 rfl ?_
            refine lv_topl (fun v4 ev => ?_)
            have hf := bn ev hf
            clear ev
            obtain rfl := Option.some.inj hf
            exact q_rl hx hb hr hlocks hK (hP.sub [0, 4, 5, 1, 2, 3] rfl) (hD.sub [0, 4, 5, 1, 2, 3] (by decide) rfl) hS d_K_count_56
        · have hf := ifp cx hf
          refine lv_aload_n hx hb d_K_count_37 rfl (lv_at hl 0 rfl) ?_
          obtain ⟨v5, hc, hf⟩ := bdp1 hf
          refine q_ai (wr := [(o_ledger, .inr (5, [.ref o_ledger_unspent, v_o_ledger_changes])), (o_ledger_unspent, .inr (11, [.ref (ad 26), .int i_ledger_unspent_size, .int i_ledger_unspent_modCount]))]) (va_runV (C := "CoinKeeper") (As := []) (rest := []) ⟨hx, hb, hml, hown, hts⟩ (c_K_badBlocks l D cy ad fu o v_a_row v_a_id v_o_sha r_signatures v_o_machine v_o_layout (.ref o_ledger) r_spent o_blocks a_blocks_el o_tip r_tip_raw v_a_tip_id r_tip_ids i_rowLength i_takenBytes i_checkedTxs i_blocks_size i_blocks_modCount i_tip_height j_tip_time i_tip_bits j_tip_work i_tip_bad i_tip_valid i_tip_mark _ hc H.size) ⟨q_cB hts gw_1339 gw_1 gw_1336 hdf_69 ⟨by decide, by decide⟩, hts _ gw_1338, hts _ gs_60⟩ (q_preV (q_pre (hP.sub [0, 3, 4, 5] rfl) (hD.sub [0, 3, 4, 5] (by decide) rfl) hK hSt hS (va_free hD hS hA [0, 3, 4, 5] rfl) _) (va_recv hK (hP.sub [0, 3, 4, 5] rfl) (ci := 0) (q0 := 0) rfl rfl)) rfl rfl hl.1 rfl (lv_room (Nat.le_of_ble_eq_true rfl)) d_K_count_38 ⟨Nat.le_of_ble_eq_true rfl, Nat.le_of_ble_eq_true rfl⟩) hP hD hS hA [0, 3, 4, 5] [1, 2] rfl rfl (by decide) (by decide) (fun H locs hP hD hS => ?_)
          clear hc
          have hP : va_P D classes [(o_ledger, .inr (5, [.ref o_ledger_unspent, v_o_ledger_changes])), (o_ledger_unspent, .inr (11, [.ref (ad 26), .int i_ledger_unspent_size, .int i_ledger_unspent_modCount])), (o, .inr (0, [v_a_row, .int i_rowLength, v_a_id, v_o_sha, r_signatures, v_o_machine, v_o_layout, .ref o_ledger, .ref o_blocks, r_spent, .ref o_tip, .int i_takenBytes, .int i_checkedTxs])), (o_blocks, .inr (11, [.ref a_blocks_el, .int i_blocks_size, .int i_blocks_modCount])), (a_blocks_el, .inl (cy 7, 10, .inr (.inr (.inr (.inr (va_up (fun _ => none) 0 (some o_tip))))))), (o_tip, .inr (1, [.null, r_tip_raw, v_a_tip_id, r_tip_ids, .int i_tip_height, .long j_tip_time, .int i_tip_bits, .long j_tip_work, .null, .int i_tip_bad, .int i_tip_valid, .int i_tip_mark]))] H := hP
          have hD : va_D A [(o_ledger, .inr (5, [.ref o_ledger_unspent, v_o_ledger_changes])), (o_ledger_unspent, .inr (11, [.ref (ad 26), .int i_ledger_unspent_size, .int i_ledger_unspent_modCount])), (o, .inr (0, [v_a_row, .int i_rowLength, v_a_id, v_o_sha, r_signatures, v_o_machine, v_o_layout, .ref o_ledger, .ref o_blocks, r_spent, .ref o_tip, .int i_takenBytes, .int i_checkedTxs])), (o_blocks, .inr (11, [.ref a_blocks_el, .int i_blocks_size, .int i_blocks_modCount])), (a_blocks_el, .inl (cy 7, 10, .inr (.inr (.inr (.inr (va_up (fun _ => none) 0 (some o_tip))))))), (o_tip, .inr (1, [.null, r_tip_raw, v_a_tip_id, r_tip_ids, .int i_tip_height, .long j_tip_time, .int i_tip_bits, .long j_tip_work, .null, .int i_tip_bad, .int i_tip_valid, .int i_tip_mark]))] := hD
          refine lv_i2l hx hb d_K_count_41 rfl ?_
          refine lv_topl (fun v6 ev => ?_)
          have hf := bn ev hf
          clear ev
          obtain rfl := Option.some.inj hf
          exact q_rl hx hb hr hlocks hK (hP.sub [2, 0, 1, 3, 4, 5] rfl) (hD.sub [2, 0, 1, 3, 4, 5] (by decide) rfl) hS d_K_count_42
      · have hf := ifp cx hf
        refine lv_aload_n hx hb d_K_count_21 rfl (lv_at hl 0 rfl) ?_
        refine va_get (D := D) (ci := 0) (v := .ref o_blocks) (C := "CoinKeeper") (T := F_0) (N := 13) hx hb hts i_0 hown hK hP 0 rfl rfl 8 (by decide) (hts _ gw_508) (fun _ h9 => h9) rfl d_K_count_22 ?_
        obtain ⟨v7, hc, hf⟩ := bdp1 hf
        refine q_ai (wr := [(o, .inr (0, [v_a_row, .int i_rowLength, v_a_id, v_o_sha, r_signatures, v_o_machine, v_o_layout, .ref o_ledger, .ref o_blocks, r_spent, .ref o_tip, .int i_takenBytes, .int i_checkedTxs])), (o_ledger, .inr (5, [.ref o_ledger_unspent, v_o_ledger_changes])), (o_ledger_unspent, .inr (11, [.ref (ad 26), .int i_ledger_unspent_size, .int i_ledger_unspent_modCount])), (a_blocks_el, .inl (cy 7, 10, .inr (.inr (.inr (.inr (va_up (fun _ => none) 0 (some o_tip))))))), (o_tip, .inr (1, [.null, r_tip_raw, v_a_tip_id, r_tip_ids, .int i_tip_height, .long j_tip_time, .int i_tip_bits, .long j_tip_work, .null, .int i_tip_bad, .int i_tip_valid, .int i_tip_mark]))]) (va_runV (C := "java/util/ArrayList") (As := []) (rest := []) ⟨hx, hb, hml, hown, hts⟩ (c_Al_size_y0R l D cy ad fu o_blocks (.ref a_blocks_el) i_blocks_size i_blocks_modCount _ hc H.size) ⟨q_cB hts gw_551 gw_12 gw_673 hdf_53 ⟨by decide, by decide⟩, hts _ gw_549, hts _ gw_550⟩ (q_preV (q_pre (hP.sub [3] rfl) (hD.sub [3] (by decide) rfl) hK hSt hS (va_free hD hS hA [3] rfl) _) (va_recv hK (hP.sub [3] rfl) (ci := 11) (q0 := 0) rfl rfl)) rfl rfl hl.1 rfl (lv_room (Nat.le_of_ble_eq_true rfl)) d_K_count_25 ⟨Nat.le_of_ble_eq_true rfl, Nat.le_of_ble_eq_true rfl⟩) hP hD hS hA [3] [0, 1, 2, 4, 5] rfl rfl (by decide) (by decide) (fun H locs hP hD hS => ?_)
        clear hc
        have hP : va_P D classes [(o, .inr (0, [v_a_row, .int i_rowLength, v_a_id, v_o_sha, r_signatures, v_o_machine, v_o_layout, .ref o_ledger, .ref o_blocks, r_spent, .ref o_tip, .int i_takenBytes, .int i_checkedTxs])), (o_ledger, .inr (5, [.ref o_ledger_unspent, v_o_ledger_changes])), (o_ledger_unspent, .inr (11, [.ref (ad 26), .int i_ledger_unspent_size, .int i_ledger_unspent_modCount])), (a_blocks_el, .inl (cy 7, 10, .inr (.inr (.inr (.inr (va_up (fun _ => none) 0 (some o_tip))))))), (o_tip, .inr (1, [.null, r_tip_raw, v_a_tip_id, r_tip_ids, .int i_tip_height, .long j_tip_time, .int i_tip_bits, .long j_tip_work, .null, .int i_tip_bad, .int i_tip_valid, .int i_tip_mark])), (o_blocks, .inr (11, [.ref a_blocks_el, .int i_blocks_size, .int i_blocks_modCount]))] H := hP
        have hD : va_D A [(o, .inr (0, [v_a_row, .int i_rowLength, v_a_id, v_o_sha, r_signatures, v_o_machine, v_o_layout, .ref o_ledger, .ref o_blocks, r_spent, .ref o_tip, .int i_takenBytes, .int i_checkedTxs])), (o_ledger, .inr (5, [.ref o_ledger_unspent, v_o_ledger_changes])), (o_ledger_unspent, .inr (11, [.ref (ad 26), .int i_ledger_unspent_size, .int i_ledger_unspent_modCount])), (a_blocks_el, .inl (cy 7, 10, .inr (.inr (.inr (.inr (va_up (fun _ => none) 0 (some o_tip))))))), (o_tip, .inr (1, [.null, r_tip_raw, v_a_tip_id, r_tip_ids, .int i_tip_height, .long j_tip_time, .int i_tip_bits, .long j_tip_work, .null, .int i_tip_bad, .int i_tip_valid, .int i_tip_mark])), (o_blocks, .inr (11, [.ref a_blocks_el, .int i_blocks_size, .int i_blocks_modCount]))] := hD
        refine lv_iconst (v := 1) hx hb d_K_count_28 (by decide) ?_
        refine lv_isub hx hb d_K_count_29 ?_
        refine lv_i2l hx hb d_K_count_30 rfl ?_
        refine lv_topl (fun v8 ev => ?_)
        have hf := bn ev hf
        clear ev
        obtain rfl := Option.some.inj hf
        exact q_rl hx hb hr hlocks hK (hP.sub [0, 1, 2, 5, 3, 4] rfl) (hD.sub [0, 1, 2, 5, 3, 4] (by decide) rfl) hS d_K_count_31
    · have hf := ifn cx hf
      exact wb_K_count_9 (fu := fu) F _ hf _ _ _ hP hD hS (lv_sub hl [] rfl)
theorem c_K_count (l : Launch) (D : va_G) (cy : Nat → ClassId) (ad : Nat → Nat) (fu : Nat) (o : Nat) (v_a_row : Value) (v_a_id : Value) (v_o_sha : Value) (r_signatures : Value) (v_o_machine : Value) (v_o_layout : Value) (r_spent : Value) (o_ledger : Nat) (v_o_ledger_changes : Value) (o_ledger_unspent : Nat) (o_blocks : Nat) (a_blocks_el : Nat) (o_tip : Nat) (r_tip_raw : Value) (v_a_tip_id : Value) (r_tip_ids : Value) (i_rowLength : Int32) (i_takenBytes : Int32) (i_checkedTxs : Int32) (i_ledger_unspent_size : Int32) (i_ledger_unspent_modCount : Int32) (i_blocks_size : Int32) (i_blocks_modCount : Int32) (i_tip_height : Int32) (j_tip_time : Int64) (i_tip_bits : Int32) (j_tip_work : Int64) (i_tip_bad : Int32) (i_tip_valid : Int32) (i_tip_mark : Int32) (a1 : Int32) (res : Int64) (hf : x_K_count fu i_rowLength i_takenBytes i_checkedTxs i_ledger_unspent_size i_ledger_unspent_modCount i_blocks_size i_blocks_modCount i_tip_height j_tip_time i_tip_bits j_tip_work i_tip_bad i_tip_valid i_tip_mark a1 = some res) (sz : Nat) : Met l ({ cls := "CoinKeeper", name := "count", desc := "(I)J" } : Jvm.MethodName) (.code ({ cls := "CoinKeeper", name := "count", desc := "(I)J" } : Jvm.MethodName) b_K_count 2 (some .long) :: gw) rm_K_count (va_Pc [.ref o, .int a1] (Pr D cy ad [(o, .inr (0, [v_a_row, .int i_rowLength, v_a_id, v_o_sha, r_signatures, v_o_machine, v_o_layout, .ref o_ledger, .ref o_blocks, r_spent, .ref o_tip, .int i_takenBytes, .int i_checkedTxs])), (o_ledger, .inr (5, [.ref o_ledger_unspent, v_o_ledger_changes])), (o_ledger_unspent, .inr (11, [.ref (ad 26), .int i_ledger_unspent_size, .int i_ledger_unspent_modCount])), (o_blocks, .inr (11, [.ref a_blocks_el, .int i_blocks_size, .int i_blocks_modCount])), (a_blocks_el, .inl (cy 7, 10, .inr (.inr (.inr (.inr (va_up (fun _ => none) 0 (some o_tip))))))), (o_tip, .inr (1, [.null, r_tip_raw, v_a_tip_id, r_tip_ids, .int i_tip_height, .long j_tip_time, .int i_tip_bits, .long j_tip_work, .null, .int i_tip_bad, .int i_tip_valid, .int i_tip_mark]))] sz)) (q_K_count D cy (va_A [(o, .inr (0, [v_a_row, .int i_rowLength, v_a_id, v_o_sha, r_signatures, v_o_machine, v_o_layout, .ref o_ledger, .ref o_blocks, r_spent, .ref o_tip, .int i_takenBytes, .int i_checkedTxs])), (o_ledger, .inr (5, [.ref o_ledger_unspent, v_o_ledger_changes])), (o_ledger_unspent, .inr (11, [.ref (ad 26), .int i_ledger_unspent_size, .int i_ledger_unspent_modCount])), (o_blocks, .inr (11, [.ref a_blocks_el, .int i_blocks_size, .int i_blocks_modCount])), (a_blocks_el, .inl (cy 7, 10, .inr (.inr (.inr (.inr (va_up (fun _ => none) 0 (some o_tip))))))), (o_tip, .inr (1, [.null, r_tip_raw, v_a_tip_id, r_tip_ids, .int i_tip_height, .long j_tip_time, .int i_tip_bits, .long j_tip_work, .null, .int i_tip_bad, .int i_tip_valid, .int i_tip_mark]))] sz) ad o v_a_row v_a_id v_o_sha r_signatures v_o_machine v_o_layout r_spent o_ledger v_o_ledger_changes o_ledger_unspent o_blocks a_blocks_el o_tip r_tip_raw v_a_tip_id r_tip_ids i_rowLength i_takenBytes i_checkedTxs i_ledger_unspent_size i_ledger_unspent_modCount i_blocks_size i_blocks_modCount i_tip_height j_tip_time i_tip_bits j_tip_work i_tip_bad i_tip_valid i_tip_mark res) 0 0 (va_A [(o, .inr (0, [v_a_row, .int i_rowLength, v_a_id, v_o_sha, r_signatures, v_o_machine, v_o_layout, .ref o_ledger, .ref o_blocks, r_spent, .ref o_tip, .int i_takenBytes, .int i_checkedTxs])), (o_ledger, .inr (5, [.ref o_ledger_unspent, v_o_ledger_changes])), (o_ledger_unspent, .inr (11, [.ref (ad 26), .int i_ledger_unspent_size, .int i_ledger_unspent_modCount])), (o_blocks, .inr (11, [.ref a_blocks_el, .int i_blocks_size, .int i_blocks_modCount])), (a_blocks_el, .inl (cy 7, 10, .inr (.inr (.inr (.inr (va_up (fun _ => none) 0 (some o_tip))))))), (o_tip, .inr (1, [.null, r_tip_raw, v_a_tip_id, r_tip_ids, .int i_tip_height, .long j_tip_time, .int i_tip_bits, .long j_tip_work, .null, .int i_tip_bad, .int i_tip_valid, .int i_tip_mark]))] sz) :=
  q_met (Qc := fun A => q_K_count D cy A ad o v_a_row v_a_id v_o_sha r_signatures v_o_machine v_o_layout r_spent o_ledger v_o_ledger_changes o_ledger_unspent o_blocks a_blocks_el o_tip r_tip_raw v_a_tip_id r_tip_ids i_rowLength i_takenBytes i_checkedTxs i_ledger_unspent_size i_ledger_unspent_modCount i_blocks_size i_blocks_modCount i_tip_height j_tip_time i_tip_bits j_tip_work i_tip_bad i_tip_valid i_tip_mark res) (by decide) rfl rfl (Nat.le_of_ble_eq_true rfl) (fun p e s m below meth c ls F hP hD hS hl => we_K_count (fu := fu) F a1 res hf _ _ _ hP hD hS hl) sz
abbrev b_Le_sum : ByteArray := prog_6_method_10_code
theorem d_Le_sum_0 : decode b_Le_sum 0 = .ok (.lconst 0, 1) := by decide +kernel
theorem d_Le_sum_1 : decode b_Le_sum 1 = .ok (.lstore_n 1, 1) := by decide +kernel
theorem d_Le_sum_2 : decode b_Le_sum 2 = .ok (.iconst 0, 1) := by decide +kernel
theorem d_Le_sum_3 : decode b_Le_sum 3 = .ok (.istore_n 3, 1) := by decide +kernel
theorem d_Le_sum_4 : decode b_Le_sum 4 = .ok (.iload_n 3, 1) := by decide +kernel
theorem d_Le_sum_5 : decode b_Le_sum 5 = .ok (.aload_n 0, 1) := by decide +kernel
theorem d_Le_sum_6 : decode b_Le_sum 6 = .ok (.getfield 10, 3) := by decide +kernel
theorem d_Le_sum_9 : decode b_Le_sum 9 = .ok (.invokevirtual 25, 3) := by decide +kernel
theorem d_Le_sum_12 : decode b_Le_sum 12 = .ok (.if_icmp .ge 62, 3) := by decide +kernel
theorem d_Le_sum_15 : decode b_Le_sum 15 = .ok (.aload_n 0, 1) := by decide +kernel
theorem d_Le_sum_16 : decode b_Le_sum 16 = .ok (.getfield 10, 3) := by decide +kernel
theorem d_Le_sum_19 : decode b_Le_sum 19 = .ok (.iload_n 3, 1) := by decide +kernel
theorem d_Le_sum_20 : decode b_Le_sum 20 = .ok (.invokevirtual 29, 3) := by decide +kernel
theorem d_Le_sum_23 : decode b_Le_sum 23 = .ok (.checkcast 33, 3) := by decide +kernel
theorem d_Le_sum_26 : decode b_Le_sum 26 = .ok (.astore 4, 2) := by decide +kernel
theorem d_Le_sum_28 : decode b_Le_sum 28 = .ok (.ldc2_w 88, 3) := by decide +kernel
theorem d_Le_sum_31 : decode b_Le_sum 31 = .ok (.aload 4, 2) := by decide +kernel
theorem d_Le_sum_33 : decode b_Le_sum 33 = .ok (.getfield 35, 3) := by decide +kernel
theorem d_Le_sum_36 : decode b_Le_sum 36 = .ok (.i2l, 1) := by decide +kernel
theorem d_Le_sum_37 : decode b_Le_sum 37 = .ok (.lmul, 1) := by decide +kernel
theorem d_Le_sum_38 : decode b_Le_sum 38 = .ok (.aload 4, 2) := by decide +kernel
theorem d_Le_sum_40 : decode b_Le_sum 40 = .ok (.getfield 39, 3) := by decide +kernel
theorem d_Le_sum_43 : decode b_Le_sum 43 = .ok (.i2l, 1) := by decide +kernel
theorem d_Le_sum_44 : decode b_Le_sum 44 = .ok (.ladd, 1) := by decide +kernel
theorem d_Le_sum_45 : decode b_Le_sum 45 = .ok (.ldc2_w 88, 3) := by decide +kernel
theorem d_Le_sum_48 : decode b_Le_sum 48 = .ok (.lmul, 1) := by decide +kernel
theorem d_Le_sum_49 : decode b_Le_sum 49 = .ok (.aload 4, 2) := by decide +kernel
theorem d_Le_sum_51 : decode b_Le_sum 51 = .ok (.getfield 84, 3) := by decide +kernel
theorem d_Le_sum_54 : decode b_Le_sum 54 = .ok (.ladd, 1) := by decide +kernel
theorem d_Le_sum_55 : decode b_Le_sum 55 = .ok (.lstore 5, 2) := by decide +kernel
theorem d_Le_sum_57 : decode b_Le_sum 57 = .ok (.lload_n 1, 1) := by decide +kernel
theorem d_Le_sum_58 : decode b_Le_sum 58 = .ok (.lload 5, 2) := by decide +kernel
theorem d_Le_sum_60 : decode b_Le_sum 60 = .ok (.lload 5, 2) := by decide +kernel
theorem d_Le_sum_62 : decode b_Le_sum 62 = .ok (.lmul, 1) := by decide +kernel
theorem d_Le_sum_63 : decode b_Le_sum 63 = .ok (.lload 5, 2) := by decide +kernel
theorem d_Le_sum_65 : decode b_Le_sum 65 = .ok (.ladd, 1) := by decide +kernel
theorem d_Le_sum_66 : decode b_Le_sum 66 = .ok (.ladd, 1) := by decide +kernel
theorem d_Le_sum_67 : decode b_Le_sum 67 = .ok (.lstore_n 1, 1) := by decide +kernel
theorem d_Le_sum_68 : decode b_Le_sum 68 = .ok (.iinc 3 1, 3) := by decide +kernel
theorem d_Le_sum_71 : decode b_Le_sum 71 = .ok (.goto (-67), 3) := by decide +kernel
theorem d_Le_sum_74 : decode b_Le_sum 74 = .ok (.lload_n 1, 1) := by decide +kernel
theorem d_Le_sum_75 : decode b_Le_sum 75 = .ok (.lreturn, 1) := by decide +kernel
abbrev rm_Le_sum : Room := { frames := 3, cells := 0, slots := 0, locals := 64 }
abbrev q_Le_sum (D : va_G) (cy : Nat → ClassId) (A : Nat → Prop) (ad : Nat → Nat) (o : Nat) (v_o_changes : Value) (o_unspent : Nat) (i_unspent_size : Int32) (i_unspent_modCount : Int32) (res : Int64) : Array Value → State → Outcome → State → Prop := va_Ql (fun r' (_ : Unit) => r' = res) (fun _ t => Po D cy A [(o, .inr (5, [.ref o_unspent, v_o_changes])), (o_unspent, .inr (11, [.ref (ad 26), .int i_unspent_size, .int i_unspent_modCount]))] t) A
def I_Le_sum_4 (p : Program) (l : Launch) (e : Env) (s : State) (m : MethodId) (args : Array Value) (below : List Frame) (meth : Method) (c : Code) (D : va_G) (cy : Nat → ClassId) (A : Nat → Prop) (ad : Nat → Nat) (o : Nat) (v_o_changes : Value) (o_unspent : Nat) (i_unspent_size : Int32) (i_unspent_modCount : Int32) (k : Int64 → Int32 → Option (Int64)) : Prop :=
  ∀ (x1 : Int64) (x3 : Int32) (res : Int64), k x1 x3 = some res → ∀ (H : Heap) (locs : List Loc) (ls : Array Slot), va_P D classes [(o, .inr (5, [.ref o_unspent, v_o_changes])), (o_unspent, .inr (11, [.ref (ad 26), .int i_unspent_size, .int i_unspent_modCount]))] H → va_D A [(o, .inr (5, [.ref o_unspent, v_o_changes])), (o_unspent, .inr (11, [.ref (ad 26), .int i_unspent_size, .int i_unspent_modCount]))] → va_S A s.heap H locs → lv_has ls 7 [(0, .ref o), (1, .long x1), (3, .int x3)] → W p l e rm_Le_sum s m args below meth c H locs 0 0 (MQ below (q_Le_sum D cy A ad o v_o_changes o_unspent i_unspent_size i_unspent_modCount res) args s 0 0 A) (F0 m 4 ls [])
def I_Le_sum_e (p : Program) (l : Launch) (e : Env) (s : State) (m : MethodId) (args : Array Value) (below : List Frame) (meth : Method) (c : Code) (D : va_G) (cy : Nat → ClassId) (A : Nat → Prop) (ad : Nat → Nat) (o : Nat) (v_o_changes : Value) (o_unspent : Nat) (i_unspent_size : Int32) (i_unspent_modCount : Int32) (k : Option (Int64)) : Prop :=
  ∀ (res : Int64), k  = some res → ∀ (H : Heap) (locs : List Loc) (ls : Array Slot), va_P D classes [(o, .inr (5, [.ref o_unspent, v_o_changes])), (o_unspent, .inr (11, [.ref (ad 26), .int i_unspent_size, .int i_unspent_modCount]))] H → va_D A [(o, .inr (5, [.ref o_unspent, v_o_changes])), (o_unspent, .inr (11, [.ref (ad 26), .int i_unspent_size, .int i_unspent_modCount]))] → va_S A s.heap H locs → lv_has ls 7 [(0, .ref o)] → W p l e rm_Le_sum s m args below meth c H locs 0 0 (MQ below (q_Le_sum D cy A ad o v_o_changes o_unspent i_unspent_size i_unspent_modCount res) args s 0 0 A) (F0 m 0 ls [])
def xb_Le_sum_4 (fu : Nat) (i_unspent_size : Int32) (i_unspent_modCount : Int32) (k_4 : Int64 → Int32 → Option (Int64)) (x1 : Int64) (x3 : Int32) : Option (Int64) :=
  bd1 (x_Al_size_y0S fu i_unspent_size i_unspent_modCount) fun v1 => if v1 ≤ x3 then (some (x1)) else (bd1 (x_Al_get_y0S fu i_unspent_size i_unspent_modCount x3) fun _ => none)
set_option maxHeartbeats 8000000 in
set_option maxRecDepth 100000 in
theorem wb_Le_sum_4 {p : Program} {l : Launch} {e : Env} {s : State} {m : MethodId} {args : Array Value} {below : List Frame} {meth : Method} {c : Code} {D : va_G} {cy : Nat → ClassId} {A : Nat → Prop} {ad : Nat → Nat} {o : Nat} {v_o_changes : Value} {o_unspent : Nat} {i_unspent_size : Int32} {i_unspent_modCount : Int32} {fu : Nat} {k_4 : Int64 → Int32 → Option (Int64)} (F : Fx p s m args meth c b_Le_sum 7 "CoinKeeper$Ledger" "sum" (some .long) D cy ad A) (hk_4 : I_Le_sum_4 p l e s m args below meth c D cy A ad o v_o_changes o_unspent i_unspent_size i_unspent_modCount k_4) : I_Le_sum_4 p l e s m args below meth c D cy A ad o v_o_changes o_unspent i_unspent_size i_unspent_modCount (xb_Le_sum_4 fu i_unspent_size i_unspent_modCount k_4) := by
  obtain ⟨hx, hb, hr, hml, hown, hts, hlocks, hK, hA, hSt, hnm, hex⟩ := id F
  intro x1 x3 res hf H locs ls hP hD hS hl
  unfold xb_Le_sum_4 at hf
  refine lv_iload_n hx hb d_Le_sum_4 rfl (lv_at hl 2 rfl) ?_
  refine lv_aload_n hx hb d_Le_sum_5 rfl (lv_at hl 0 rfl) ?_
  refine va_get (D := D) (ci := 5) (v := .ref o_unspent) (C := "CoinKeeper$Ledger") (T := F_5) (N := 2) hx hb hts i_5 hown hK hP 0 rfl rfl 0 (by decide) (hts _ gw_363) (fun _ h9 => h9) rfl d_Le_sum_6 ?_
  obtain ⟨v1, hc, hf⟩ := bdp1 hf
  refine q_ai (wr := [(o, .inr (5, [.ref o_unspent, v_o_changes]))]) (va_runV (C := "java/util/ArrayList") (As := []) (rest := [.int x3]) ⟨hx, hb, hml, hown, hts⟩ (c_Al_size_y0S l D cy ad fu o_unspent i_unspent_size i_unspent_modCount _ hc H.size) ⟨q_cB hts gw_551 gw_12 gw_548 hdf_53 ⟨by decide, by decide⟩, hts _ gw_549, hts _ gw_550⟩ (q_preV (q_pre (hP.sub [1] rfl) (hD.sub [1] (by decide) rfl) hK hSt hS (va_free hD hS hA [1] rfl) _) (va_recv hK (hP.sub [1] rfl) (ci := 11) (q0 := 0) rfl rfl)) rfl rfl hl.1 rfl (lv_room (Nat.le_of_ble_eq_true rfl)) d_Le_sum_9 ⟨Nat.le_of_ble_eq_true rfl, Nat.le_of_ble_eq_true rfl⟩) hP hD hS hA [1] [0] rfl rfl (by decide) (by decide) (fun H locs hP hD hS => ?_)
  clear hc
  have hP : va_P D classes [(o, .inr (5, [.ref o_unspent, v_o_changes])), (o_unspent, .inr (11, [.ref (ad 26), .int i_unspent_size, .int i_unspent_modCount]))] H := hP
  have hD : va_D A [(o, .inr (5, [.ref o_unspent, v_o_changes])), (o_unspent, .inr (11, [.ref (ad 26), .int i_unspent_size, .int i_unspent_modCount]))] := hD
  refine lv_icmp_ge (tgt := 74) hx hb d_Le_sum_12 (by decide) (fun cx => ?_) (fun cx => ?_)
  · have hf := ifp cx hf
    refine lv_lload_n hx hb d_Le_sum_74 rfl (lv_at hl 1 rfl) ?_
    obtain rfl := Option.some.inj hf
    exact q_rl hx hb hr hlocks hK hP hD hS d_Le_sum_75
  · have hf := ifn cx hf
    refine lv_aload_n hx hb d_Le_sum_15 rfl (lv_at hl 0 rfl) ?_
    refine va_get (D := D) (ci := 5) (v := .ref o_unspent) (C := "CoinKeeper$Ledger") (T := F_5) (N := 2) hx hb hts i_5 hown hK hP 0 rfl rfl 0 (by decide) (hts _ gw_363) (fun _ h9 => h9) rfl d_Le_sum_16 ?_
    refine lv_iload_n hx hb d_Le_sum_19 rfl (lv_at hl 2 rfl) ?_
    obtain ⟨⟨⟩, hc, hf⟩ := bdp1 hf
    refine q_aqS (wr := [(o, .inr (5, [.ref o_unspent, v_o_changes]))]) (va_runV (C := "java/util/ArrayList") (As := [.int x3]) (rest := []) ⟨hx, hb, hml, hown, hts⟩ (c_Al_get_y0S l D cy ad fu o_unspent i_unspent_size i_unspent_modCount x3 _ hc H.size) ⟨q_cB hts gw_555 gw_12 gw_552 hdf_66 ⟨by decide, by decide⟩, hts _ gw_553, hts _ gw_554⟩ (q_preV (q_pre (hP.sub [1] rfl) (hD.sub [1] (by decide) rfl) hK hSt hS (va_free hD hS hA [1] rfl) _) (va_recv hK (hP.sub [1] rfl) (ci := 11) (q0 := 0) rfl rfl)) rfl rfl hl.1 rfl (lv_room (Nat.le_of_ble_eq_true rfl)) d_Le_sum_20 ⟨Nat.le_of_ble_eq_true rfl, Nat.le_of_ble_eq_true rfl⟩) hP hD hS hA [1] [0] rfl rfl (by decide) (by decide) (fun _ H locs hP hD hS => ?_)
    clear hc
    have hP : va_P D classes [(o, .inr (5, [.ref o_unspent, v_o_changes])), (o_unspent, .inr (11, [.ref (ad 26), .int i_unspent_size, .int i_unspent_modCount]))] H := hP
    have hD : va_D A [(o, .inr (5, [.ref o_unspent, v_o_changes])), (o_unspent, .inr (11, [.ref (ad 26), .int i_unspent_size, .int i_unspent_modCount]))] := hD
    refine W.eq (g2 := F0 m 23 ls [.null]) rfl ?_
    refine lv_castN hx hb d_Le_sum_23 ?_
    refine lv_astoreN (lv' := [(4, .null), (0, .ref o), (1, .long x1), (3, .int x3)]) hx hb d_Le_sum_26 hl (by decide) rfl (fun ls hl => ?_)
    refine lv_ldc2 (v := 31) hx hb hown (hts _ gw_567) d_Le_sum_28 ?_
    refine lv_aloadN hx hb d_Le_sum_31 (lv_at hl 0 rfl) ?_
    exact nomatch hf
def x_Le_sum_4 (fu : Nat) (i_unspent_size : Int32) (i_unspent_modCount : Int32) : Nat → Int64 → Int32 → Option (Int64)
  | 0 => fun _ _ => none
  | n + 1 => xb_Le_sum_4 fu i_unspent_size i_unspent_modCount (x_Le_sum_4 fu i_unspent_size i_unspent_modCount n)
theorem w_Le_sum_4 {p : Program} {l : Launch} {e : Env} {s : State} {m : MethodId} {args : Array Value} {below : List Frame} {meth : Method} {c : Code} {D : va_G} {cy : Nat → ClassId} {A : Nat → Prop} {ad : Nat → Nat} {o : Nat} {v_o_changes : Value} {o_unspent : Nat} {i_unspent_size : Int32} {i_unspent_modCount : Int32} {fu : Nat} (F : Fx p s m args meth c b_Le_sum 7 "CoinKeeper$Ledger" "sum" (some .long) D cy ad A) : ∀ n : Nat, I_Le_sum_4 p l e s m args below meth c D cy A ad o v_o_changes o_unspent i_unspent_size i_unspent_modCount (x_Le_sum_4 fu i_unspent_size i_unspent_modCount n)
  | 0 => fun _ _ _ hf => nomatch (show (none : Option (Int64)) = some _ from hf)
  | n + 1 => wb_Le_sum_4 F (w_Le_sum_4 F n)
def x_Le_sum (fu : Nat) (i_unspent_size : Int32) (i_unspent_modCount : Int32) : Option (Int64) :=
  x_Le_sum_4 fu i_unspent_size i_unspent_modCount fu (0 : Int64) (0 : Int32)
set_option maxHeartbeats 8000000 in
set_option maxRecDepth 100000 in
theorem we_Le_sum {p : Program} {l : Launch} {e : Env} {s : State} {m : MethodId} {args : Array Value} {below : List Frame} {meth : Method} {c : Code} {D : va_G} {cy : Nat → ClassId} {A : Nat → Prop} {ad : Nat → Nat} {o : Nat} {v_o_changes : Value} {o_unspent : Nat} {i_unspent_size : Int32} {i_unspent_modCount : Int32} {fu : Nat} (F : Fx p s m args meth c b_Le_sum 7 "CoinKeeper$Ledger" "sum" (some .long) D cy ad A) : I_Le_sum_e p l e s m args below meth c D cy A ad o v_o_changes o_unspent i_unspent_size i_unspent_modCount (x_Le_sum fu i_unspent_size i_unspent_modCount) := by
  obtain ⟨hx, hb, hr, hml, hown, hts, hlocks, hK, hA, hSt, hnm, hex⟩ := id F
  intro  res hf H locs ls hP hD hS hl
  unfold x_Le_sum at hf
  refine lv_lconst (v := 0) hx hb d_Le_sum_0 (by decide) ?_
  refine lv_lstore_n (lv' := [(1, .long (0 : Int64)), (0, .ref o)]) hx hb d_Le_sum_1 rfl hl (by decide) rfl (fun ls hl => ?_)
  refine lv_iconst (v := 0) hx hb d_Le_sum_2 (by decide) ?_
  refine lv_istore_n (lv' := [(3, .int (0 : Int32)), (1, .long (0 : Int64)), (0, .ref o)]) hx hb d_Le_sum_3 rfl hl (by decide) rfl (fun ls hl => ?_)
  exact w_Le_sum_4 F fu _ _ _ hf _ _ _ hP hD hS (lv_sub hl [2, 1, 0] rfl)
theorem c_Le_sum (l : Launch) (D : va_G) (cy : Nat → ClassId) (ad : Nat → Nat) (fu : Nat) (o : Nat) (v_o_changes : Value) (o_unspent : Nat) (i_unspent_size : Int32) (i_unspent_modCount : Int32) (res : Int64) (hf : x_Le_sum fu i_unspent_size i_unspent_modCount = some res) (sz : Nat) : Met l ({ cls := "CoinKeeper$Ledger", name := "sum", desc := "()J" } : Jvm.MethodName) (.code ({ cls := "CoinKeeper$Ledger", name := "sum", desc := "()J" } : Jvm.MethodName) b_Le_sum 7 (some .long) :: gw) rm_Le_sum (va_Pc [.ref o] (Pr D cy ad [(o, .inr (5, [.ref o_unspent, v_o_changes])), (o_unspent, .inr (11, [.ref (ad 26), .int i_unspent_size, .int i_unspent_modCount]))] sz)) (q_Le_sum D cy (va_A [(o, .inr (5, [.ref o_unspent, v_o_changes])), (o_unspent, .inr (11, [.ref (ad 26), .int i_unspent_size, .int i_unspent_modCount]))] sz) ad o v_o_changes o_unspent i_unspent_size i_unspent_modCount res) 0 0 (va_A [(o, .inr (5, [.ref o_unspent, v_o_changes])), (o_unspent, .inr (11, [.ref (ad 26), .int i_unspent_size, .int i_unspent_modCount]))] sz) :=
  q_met (Qc := fun A => q_Le_sum D cy A ad o v_o_changes o_unspent i_unspent_size i_unspent_modCount res) (by decide) rfl rfl (Nat.le_of_ble_eq_true rfl) (fun p e s m below meth c ls F hP hD hS hl => we_Le_sum (fu := fu) F  res hf _ _ _ hP hD hS hl) sz
abbrev b_K_digest : ByteArray := prog_1_method_10_code
theorem d_K_digest_0 : decode b_K_digest 0 = .ok (.aload_n 0, 1) := by decide +kernel
theorem d_K_digest_1 : decode b_K_digest 1 = .ok (.getfield 49, 3) := by decide +kernel
theorem d_K_digest_4 : decode b_K_digest 4 = .ok (.invokevirtual 198, 3) := by decide +kernel
theorem d_K_digest_7 : decode b_K_digest 7 = .ok (.lreturn, 1) := by decide +kernel
abbrev rm_K_digest : Room := { frames := 4, cells := 0, slots := 0, locals := 90 }
abbrev q_K_digest (D : va_G) (cy : Nat → ClassId) (A : Nat → Prop) (ad : Nat → Nat) (o : Nat) (v_a_row : Value) (v_a_id : Value) (v_o_sha : Value) (r_signatures : Value) (v_o_machine : Value) (v_o_layout : Value) (v_o_blocks : Value) (r_spent : Value) (v_o_tip : Value) (o_ledger : Nat) (v_o_ledger_changes : Value) (o_ledger_unspent : Nat) (i_rowLength : Int32) (i_takenBytes : Int32) (i_checkedTxs : Int32) (i_ledger_unspent_size : Int32) (i_ledger_unspent_modCount : Int32) (res : Int64) : Array Value → State → Outcome → State → Prop := va_Ql (fun r' (_ : Unit) => r' = res) (fun _ t => Po D cy A [(o, .inr (0, [v_a_row, .int i_rowLength, v_a_id, v_o_sha, r_signatures, v_o_machine, v_o_layout, .ref o_ledger, v_o_blocks, r_spent, v_o_tip, .int i_takenBytes, .int i_checkedTxs])), (o_ledger, .inr (5, [.ref o_ledger_unspent, v_o_ledger_changes])), (o_ledger_unspent, .inr (11, [.ref (ad 26), .int i_ledger_unspent_size, .int i_ledger_unspent_modCount]))] t) A
def I_K_digest_e (p : Program) (l : Launch) (e : Env) (s : State) (m : MethodId) (args : Array Value) (below : List Frame) (meth : Method) (c : Code) (D : va_G) (cy : Nat → ClassId) (A : Nat → Prop) (ad : Nat → Nat) (o : Nat) (v_a_row : Value) (v_a_id : Value) (v_o_sha : Value) (r_signatures : Value) (v_o_machine : Value) (v_o_layout : Value) (v_o_blocks : Value) (r_spent : Value) (v_o_tip : Value) (o_ledger : Nat) (v_o_ledger_changes : Value) (o_ledger_unspent : Nat) (i_rowLength : Int32) (i_takenBytes : Int32) (i_checkedTxs : Int32) (i_ledger_unspent_size : Int32) (i_ledger_unspent_modCount : Int32) (k : Option (Int64)) : Prop :=
  ∀ (res : Int64), k  = some res → ∀ (H : Heap) (locs : List Loc) (ls : Array Slot), va_P D classes [(o, .inr (0, [v_a_row, .int i_rowLength, v_a_id, v_o_sha, r_signatures, v_o_machine, v_o_layout, .ref o_ledger, v_o_blocks, r_spent, v_o_tip, .int i_takenBytes, .int i_checkedTxs])), (o_ledger, .inr (5, [.ref o_ledger_unspent, v_o_ledger_changes])), (o_ledger_unspent, .inr (11, [.ref (ad 26), .int i_ledger_unspent_size, .int i_ledger_unspent_modCount]))] H → va_D A [(o, .inr (0, [v_a_row, .int i_rowLength, v_a_id, v_o_sha, r_signatures, v_o_machine, v_o_layout, .ref o_ledger, v_o_blocks, r_spent, v_o_tip, .int i_takenBytes, .int i_checkedTxs])), (o_ledger, .inr (5, [.ref o_ledger_unspent, v_o_ledger_changes])), (o_ledger_unspent, .inr (11, [.ref (ad 26), .int i_ledger_unspent_size, .int i_ledger_unspent_modCount]))] → va_S A s.heap H locs → lv_has ls 1 [(0, .ref o)] → W p l e rm_K_digest s m args below meth c H locs 0 0 (MQ below (q_K_digest D cy A ad o v_a_row v_a_id v_o_sha r_signatures v_o_machine v_o_layout v_o_blocks r_spent v_o_tip o_ledger v_o_ledger_changes o_ledger_unspent i_rowLength i_takenBytes i_checkedTxs i_ledger_unspent_size i_ledger_unspent_modCount res) args s 0 0 A) (F0 m 0 ls [])
theorem hdf_70 : ({ cls := "CoinKeeper$Ledger", name := "sum", desc := "()J" } : Jvm.MethodName).cls ≠ "java/lang/invoke/MethodHandle" ∧ ({ cls := "CoinKeeper$Ledger", name := "sum", desc := "()J" } : Jvm.MethodName).cls ≠ "java/lang/invoke/VarHandle" ∧ (parseMethodDescriptor ({ cls := "CoinKeeper$Ledger", name := "sum", desc := "()J" } : Jvm.MethodName).desc).map (fun d => d.parameters.length) = some 0 := by decide +kernel
def x_K_digest (fu : Nat) (i_rowLength : Int32) (i_takenBytes : Int32) (i_checkedTxs : Int32) (i_ledger_unspent_size : Int32) (i_ledger_unspent_modCount : Int32) : Option (Int64) :=
  bd1 (x_Le_sum fu i_ledger_unspent_size i_ledger_unspent_modCount) fun v1 => some (v1)
set_option maxHeartbeats 8000000 in
set_option maxRecDepth 100000 in
theorem we_K_digest {p : Program} {l : Launch} {e : Env} {s : State} {m : MethodId} {args : Array Value} {below : List Frame} {meth : Method} {c : Code} {D : va_G} {cy : Nat → ClassId} {A : Nat → Prop} {ad : Nat → Nat} {o : Nat} {v_a_row : Value} {v_a_id : Value} {v_o_sha : Value} {r_signatures : Value} {v_o_machine : Value} {v_o_layout : Value} {v_o_blocks : Value} {r_spent : Value} {v_o_tip : Value} {o_ledger : Nat} {v_o_ledger_changes : Value} {o_ledger_unspent : Nat} {i_rowLength : Int32} {i_takenBytes : Int32} {i_checkedTxs : Int32} {i_ledger_unspent_size : Int32} {i_ledger_unspent_modCount : Int32} {fu : Nat} (F : Fx p s m args meth c b_K_digest 1 "CoinKeeper" "digest" (some .long) D cy ad A) : I_K_digest_e p l e s m args below meth c D cy A ad o v_a_row v_a_id v_o_sha r_signatures v_o_machine v_o_layout v_o_blocks r_spent v_o_tip o_ledger v_o_ledger_changes o_ledger_unspent i_rowLength i_takenBytes i_checkedTxs i_ledger_unspent_size i_ledger_unspent_modCount (x_K_digest fu i_rowLength i_takenBytes i_checkedTxs i_ledger_unspent_size i_ledger_unspent_modCount) := by
  obtain ⟨hx, hb, hr, hml, hown, hts, hlocks, hK, hA, hSt, hnm, hex⟩ := id F
  intro  res hf H locs ls hP hD hS hl
  unfold x_K_digest at hf
  refine lv_aload_n hx hb d_K_digest_0 rfl (lv_at hl 0 rfl) ?_
  refine va_get (D := D) (ci := 0) (v := .ref o_ledger) (C := "CoinKeeper") (T := F_0) (N := 13) hx hb hts i_0 hown hK hP 0 rfl rfl 7 (by decide) (hts _ gw_507) (fun _ h9 => h9) rfl d_K_digest_1 ?_
  obtain ⟨v1, hc, hf⟩ := bdp1 hf
  refine q_al (wr := [(o, .inr (0, [v_a_row, .int i_rowLength, v_a_id, v_o_sha, r_signatures, v_o_machine, v_o_layout, .ref o_ledger, v_o_blocks, r_spent, v_o_tip, .int i_takenBytes, .int i_checkedTxs]))]) (va_runV (C := "CoinKeeper$Ledger") (As := []) (rest := []) ⟨hx, hb, hml, hown, hts⟩ (c_Le_sum l D cy ad fu o_ledger v_o_ledger_changes o_ledger_unspent i_ledger_unspent_size i_ledger_unspent_modCount _ hc H.size) ⟨q_cB hts gw_547 gw_9 gw_544 hdf_70 ⟨by decide, by decide⟩, hts _ gw_545, hts _ gw_546⟩ (q_preV (q_pre (hP.sub [1, 2] rfl) (hD.sub [1, 2] (by decide) rfl) hK hSt hS (va_free hD hS hA [1, 2] rfl) _) (va_recv hK (hP.sub [1, 2] rfl) (ci := 5) (q0 := 0) rfl rfl)) rfl rfl hl.1 rfl (lv_room (Nat.le_of_ble_eq_true rfl)) d_K_digest_4 ⟨Nat.le_of_ble_eq_true rfl, Nat.le_of_ble_eq_true rfl⟩) hP hD hS hA [1, 2] [0] rfl rfl (by decide) (by decide) (fun H locs hP hD hS => ?_)
  clear hc
  have hP : va_P D classes [(o, .inr (0, [v_a_row, .int i_rowLength, v_a_id, v_o_sha, r_signatures, v_o_machine, v_o_layout, .ref o_ledger, v_o_blocks, r_spent, v_o_tip, .int i_takenBytes, .int i_checkedTxs])), (o_ledger, .inr (5, [.ref o_ledger_unspent, v_o_ledger_changes])), (o_ledger_unspent, .inr (11, [.ref (ad 26), .int i_ledger_unspent_size, .int i_ledger_unspent_modCount]))] H := hP
  have hD : va_D A [(o, .inr (0, [v_a_row, .int i_rowLength, v_a_id, v_o_sha, r_signatures, v_o_machine, v_o_layout, .ref o_ledger, v_o_blocks, r_spent, v_o_tip, .int i_takenBytes, .int i_checkedTxs])), (o_ledger, .inr (5, [.ref o_ledger_unspent, v_o_ledger_changes])), (o_ledger_unspent, .inr (11, [.ref (ad 26), .int i_ledger_unspent_size, .int i_ledger_unspent_modCount]))] := hD
  obtain rfl := Option.some.inj hf
  exact q_rl hx hb hr hlocks hK hP hD hS d_K_digest_7
theorem c_K_digest (l : Launch) (D : va_G) (cy : Nat → ClassId) (ad : Nat → Nat) (fu : Nat) (o : Nat) (v_a_row : Value) (v_a_id : Value) (v_o_sha : Value) (r_signatures : Value) (v_o_machine : Value) (v_o_layout : Value) (v_o_blocks : Value) (r_spent : Value) (v_o_tip : Value) (o_ledger : Nat) (v_o_ledger_changes : Value) (o_ledger_unspent : Nat) (i_rowLength : Int32) (i_takenBytes : Int32) (i_checkedTxs : Int32) (i_ledger_unspent_size : Int32) (i_ledger_unspent_modCount : Int32) (res : Int64) (hf : x_K_digest fu i_rowLength i_takenBytes i_checkedTxs i_ledger_unspent_size i_ledger_unspent_modCount = some res) (sz : Nat) : Met l ({ cls := "CoinKeeper", name := "digest", desc := "()J" } : Jvm.MethodName) (.code ({ cls := "CoinKeeper", name := "digest", desc := "()J" } : Jvm.MethodName) b_K_digest 1 (some .long) :: gw) rm_K_digest (va_Pc [.ref o] (Pr D cy ad [(o, .inr (0, [v_a_row, .int i_rowLength, v_a_id, v_o_sha, r_signatures, v_o_machine, v_o_layout, .ref o_ledger, v_o_blocks, r_spent, v_o_tip, .int i_takenBytes, .int i_checkedTxs])), (o_ledger, .inr (5, [.ref o_ledger_unspent, v_o_ledger_changes])), (o_ledger_unspent, .inr (11, [.ref (ad 26), .int i_ledger_unspent_size, .int i_ledger_unspent_modCount]))] sz)) (q_K_digest D cy (va_A [(o, .inr (0, [v_a_row, .int i_rowLength, v_a_id, v_o_sha, r_signatures, v_o_machine, v_o_layout, .ref o_ledger, v_o_blocks, r_spent, v_o_tip, .int i_takenBytes, .int i_checkedTxs])), (o_ledger, .inr (5, [.ref o_ledger_unspent, v_o_ledger_changes])), (o_ledger_unspent, .inr (11, [.ref (ad 26), .int i_ledger_unspent_size, .int i_ledger_unspent_modCount]))] sz) ad o v_a_row v_a_id v_o_sha r_signatures v_o_machine v_o_layout v_o_blocks r_spent v_o_tip o_ledger v_o_ledger_changes o_ledger_unspent i_rowLength i_takenBytes i_checkedTxs i_ledger_unspent_size i_ledger_unspent_modCount res) 0 0 (va_A [(o, .inr (0, [v_a_row, .int i_rowLength, v_a_id, v_o_sha, r_signatures, v_o_machine, v_o_layout, .ref o_ledger, v_o_blocks, r_spent, v_o_tip, .int i_takenBytes, .int i_checkedTxs])), (o_ledger, .inr (5, [.ref o_ledger_unspent, v_o_ledger_changes])), (o_ledger_unspent, .inr (11, [.ref (ad 26), .int i_ledger_unspent_size, .int i_ledger_unspent_modCount]))] sz) :=
  q_met (Qc := fun A => q_K_digest D cy A ad o v_a_row v_a_id v_o_sha r_signatures v_o_machine v_o_layout v_o_blocks r_spent v_o_tip o_ledger v_o_ledger_changes o_ledger_unspent i_rowLength i_takenBytes i_checkedTxs i_ledger_unspent_size i_ledger_unspent_modCount res) (by decide) rfl rfl (Nat.le_of_ble_eq_true rfl) (fun p e s m below meth c ls F hP hD hS hl => we_K_digest (fu := fu) F  res hf _ _ _ hP hD hS hl) sz
def xt_K_feed_S (i_rowLength : Int32) (i_takenBytes : Int32) (i_checkedTxs : Int32) (a1 : Int32) (a2 : Int32) (a3 : Int32) (a4 : Int32) (a5 : Int32) : Option Unit :=
  bnd (i_rowLength + (20 : Int32)) fun v1 => if v1 ≤ (3000 : Int32) then (none) else (some ())
set_option maxRecDepth 100000 in
theorem t_K_feed_S (l : Launch) (hlt : ∀ e, l.admits e → e.platform.stackTraces = false) (D : va_G) (cy : Nat → ClassId) (ad : Nat → Nat) (o : Nat) (v_a_row : Value) (v_a_id : Value) (v_o_sha : Value) (r_signatures : Value) (v_o_machine : Value) (v_o_layout : Value) (v_o_ledger : Value) (v_o_blocks : Value) (r_spent : Value) (v_o_tip : Value) (i_rowLength : Int32) (i_takenBytes : Int32) (i_checkedTxs : Int32) (a1 : Int32) (a2 : Int32) (a3 : Int32) (a4 : Int32) (a5 : Int32) (hf : xt_K_feed_S i_rowLength i_takenBytes i_checkedTxs a1 a2 a3 a4 a5 = some ()) (sz : Nat) : MetT l ({ cls := "CoinKeeper", name := "feed", desc := "(IIIII)I" } : Jvm.MethodName) (.code ({ cls := "CoinKeeper", name := "feed", desc := "(IIIII)I" } : Jvm.MethodName) b_K_feed 6 (some .int) :: gw) rm_T (va_Pc [.ref o, .int a1, .int a2, .int a3, .int a4, .int a5] (PrT D cy ad [(o, .inr (0, [v_a_row, .int i_rowLength, v_a_id, v_o_sha, r_signatures, v_o_machine, v_o_layout, v_o_ledger, v_o_blocks, r_spent, v_o_tip, .int i_takenBytes, .int i_checkedTxs]))] sz)) "java/lang/IllegalStateException" := by
  refine q_metT (by decide) rfl rfl (Nat.le_of_ble_eq_true rfl) (fun p e s m below meth c ls F hT hP hD hS hl => ?_) sz
  obtain ⟨hx, hb, hr, hml, hown, hts, hlocks, hK, hA, hSt, hnm, hex⟩ := id F
  unfold xt_K_feed_S at hf
  refine lv_aload_n hx hb d_K_feed_0 rfl (lv_at hl 0 rfl) ?_
  refine va_get (D := D) (ci := 0) (v := .int i_rowLength) (C := "CoinKeeper") (T := F_0) (N := 13) hx hb hts i_0 hown hK hP 0 rfl rfl 1 (by decide) (hts _ gw_501) (fun _ h9 => h9) rfl d_K_feed_1 ?_
  refine lv_bipush (v := 20) hx hb d_K_feed_4 (by decide) ?_
  refine lv_iadd hx hb d_K_feed_6 ?_
  refine lv_topi (fun v1 ev => ?_)
  have hf := bn ev hf
  clear ev
  refine lv_sipush (v := 3000) hx hb d_K_feed_7 (by decide) ?_
  refine lv_icmp_le (tgt := 21) hx hb d_K_feed_10 (by decide) (fun cx => ?_) (fun cx => ?_)
  · have hf := ifp cx hf
    refine lv_aload_n hx hb d_K_feed_21 rfl (lv_at hl 0 rfl) ?_
    refine lv_iload_n hx hb d_K_feed_22 rfl (lv_at hl 1 rfl) ?_
    exact nomatch hf
  · have hf := ifn cx hf
    exact q_throw hlt hx hb hml hl.1 hlocks hown (by decide +kernel) (by decide +kernel) (ow_s hts hSt.2.1 hT) (hts _ gw_576) (hts _ gw_23) hex (Nat.le_of_ble_eq_true rfl) (Nat.le_of_ble_eq_true rfl) (by decide) (by decide) d_K_feed_13 d_K_feed_16 d_K_feed_17 d_K_feed_20
def xt_K_end_A (i_rowLength : Int32) (i_takenBytes : Int32) (i_checkedTxs : Int32) (a1 : Int32) : Option Unit :=
  if a1 < 0 then (some ()) else (if a1 ≤ i_rowLength then (none) else (some ()))
set_option maxRecDepth 100000 in
theorem t_K_end_A (l : Launch) (hlt : ∀ e, l.admits e → e.platform.stackTraces = false) (D : va_G) (cy : Nat → ClassId) (ad : Nat → Nat) (o : Nat) (v_a_row : Value) (v_a_id : Value) (v_o_sha : Value) (r_signatures : Value) (v_o_machine : Value) (v_o_layout : Value) (v_o_ledger : Value) (v_o_blocks : Value) (r_spent : Value) (v_o_tip : Value) (i_rowLength : Int32) (i_takenBytes : Int32) (i_checkedTxs : Int32) (a1 : Int32) (hf : xt_K_end_A i_rowLength i_takenBytes i_checkedTxs a1 = some ()) (sz : Nat) : MetT l ({ cls := "CoinKeeper", name := "end", desc := "(I)I" } : Jvm.MethodName) (.code ({ cls := "CoinKeeper", name := "end", desc := "(I)I" } : Jvm.MethodName) b_K_end 2 (some .int) :: gw) rm_T (va_Pc [.ref o, .int a1] (PrT D cy ad [(o, .inr (0, [v_a_row, .int i_rowLength, v_a_id, v_o_sha, r_signatures, v_o_machine, v_o_layout, v_o_ledger, v_o_blocks, r_spent, v_o_tip, .int i_takenBytes, .int i_checkedTxs]))] sz)) "java/lang/IllegalArgumentException" := by
  refine q_metT (by decide) rfl rfl (Nat.le_of_ble_eq_true rfl) (fun p e s m below meth c ls F hT hP hD hS hl => ?_) sz
  obtain ⟨hx, hb, hr, hml, hown, hts, hlocks, hK, hA, hSt, hnm, hex⟩ := id F
  unfold xt_K_end_A at hf
  refine lv_iload_n hx hb d_K_end_0 rfl (lv_at hl 1 rfl) ?_
  refine lv_if_lt (tgt := 12) hx hb d_K_end_1 (by decide) (fun cx => ?_) (fun cx => ?_)
  · have hf := ifp cx hf
    exact q_throw hlt hx hb hml hl.1 hlocks hown (by decide +kernel) (by decide +kernel) (ow_a hts hSt.2.1 hT) (hts _ gw_651) (hts _ gw_24) hex (Nat.le_of_ble_eq_true rfl) (Nat.le_of_ble_eq_true rfl) (by decide) (by decide) d_K_end_12 d_K_end_15 d_K_end_16 d_K_end_19
  · have hf := ifn cx hf
    refine lv_iload_n hx hb d_K_end_4 rfl (lv_at hl 1 rfl) ?_
    refine lv_aload_n hx hb d_K_end_5 rfl (lv_at hl 0 rfl) ?_
    refine va_get (D := D) (ci := 0) (v := .int i_rowLength) (C := "CoinKeeper") (T := F_0) (N := 13) hx hb hts i_0 hown hK hP 0 rfl rfl 1 (by decide) (hts _ gw_501) (fun _ h9 => h9) rfl d_K_end_6 ?_
    refine lv_icmp_le (tgt := 20) hx hb d_K_end_9 (by decide) (fun cx => ?_) (fun cx => ?_)
    · have hf := ifp cx hf
      refine lv_aload_n hx hb d_K_end_20 rfl (lv_at hl 0 rfl) ?_
      refine lv_iload_n hx hb d_K_end_21 rfl (lv_at hl 1 rfl) ?_
      exact nomatch hf
    · have hf := ifn cx hf
      exact q_throw hlt hx hb hml hl.1 hlocks hown (by decide +kernel) (by decide +kernel) (ow_a hts hSt.2.1 hT) (hts _ gw_651) (hts _ gw_24) hex (Nat.le_of_ble_eq_true rfl) (Nat.le_of_ble_eq_true rfl) (by decide) (by decide) d_K_end_12 d_K_end_15 d_K_end_16 d_K_end_19
def xt_K_script_A (i_rowLength : Int32) (i_takenBytes : Int32) (i_checkedTxs : Int32) (a1 : Int32) : Option Unit :=
  if a1 < 0 then (some ()) else (if i_rowLength < a1 then (some ()) else (if (1000 : Int32) < a1 then (some ()) else (bnd (i_rowLength - a1) fun v1 => if v1 ≤ (1000 : Int32) then (none) else (some ()))))
set_option maxRecDepth 100000 in
theorem t_K_script_A (l : Launch) (hlt : ∀ e, l.admits e → e.platform.stackTraces = false) (D : va_G) (cy : Nat → ClassId) (ad : Nat → Nat) (o : Nat) (v_a_row : Value) (v_a_id : Value) (v_o_sha : Value) (r_signatures : Value) (v_o_machine : Value) (v_o_layout : Value) (v_o_ledger : Value) (v_o_blocks : Value) (r_spent : Value) (v_o_tip : Value) (i_rowLength : Int32) (i_takenBytes : Int32) (i_checkedTxs : Int32) (a1 : Int32) (hf : xt_K_script_A i_rowLength i_takenBytes i_checkedTxs a1 = some ()) (sz : Nat) : MetT l ({ cls := "CoinKeeper", name := "script", desc := "(I)Z" } : Jvm.MethodName) (.code ({ cls := "CoinKeeper", name := "script", desc := "(I)Z" } : Jvm.MethodName) b_K_script 2 (some .boolean) :: gw) rm_T (va_Pc [.ref o, .int a1] (PrT D cy ad [(o, .inr (0, [v_a_row, .int i_rowLength, v_a_id, v_o_sha, r_signatures, v_o_machine, v_o_layout, v_o_ledger, v_o_blocks, r_spent, v_o_tip, .int i_takenBytes, .int i_checkedTxs]))] sz)) "java/lang/IllegalArgumentException" := by
  refine q_metT (by decide) rfl rfl (Nat.le_of_ble_eq_true rfl) (fun p e s m below meth c ls F hT hP hD hS hl => ?_) sz
  obtain ⟨hx, hb, hr, hml, hown, hts, hlocks, hK, hA, hSt, hnm, hex⟩ := id F
  unfold xt_K_script_A at hf
  refine lv_iload_n hx hb d_K_script_0 rfl (lv_at hl 1 rfl) ?_
  refine lv_if_lt (tgt := 31) hx hb d_K_script_1 (by decide) (fun cx => ?_) (fun cx => ?_)
  · have hf := ifp cx hf
    exact q_throw hlt hx hb hml hl.1 hlocks hown (by decide +kernel) (by decide +kernel) (ow_a hts hSt.2.1 hT) (hts _ gw_651) (hts _ gw_24) hex (Nat.le_of_ble_eq_true rfl) (Nat.le_of_ble_eq_true rfl) (by decide) (by decide) d_K_script_31 d_K_script_34 d_K_script_35 d_K_script_38
  · have hf := ifn cx hf
    refine lv_iload_n hx hb d_K_script_4 rfl (lv_at hl 1 rfl) ?_
    refine lv_aload_n hx hb d_K_script_5 rfl (lv_at hl 0 rfl) ?_
    refine va_get (D := D) (ci := 0) (v := .int i_rowLength) (C := "CoinKeeper") (T := F_0) (N := 13) hx hb hts i_0 hown hK hP 0 rfl rfl 1 (by decide) (hts _ gw_501) (fun _ h9 => h9) rfl d_K_script_6 ?_
    refine lv_icmp_gt (tgt := 31) hx hb d_K_script_9 (by decide) (fun cx => ?_) (fun cx => ?_)
    · have hf := ifp cx hf
      exact q_throw hlt hx hb hml hl.1 hlocks hown (by decide +kernel) (by decide +kernel) (ow_a hts hSt.2.1 hT) (hts _ gw_651) (hts _ gw_24) hex (Nat.le_of_ble_eq_true rfl) (Nat.le_of_ble_eq_true rfl) (by decide) (by decide) d_K_script_31 d_K_script_34 d_K_script_35 d_K_script_38
    · have hf := ifn cx hf
      refine lv_iload_n hx hb d_K_script_12 rfl (lv_at hl 1 rfl) ?_
      refine lv_sipush (v := 1000) hx hb d_K_script_13 (by decide) ?_
      refine lv_icmp_gt (tgt := 31) hx hb d_K_script_16 (by decide) (fun cx => ?_) (fun cx => ?_)
      · have hf := ifp cx hf
        exact q_throw hlt hx hb hml hl.1 hlocks hown (by decide +kernel) (by decide +kernel) (ow_a hts hSt.2.1 hT) (hts _ gw_651) (hts _ gw_24) hex (Nat.le_of_ble_eq_true rfl) (Nat.le_of_ble_eq_true rfl) (by decide) (by decide) d_K_script_31 d_K_script_34 d_K_script_35 d_K_script_38
      · have hf := ifn cx hf
        refine lv_aload_n hx hb d_K_script_19 rfl (lv_at hl 0 rfl) ?_
        refine va_get (D := D) (ci := 0) (v := .int i_rowLength) (C := "CoinKeeper") (T := F_0) (N := 13) hx hb hts i_0 hown hK hP 0 rfl rfl 1 (by decide) (hts _ gw_501) (fun _ h9 => h9) rfl d_K_script_20 ?_
        refine lv_iload_n hx hb d_K_script_23 rfl (lv_at hl 1 rfl) ?_
        refine lv_isub hx hb d_K_script_24 ?_
        refine lv_topi (fun v1 ev => ?_)
        have hf := bn ev hf
        clear ev
        refine lv_sipush (v := 1000) hx hb d_K_script_25 (by decide) ?_
        refine lv_icmp_le (tgt := 39) hx hb d_K_script_28 (by decide) (fun cx => ?_) (fun cx => ?_)
        · have hf := ifp cx hf
          refine lv_aload_n hx hb d_K_script_39 rfl (lv_at hl 0 rfl) ?_
          refine va_get (D := D) (ci := 0) (v := v_o_machine) (C := "CoinKeeper") (T := F_0) (N := 13) hx hb hts i_0 hown hK hP 0 rfl rfl 5 (by decide) (hts _ gw_505) (fun _ h9 => h9) rfl d_K_script_40 ?_
          refine lv_iconst (v := 0) hx hb d_K_script_43 (by decide) ?_
          refine lv_aload_n hx hb d_K_script_44 rfl (lv_at hl 0 rfl) ?_
          refine va_get (D := D) (ci := 0) (v := v_a_row) (C := "CoinKeeper") (T := F_0) (N := 13) hx hb hts i_0 hown hK hP 0 rfl rfl 0 (by decide) (hts _ gw_500) (fun _ h9 => h9) rfl d_K_script_45 ?_
          refine lv_iconst (v := 0) hx hb d_K_script_48 (by decide) ?_
          refine lv_iload_n hx hb d_K_script_49 rfl (lv_at hl 1 rfl) ?_
          exact nomatch hf
        · have hf := ifn cx hf
          exact q_throw hlt hx hb hml hl.1 hlocks hown (by decide +kernel) (by decide +kernel) (ow_a hts hSt.2.1 hT) (hts _ gw_651) (hts _ gw_24) hex (Nat.le_of_ble_eq_true rfl) (Nat.le_of_ble_eq_true rfl) (by decide) (by decide) d_K_script_31 d_K_script_34 d_K_script_35 d_K_script_38
def xt_K_hash_A (i_rowLength : Int32) (i_takenBytes : Int32) (i_checkedTxs : Int32) (a1 : Int32) : Option Unit :=
  if a1 < 0 then (some ()) else (if a1 ≤ (7 : Int32) then (none) else (some ()))
set_option maxRecDepth 100000 in
theorem t_K_hash_A (l : Launch) (hlt : ∀ e, l.admits e → e.platform.stackTraces = false) (D : va_G) (cy : Nat → ClassId) (ad : Nat → Nat) (o : Nat) (v_a_row : Value) (v_a_id : Value) (v_o_sha : Value) (r_signatures : Value) (v_o_machine : Value) (v_o_layout : Value) (v_o_ledger : Value) (v_o_blocks : Value) (r_spent : Value) (v_o_tip : Value) (i_rowLength : Int32) (i_takenBytes : Int32) (i_checkedTxs : Int32) (a1 : Int32) (hf : xt_K_hash_A i_rowLength i_takenBytes i_checkedTxs a1 = some ()) (sz : Nat) : MetT l ({ cls := "CoinKeeper", name := "hash", desc := "(I)I" } : Jvm.MethodName) (.code ({ cls := "CoinKeeper", name := "hash", desc := "(I)I" } : Jvm.MethodName) b_K_hash 2 (some .int) :: gw) rm_T (va_Pc [.ref o, .int a1] (PrT D cy ad [(o, .inr (0, [v_a_row, .int i_rowLength, v_a_id, v_o_sha, r_signatures, v_o_machine, v_o_layout, v_o_ledger, v_o_blocks, r_spent, v_o_tip, .int i_takenBytes, .int i_checkedTxs]))] sz)) "java/lang/IllegalArgumentException" := by
  refine q_metT (by decide) rfl rfl (Nat.le_of_ble_eq_true rfl) (fun p e s m below meth c ls F hT hP hD hS hl => ?_) sz
  obtain ⟨hx, hb, hr, hml, hown, hts, hlocks, hK, hA, hSt, hnm, hex⟩ := id F
  unfold xt_K_hash_A at hf
  refine lv_iload_n hx hb d_K_hash_0 rfl (lv_at hl 1 rfl) ?_
  refine lv_if_lt (tgt := 10) hx hb d_K_hash_1 (by decide) (fun cx => ?_) (fun cx => ?_)
  · have hf := ifp cx hf
    exact q_throw hlt hx hb hml hl.1 hlocks hown (by decide +kernel) (by decide +kernel) (ow_a hts hSt.2.1 hT) (hts _ gw_651) (hts _ gw_24) hex (Nat.le_of_ble_eq_true rfl) (Nat.le_of_ble_eq_true rfl) (by decide) (by decide) d_K_hash_10 d_K_hash_13 d_K_hash_14 d_K_hash_17
  · have hf := ifn cx hf
    refine lv_iload_n hx hb d_K_hash_4 rfl (lv_at hl 1 rfl) ?_
    refine lv_bipush (v := 7) hx hb d_K_hash_5 (by decide) ?_
    refine lv_icmp_le (tgt := 18) hx hb d_K_hash_7 (by decide) (fun cx => ?_) (fun cx => ?_)
    · have hf := ifp cx hf
      refine lv_aload_n hx hb d_K_hash_18 rfl (lv_at hl 0 rfl) ?_
      refine va_get (D := D) (ci := 0) (v := v_o_sha) (C := "CoinKeeper") (T := F_0) (N := 13) hx hb hts i_0 hown hK hP 0 rfl rfl 3 (by decide) (hts _ gw_503) (fun _ h9 => h9) rfl d_K_hash_19 ?_
      refine lv_aload_n hx hb d_K_hash_22 rfl (lv_at hl 0 rfl) ?_
      refine va_get (D := D) (ci := 0) (v := v_a_row) (C := "CoinKeeper") (T := F_0) (N := 13) hx hb hts i_0 hown hK hP 0 rfl rfl 0 (by decide) (hts _ gw_500) (fun _ h9 => h9) rfl d_K_hash_23 ?_
      refine lv_iconst (v := 0) hx hb d_K_hash_26 (by decide) ?_
      refine lv_aload_n hx hb d_K_hash_27 rfl (lv_at hl 0 rfl) ?_
      refine va_get (D := D) (ci := 0) (v := .int i_rowLength) (C := "CoinKeeper") (T := F_0) (N := 13) hx hb hts i_0 hown hK hP 0 rfl rfl 1 (by decide) (hts _ gw_501) (fun _ h9 => h9) rfl d_K_hash_28 ?_
      refine lv_aload_n hx hb d_K_hash_31 rfl (lv_at hl 0 rfl) ?_
      refine va_get (D := D) (ci := 0) (v := v_a_id) (C := "CoinKeeper") (T := F_0) (N := 13) hx hb hts i_0 hown hK hP 0 rfl rfl 2 (by decide) (hts _ gw_502) (fun _ h9 => h9) rfl d_K_hash_32 ?_
      refine lv_iconst (v := 0) hx hb d_K_hash_35 (by decide) ?_
      exact nomatch hf
    · have hf := ifn cx hf
      exact q_throw hlt hx hb hml hl.1 hlocks hown (by decide +kernel) (by decide +kernel) (ow_a hts hSt.2.1 hT) (hts _ gw_651) (hts _ gw_24) hex (Nat.le_of_ble_eq_true rfl) (Nat.le_of_ble_eq_true rfl) (by decide) (by decide) d_K_hash_10 d_K_hash_13 d_K_hash_14 d_K_hash_17
def xt_K_tip_A (i_rowLength : Int32) (i_takenBytes : Int32) (i_checkedTxs : Int32) (i_tip_height : Int32) (j_tip_time : Int64) (i_tip_bits : Int32) (j_tip_work : Int64) (i_tip_bad : Int32) (i_tip_valid : Int32) (i_tip_mark : Int32) (a1 : Int32) : Option Unit :=
  if a1 < 0 then (some ()) else (if a1 ≤ (11 : Int32) then (if (8 : Int32) ≤ a1 then (if a1 = (8 : Int32) then (none) else (if a1 = (9 : Int32) then (none) else (if a1 = (10 : Int32) then (none) else (none)))) else (none)) else (some ()))
set_option maxRecDepth 100000 in
theorem t_K_tip_A (l : Launch) (hlt : ∀ e, l.admits e → e.platform.stackTraces = false) (D : va_G) (cy : Nat → ClassId) (ad : Nat → Nat) (o : Nat) (v_a_row : Value) (v_a_id : Value) (v_o_sha : Value) (r_signatures : Value) (v_o_machine : Value) (v_o_layout : Value) (v_o_ledger : Value) (v_o_blocks : Value) (r_spent : Value) (o_tip : Nat) (r_tip_raw : Value) (v_a_tip_id : Value) (r_tip_ids : Value) (i_rowLength : Int32) (i_takenBytes : Int32) (i_checkedTxs : Int32) (i_tip_height : Int32) (j_tip_time : Int64) (i_tip_bits : Int32) (j_tip_work : Int64) (i_tip_bad : Int32) (i_tip_valid : Int32) (i_tip_mark : Int32) (a1 : Int32) (hf : xt_K_tip_A i_rowLength i_takenBytes i_checkedTxs i_tip_height j_tip_time i_tip_bits j_tip_work i_tip_bad i_tip_valid i_tip_mark a1 = some ()) (sz : Nat) : MetT l ({ cls := "CoinKeeper", name := "tip", desc := "(I)I" } : Jvm.MethodName) (.code ({ cls := "CoinKeeper", name := "tip", desc := "(I)I" } : Jvm.MethodName) b_K_tip 2 (some .int) :: gw) rm_T (va_Pc [.ref o, .int a1] (PrT D cy ad [(o, .inr (0, [v_a_row, .int i_rowLength, v_a_id, v_o_sha, r_signatures, v_o_machine, v_o_layout, v_o_ledger, v_o_blocks, r_spent, .ref o_tip, .int i_takenBytes, .int i_checkedTxs])), (o_tip, .inr (1, [.null, r_tip_raw, v_a_tip_id, r_tip_ids, .int i_tip_height, .long j_tip_time, .int i_tip_bits, .long j_tip_work, .null, .int i_tip_bad, .int i_tip_valid, .int i_tip_mark]))] sz)) "java/lang/IllegalArgumentException" := by
  refine q_metT (by decide) rfl rfl (Nat.le_of_ble_eq_true rfl) (fun p e s m below meth c ls F hT hP hD hS hl => ?_) sz
  obtain ⟨hx, hb, hr, hml, hown, hts, hlocks, hK, hA, hSt, hnm, hex⟩ := id F
  unfold xt_K_tip_A at hf
  refine lv_iload_n hx hb d_K_tip_0 rfl (lv_at hl 1 rfl) ?_
  refine lv_if_lt (tgt := 10) hx hb d_K_tip_1 (by decide) (fun cx => ?_) (fun cx => ?_)
  · have hf := ifp cx hf
    exact q_throw hlt hx hb hml hl.1 hlocks hown (by decide +kernel) (by decide +kernel) (ow_a hts hSt.2.1 hT) (hts _ gw_651) (hts _ gw_24) hex (Nat.le_of_ble_eq_true rfl) (Nat.le_of_ble_eq_true rfl) (by decide) (by decide) d_K_tip_10 d_K_tip_13 d_K_tip_14 d_K_tip_17
  · have hf := ifn cx hf
    refine lv_iload_n hx hb d_K_tip_4 rfl (lv_at hl 1 rfl) ?_
    refine lv_bipush (v := 11) hx hb d_K_tip_5 (by decide) ?_
    refine lv_icmp_le (tgt := 18) hx hb d_K_tip_7 (by decide) (fun cx => ?_) (fun cx => ?_)
    · have hf := ifp cx hf
      refine lv_iload_n hx hb d_K_tip_18 rfl (lv_at hl 1 rfl) ?_
      refine lv_bipush (v := 8) hx hb d_K_tip_19 (by decide) ?_
      refine lv_icmp_ge (tgt := 38) hx hb d_K_tip_21 (by decide) (fun cx => ?_) (fun cx => ?_)
      · have hf := ifp cx hf
        refine lv_iload_n hx hb d_K_tip_38 rfl (lv_at hl 1 rfl) ?_
        refine lv_bipush (v := 8) hx hb d_K_tip_39 (by decide) ?_
        refine lv_icmp_ne (tgt := 52) hx hb d_K_tip_41 (by decide) (fun cx => ?_) (fun cx => ?_)
        · have hf := ifn cx hf
          refine lv_iload_n hx hb d_K_tip_52 rfl (lv_at hl 1 rfl) ?_
          refine lv_bipush (v := 9) hx hb d_K_tip_53 (by decide) ?_
          refine lv_icmp_ne (tgt := 67) hx hb d_K_tip_55 (by decide) (fun cx => ?_) (fun cx => ?_)
          · have hf := ifn cx hf
            refine lv_iload_n hx hb d_K_tip_67 rfl (lv_at hl 1 rfl) ?_
            refine lv_bipush (v := 10) hx hb d_K_tip_68 (by decide) ?_
            refine lv_icmp_ne (tgt := 83) hx hb d_K_tip_70 (by decide) (fun cx => ?_) (fun cx => ?_)
            · have hf := ifn cx hf
              refine lv_aload_n hx hb d_K_tip_83 rfl (lv_at hl 0 rfl) ?_
              refine va_get (D := D) (ci := 0) (v := .ref o_tip) (C := "CoinKeeper") (T := F_0) (N := 13) hx hb hts i_0 hown hK hP 0 rfl rfl 10 (by decide) (hts _ gw_510) (fun _ h9 => h9) rfl d_K_tip_84 ?_
              exact nomatch hf
            · have hf := ifp cx hf
              refine lv_aload_n hx hb d_K_tip_73 rfl (lv_at hl 0 rfl) ?_
              refine va_get (D := D) (ci := 0) (v := .ref o_tip) (C := "CoinKeeper") (T := F_0) (N := 13) hx hb hts i_0 hown hK hP 0 rfl rfl 10 (by decide) (hts _ gw_510) (fun _ h9 => h9) rfl d_K_tip_74 ?_
              refine va_get (D := D) (ci := 1) (v := .int i_tip_bits) (C := "CoinKeeper$Block") (T := F_1) (N := 12) hx hb hts i_1 hown hK hP 1 rfl rfl 6 (by decide) (hts _ gw_405) (fun _ h9 => h9) rfl d_K_tip_77 ?_
              refine lv_goto (tgt := 90) hx hb d_K_tip_80 (by decide) ?_
              exact nomatch hf
          · have hf := ifp cx hf
            refine lv_aload_n hx hb d_K_tip_58 rfl (lv_at hl 0 rfl) ?_
            refine va_get (D := D) (ci := 0) (v := .ref o_tip) (C := "CoinKeeper") (T := F_0) (N := 13) hx hb hts i_0 hown hK hP 0 rfl rfl 10 (by decide) (hts _ gw_510) (fun _ h9 => h9) rfl d_K_tip_59 ?_
            refine va_get (D := D) (ci := 1) (v := .long j_tip_time) (C := "CoinKeeper$Block") (T := F_1) (N := 12) hx hb hts i_1 hown hK hP 1 rfl rfl 5 (by decide) (hts _ gw_403) (fun _ h9 => h9) rfl d_K_tip_62 ?_
            refine lv_l2i hx hb d_K_tip_65 rfl ?_
            exact nomatch hf
        · have hf := ifp cx hf
          refine lv_aload_n hx hb d_K_tip_44 rfl (lv_at hl 0 rfl) ?_
          refine va_get (D := D) (ci := 0) (v := .ref o_tip) (C := "CoinKeeper") (T := F_0) (N := 13) hx hb hts i_0 hown hK hP 0 rfl rfl 10 (by decide) (hts _ gw_510) (fun _ h9 => h9) rfl d_K_tip_45 ?_
          refine va_get (D := D) (ci := 1) (v := .int i_tip_height) (C := "CoinKeeper$Block") (T := F_1) (N := 12) hx hb hts i_1 hown hK hP 1 rfl rfl 4 (by decide) (hts _ gw_401) (fun _ h9 => h9) rfl d_K_tip_48 ?_
          exact nomatch hf
      · have hf := ifn cx hf
        refine lv_aload_n hx hb d_K_tip_24 rfl (lv_at hl 0 rfl) ?_
        refine va_get (D := D) (ci := 0) (v := .ref o_tip) (C := "CoinKeeper") (T := F_0) (N := 13) hx hb hts i_0 hown hK hP 0 rfl rfl 10 (by decide) (hts _ gw_510) (fun _ h9 => h9) rfl d_K_tip_25 ?_
        refine va_get (D := D) (ci := 1) (v := v_a_tip_id) (C := "CoinKeeper$Block") (T := F_1) (N := 12) hx hb hts i_1 hown hK hP 1 rfl rfl 2 (by decide) (hts _ gw_396) (fun _ h9 => h9) rfl d_K_tip_28 ?_
        refine lv_iconst (v := 4) hx hb d_K_tip_31 (by decide) ?_
        refine lv_iload_n hx hb d_K_tip_32 rfl (lv_at hl 1 rfl) ?_
        refine lv_imul hx hb d_K_tip_33 ?_
        exact nomatch hf
    · have hf := ifn cx hf
      exact q_throw hlt hx hb hml hl.1 hlocks hown (by decide +kernel) (by decide +kernel) (ow_a hts hSt.2.1 hT) (hts _ gw_651) (hts _ gw_24) hex (Nat.le_of_ble_eq_true rfl) (Nat.le_of_ble_eq_true rfl) (by decide) (by decide) d_K_tip_10 d_K_tip_13 d_K_tip_14 d_K_tip_17
abbrev b_K_unspent : ByteArray := prog_1_method_8_code
theorem d_K_unspent_0 : decode b_K_unspent 0 = .ok (.aload_n 0, 1) := by decide +kernel
theorem d_K_unspent_1 : decode b_K_unspent 1 = .ok (.getfield 79, 3) := by decide +kernel
theorem d_K_unspent_4 : decode b_K_unspent 4 = .ok (.bipush 32, 2) := by decide +kernel
theorem d_K_unspent_6 : decode b_K_unspent 6 = .ok (.if_icmp .eq 11, 3) := by decide +kernel
theorem d_K_unspent_9 : decode b_K_unspent 9 = .ok (.new 90, 3) := by decide +kernel
theorem d_K_unspent_12 : decode b_K_unspent 12 = .ok (.dup, 1) := by decide +kernel
theorem d_K_unspent_13 : decode b_K_unspent 13 = .ok (.invokespecial 92, 3) := by decide +kernel
theorem d_K_unspent_16 : decode b_K_unspent 16 = .ok (.athrow, 1) := by decide +kernel
theorem d_K_unspent_17 : decode b_K_unspent 17 = .ok (.aload_n 0, 1) := by decide +kernel
theorem d_K_unspent_18 : decode b_K_unspent 18 = .ok (.getfield 49, 3) := by decide +kernel
theorem d_K_unspent_21 : decode b_K_unspent 21 = .ok (.aload_n 0, 1) := by decide +kernel
theorem d_K_unspent_22 : decode b_K_unspent 22 = .ok (.getfield 9, 3) := by decide +kernel
theorem d_K_unspent_25 : decode b_K_unspent 25 = .ok (.iconst 0, 1) := by decide +kernel
theorem d_K_unspent_26 : decode b_K_unspent 26 = .ok (.iload_n 1, 1) := by decide +kernel
theorem d_K_unspent_27 : decode b_K_unspent 27 = .ok (.invokevirtual 180, 3) := by decide +kernel
theorem d_K_unspent_30 : decode b_K_unspent 30 = .ok (.astore_n 2, 1) := by decide +kernel
theorem d_K_unspent_31 : decode b_K_unspent 31 = .ok (.aload_n 2, 1) := by decide +kernel
theorem d_K_unspent_32 : decode b_K_unspent 32 = .ok (.ifnonnull 11, 3) := by decide +kernel
theorem d_K_unspent_35 : decode b_K_unspent 35 = .ok (.new 184, 3) := by decide +kernel
theorem d_K_unspent_38 : decode b_K_unspent 38 = .ok (.dup, 1) := by decide +kernel
theorem d_K_unspent_39 : decode b_K_unspent 39 = .ok (.invokespecial 186, 3) := by decide +kernel
theorem d_K_unspent_42 : decode b_K_unspent 42 = .ok (.athrow, 1) := by decide +kernel
theorem d_K_unspent_43 : decode b_K_unspent 43 = .ok (.aload_n 2, 1) := by decide +kernel
theorem d_K_unspent_44 : decode b_K_unspent 44 = .ok (.getfield 187, 3) := by decide +kernel
theorem d_K_unspent_47 : decode b_K_unspent 47 = .ok (.lreturn, 1) := by decide +kernel
def xt_K_unspent_A (i_rowLength : Int32) (i_takenBytes : Int32) (i_checkedTxs : Int32) (a1 : Int32) : Option Unit :=
  if i_rowLength = (32 : Int32) then (none) else (some ())
set_option maxRecDepth 100000 in
theorem t_K_unspent_A (l : Launch) (hlt : ∀ e, l.admits e → e.platform.stackTraces = false) (D : va_G) (cy : Nat → ClassId) (ad : Nat → Nat) (o : Nat) (v_a_row : Value) (v_a_id : Value) (v_o_sha : Value) (r_signatures : Value) (v_o_machine : Value) (v_o_layout : Value) (v_o_ledger : Value) (v_o_blocks : Value) (r_spent : Value) (v_o_tip : Value) (i_rowLength : Int32) (i_takenBytes : Int32) (i_checkedTxs : Int32) (a1 : Int32) (hf : xt_K_unspent_A i_rowLength i_takenBytes i_checkedTxs a1 = some ()) (sz : Nat) : MetT l ({ cls := "CoinKeeper", name := "unspent", desc := "(I)J" } : Jvm.MethodName) (.code ({ cls := "CoinKeeper", name := "unspent", desc := "(I)J" } : Jvm.MethodName) b_K_unspent 3 (some .long) :: gw) rm_T (va_Pc [.ref o, .int a1] (PrT D cy ad [(o, .inr (0, [v_a_row, .int i_rowLength, v_a_id, v_o_sha, r_signatures, v_o_machine, v_o_layout, v_o_ledger, v_o_blocks, r_spent, v_o_tip, .int i_takenBytes, .int i_checkedTxs]))] sz)) "java/lang/IllegalArgumentException" := by
  refine q_metT (by decide) rfl rfl (Nat.le_of_ble_eq_true rfl) (fun p e s m below meth c ls F hT hP hD hS hl => ?_) sz
  obtain ⟨hx, hb, hr, hml, hown, hts, hlocks, hK, hA, hSt, hnm, hex⟩ := id F
  unfold xt_K_unspent_A at hf
  refine lv_aload_n hx hb d_K_unspent_0 rfl (lv_at hl 0 rfl) ?_
  refine va_get (D := D) (ci := 0) (v := .int i_rowLength) (C := "CoinKeeper") (T := F_0) (N := 13) hx hb hts i_0 hown hK hP 0 rfl rfl 1 (by decide) (hts _ gw_501) (fun _ h9 => h9) rfl d_K_unspent_1 ?_
  refine lv_bipush (v := 32) hx hb d_K_unspent_4 (by decide) ?_
  refine lv_icmp_eq (tgt := 17) hx hb d_K_unspent_6 (by decide) (fun cx => ?_) (fun cx => ?_)
  · have hf := ifp cx hf
    refine lv_aload_n hx hb d_K_unspent_17 rfl (lv_at hl 0 rfl) ?_
    refine va_get (D := D) (ci := 0) (v := v_o_ledger) (C := "CoinKeeper") (T := F_0) (N := 13) hx hb hts i_0 hown hK hP 0 rfl rfl 7 (by decide) (hts _ gw_507) (fun _ h9 => h9) rfl d_K_unspent_18 ?_
    refine lv_aload_n hx hb d_K_unspent_21 rfl (lv_at hl 0 rfl) ?_
    refine va_get (D := D) (ci := 0) (v := v_a_row) (C := "CoinKeeper") (T := F_0) (N := 13) hx hb hts i_0 hown hK hP 0 rfl rfl 0 (by decide) (hts _ gw_500) (fun _ h9 => h9) rfl d_K_unspent_22 ?_
    refine lv_iconst (v := 0) hx hb d_K_unspent_25 (by decide) ?_
    refine lv_iload_n hx hb d_K_unspent_26 rfl (lv_at hl 1 rfl) ?_
    exact nomatch hf
  · have hf := ifn cx hf
    exact q_throw hlt hx hb hml hl.1 hlocks hown (by decide +kernel) (by decide +kernel) (ow_a hts hSt.2.1 hT) (hts _ gw_651) (hts _ gw_24) hex (Nat.le_of_ble_eq_true rfl) (Nat.le_of_ble_eq_true rfl) (by decide) (by decide) d_K_unspent_9 d_K_unspent_12 d_K_unspent_13 d_K_unspent_16
def xt_K_count_A (i_rowLength : Int32) (i_takenBytes : Int32) (i_checkedTxs : Int32) (i_tip_height : Int32) (j_tip_time : Int64) (i_tip_bits : Int32) (j_tip_work : Int64) (i_tip_bad : Int32) (i_tip_valid : Int32) (i_tip_mark : Int32) (a1 : Int32) : Option Unit :=
  if a1 < 0 then (some ()) else (if a1 ≤ (5 : Int32) then (if a1 = 0 then (none) else (if a1 = (1 : Int32) then (none) else (if a1 = (2 : Int32) then (none) else (if a1 = (3 : Int32) then (none) else (if a1 = (4 : Int32) then (none) else (none)))))) else (some ()))
set_option maxRecDepth 100000 in
theorem t_K_count_A (l : Launch) (hlt : ∀ e, l.admits e → e.platform.stackTraces = false) (D : va_G) (cy : Nat → ClassId) (ad : Nat → Nat) (o : Nat) (v_a_row : Value) (v_a_id : Value) (v_o_sha : Value) (r_signatures : Value) (v_o_machine : Value) (v_o_layout : Value) (v_o_ledger : Value) (v_o_blocks : Value) (r_spent : Value) (o_tip : Nat) (r_tip_raw : Value) (v_a_tip_id : Value) (r_tip_ids : Value) (i_rowLength : Int32) (i_takenBytes : Int32) (i_checkedTxs : Int32) (i_tip_height : Int32) (j_tip_time : Int64) (i_tip_bits : Int32) (j_tip_work : Int64) (i_tip_bad : Int32) (i_tip_valid : Int32) (i_tip_mark : Int32) (a1 : Int32) (hf : xt_K_count_A i_rowLength i_takenBytes i_checkedTxs i_tip_height j_tip_time i_tip_bits j_tip_work i_tip_bad i_tip_valid i_tip_mark a1 = some ()) (sz : Nat) : MetT l ({ cls := "CoinKeeper", name := "count", desc := "(I)J" } : Jvm.MethodName) (.code ({ cls := "CoinKeeper", name := "count", desc := "(I)J" } : Jvm.MethodName) b_K_count 2 (some .long) :: gw) rm_T (va_Pc [.ref o, .int a1] (PrT D cy ad [(o, .inr (0, [v_a_row, .int i_rowLength, v_a_id, v_o_sha, r_signatures, v_o_machine, v_o_layout, v_o_ledger, v_o_blocks, r_spent, .ref o_tip, .int i_takenBytes, .int i_checkedTxs])), (o_tip, .inr (1, [.null, r_tip_raw, v_a_tip_id, r_tip_ids, .int i_tip_height, .long j_tip_time, .int i_tip_bits, .long j_tip_work, .null, .int i_tip_bad, .int i_tip_valid, .int i_tip_mark]))] sz)) "java/lang/IllegalArgumentException" := by
  refine q_metT (by decide) rfl rfl (Nat.le_of_ble_eq_true rfl) (fun p e s m below meth c ls F hT hP hD hS hl => ?_) sz
  obtain ⟨hx, hb, hr, hml, hown, hts, hlocks, hK, hA, hSt, hnm, hex⟩ := id F
  unfold xt_K_count_A at hf
  refine lv_iload_n hx hb d_K_count_0 rfl (lv_at hl 1 rfl) ?_
  refine lv_if_lt (tgt := 9) hx hb d_K_count_1 (by decide) (fun cx => ?_) (fun cx => ?_)
  · have hf := ifp cx hf
    exact q_throw hlt hx hb hml hl.1 hlocks hown (by decide +kernel) (by decide +kernel) (ow_a hts hSt.2.1 hT) (hts _ gw_651) (hts _ gw_24) hex (Nat.le_of_ble_eq_true rfl) (Nat.le_of_ble_eq_true rfl) (by decide) (by decide) d_K_count_9 d_K_count_12 d_K_count_13 d_K_count_16
  · have hf := ifn cx hf
    refine lv_iload_n hx hb d_K_count_4 rfl (lv_at hl 1 rfl) ?_
    refine lv_iconst (v := 5) hx hb d_K_count_5 (by decide) ?_
    refine lv_icmp_le (tgt := 17) hx hb d_K_count_6 (by decide) (fun cx => ?_) (fun cx => ?_)
    · have hf := ifp cx hf
      refine lv_iload_n hx hb d_K_count_17 rfl (lv_at hl 1 rfl) ?_
      refine lv_if_ne (tgt := 32) hx hb d_K_count_18 (by decide) (fun cx => ?_) (fun cx => ?_)
      · have hf := ifn cx hf
        refine lv_iload_n hx hb d_K_count_32 rfl (lv_at hl 1 rfl) ?_
        refine lv_iconst (v := 1) hx hb d_K_count_33 (by decide) ?_
        refine lv_icmp_ne (tgt := 43) hx hb d_K_count_34 (by decide) (fun cx => ?_) (fun cx => ?_)
        · have hf := ifn cx hf
          refine lv_iload_n hx hb d_K_count_43 rfl (lv_at hl 1 rfl) ?_
          refine lv_iconst (v := 2) hx hb d_K_count_44 (by decide) ?_
          refine lv_icmp_ne (tgt := 57) hx hb d_K_count_45 (by decide) (fun cx => ?_) (fun cx => ?_)
          · have hf := ifn cx hf
            refine lv_iload_n hx hb d_K_count_57 rfl (lv_at hl 1 rfl) ?_
            refine lv_iconst (v := 3) hx hb d_K_count_58 (by decide) ?_
            refine lv_icmp_ne (tgt := 70) hx hb d_K_count_59 (by decide) (fun cx => ?_) (fun cx => ?_)
            · have hf := ifn cx hf
              refine lv_iload_n hx hb d_K_count_70 rfl (lv_at hl 1 rfl) ?_
              refine lv_iconst (v := 4) hx hb d_K_count_71 (by decide) ?_
              refine lv_icmp_ne (tgt := 85) hx hb d_K_count_72 (by decide) (fun cx => ?_) (fun cx => ?_)
              · have hf := ifn cx hf
                refine lv_aload_n hx hb d_K_count_85 rfl (lv_at hl 0 rfl) ?_
                refine va_get (D := D) (ci := 0) (v := .int i_rowLength) (C := "CoinKeeper") (T := F_0) (N := 13) hx hb hts i_0 hown hK hP 0 rfl rfl 1 (by decide) (hts _ gw_501) (fun _ h9 => h9) rfl d_K_count_86 ?_
                refine lv_i2l hx hb d_K_count_89 rfl ?_
                exact nomatch hf
              · have hf := ifp cx hf
                refine lv_aload_n hx hb d_K_count_75 rfl (lv_at hl 0 rfl) ?_
                refine va_get (D := D) (ci := 0) (v := .ref o_tip) (C := "CoinKeeper") (T := F_0) (N := 13) hx hb hts i_0 hown hK hP 0 rfl rfl 10 (by decide) (hts _ gw_510) (fun _ h9 => h9) rfl d_K_count_76 ?_
                refine va_get (D := D) (ci := 1) (v := .long j_tip_work) (C := "CoinKeeper$Block") (T := F_1) (N := 12) hx hb hts i_1 hown hK hP 1 rfl rfl 7 (by decide) (hts _ gw_407) (fun _ h9 => h9) rfl d_K_count_79 ?_
                refine lv_goto (tgt := 90) hx hb d_K_count_82 (by decide) ?_
                exact nomatch hf
            · have hf := ifp cx hf
              refine lv_aload_n hx hb d_K_count_62 rfl (lv_at hl 0 rfl) ?_
              refine va_get (D := D) (ci := 0) (v := v_o_ledger) (C := "CoinKeeper") (T := F_0) (N := 13) hx hb hts i_0 hown hK hP 0 rfl rfl 7 (by decide) (hts _ gw_507) (fun _ h9 => h9) rfl d_K_count_63 ?_
              exact nomatch hf
          · have hf := ifp cx hf
            refine lv_aload_n hx hb d_K_count_48 rfl (lv_at hl 0 rfl) ?_
            refine va_get (D := D) (ci := 0) (v := v_o_ledger) (C := "CoinKeeper") (T := F_0) (N := 13) hx hb hts i_0 hown hK hP 0 rfl rfl 7 (by decide) (hts _ gw_507) (fun _ h9 => h9) rfl d_K_count_49 ?_
            exact nomatch hf
        · have hf := ifp cx hf
          refine lv_aload_n hx hb d_K_count_37 rfl (lv_at hl 0 rfl) ?_
          exact nomatch hf
      · have hf := ifp cx hf
        refine lv_aload_n hx hb d_K_count_21 rfl (lv_at hl 0 rfl) ?_
        refine va_get (D := D) (ci := 0) (v := v_o_blocks) (C := "CoinKeeper") (T := F_0) (N := 13) hx hb hts i_0 hown hK hP 0 rfl rfl 8 (by decide) (hts _ gw_508) (fun _ h9 => h9) rfl d_K_count_22 ?_
        exact nomatch hf
    · have hf := ifn cx hf
      exact q_throw hlt hx hb hml hl.1 hlocks hown (by decide +kernel) (by decide +kernel) (ow_a hts hSt.2.1 hT) (hts _ gw_651) (hts _ gw_24) hex (Nat.le_of_ble_eq_true rfl) (Nat.le_of_ble_eq_true rfl) (by decide) (by decide) d_K_count_9 d_K_count_12 d_K_count_13 d_K_count_16
abbrev b_K_signed : ByteArray := prog_1_method_11_code
theorem d_K_signed_0 : decode b_K_signed 0 = .ok (.iload_n 1, 1) := by decide +kernel
theorem d_K_signed_1 : decode b_K_signed 1 = .ok (.ifCond .lt 36, 3) := by decide +kernel
theorem d_K_signed_4 : decode b_K_signed 4 = .ok (.iload_n 1, 1) := by decide +kernel
theorem d_K_signed_5 : decode b_K_signed 5 = .ok (.bipush 100, 2) := by decide +kernel
theorem d_K_signed_7 : decode b_K_signed 7 = .ok (.if_icmp .gt 30, 3) := by decide +kernel
theorem d_K_signed_10 : decode b_K_signed 10 = .ok (.aload_n 0, 1) := by decide +kernel
theorem d_K_signed_11 : decode b_K_signed 11 = .ok (.getfield 79, 3) := by decide +kernel
theorem d_K_signed_14 : decode b_K_signed 14 = .ok (.bipush 32, 2) := by decide +kernel
theorem d_K_signed_16 : decode b_K_signed 16 = .ok (.iload_n 1, 1) := by decide +kernel
theorem d_K_signed_17 : decode b_K_signed 17 = .ok (.iadd, 1) := by decide +kernel
theorem d_K_signed_18 : decode b_K_signed 18 = .ok (.iconst 1, 1) := by decide +kernel
theorem d_K_signed_19 : decode b_K_signed 19 = .ok (.iadd, 1) := by decide +kernel
theorem d_K_signed_20 : decode b_K_signed 20 = .ok (.if_icmp .lt 17, 3) := by decide +kernel
theorem d_K_signed_23 : decode b_K_signed 23 = .ok (.aload_n 0, 1) := by decide +kernel
theorem d_K_signed_24 : decode b_K_signed 24 = .ok (.getfield 79, 3) := by decide +kernel
theorem d_K_signed_27 : decode b_K_signed 27 = .ok (.bipush 32, 2) := by decide +kernel
theorem d_K_signed_29 : decode b_K_signed 29 = .ok (.iload_n 1, 1) := by decide +kernel
theorem d_K_signed_30 : decode b_K_signed 30 = .ok (.iadd, 1) := by decide +kernel
theorem d_K_signed_31 : decode b_K_signed 31 = .ok (.bipush 80, 2) := by decide +kernel
theorem d_K_signed_33 : decode b_K_signed 33 = .ok (.iadd, 1) := by decide +kernel
theorem d_K_signed_34 : decode b_K_signed 34 = .ok (.if_icmp .le 11, 3) := by decide +kernel
theorem d_K_signed_37 : decode b_K_signed 37 = .ok (.new 90, 3) := by decide +kernel
theorem d_K_signed_40 : decode b_K_signed 40 = .ok (.dup, 1) := by decide +kernel
theorem d_K_signed_41 : decode b_K_signed 41 = .ok (.invokespecial 92, 3) := by decide +kernel
theorem d_K_signed_44 : decode b_K_signed 44 = .ok (.athrow, 1) := by decide +kernel
theorem d_K_signed_45 : decode b_K_signed 45 = .ok (.aload_n 0, 1) := by decide +kernel
theorem d_K_signed_46 : decode b_K_signed 46 = .ok (.getfield 26, 3) := by decide +kernel
theorem d_K_signed_49 : decode b_K_signed 49 = .ok (.aload_n 0, 1) := by decide +kernel
theorem d_K_signed_50 : decode b_K_signed 50 = .ok (.getfield 9, 3) := by decide +kernel
theorem d_K_signed_53 : decode b_K_signed 53 = .ok (.iconst 0, 1) := by decide +kernel
theorem d_K_signed_54 : decode b_K_signed 54 = .ok (.bipush 32, 2) := by decide +kernel
theorem d_K_signed_56 : decode b_K_signed 56 = .ok (.iload_n 1, 1) := by decide +kernel
theorem d_K_signed_57 : decode b_K_signed 57 = .ok (.bipush 32, 2) := by decide +kernel
theorem d_K_signed_59 : decode b_K_signed 59 = .ok (.iload_n 1, 1) := by decide +kernel
theorem d_K_signed_60 : decode b_K_signed 60 = .ok (.iadd, 1) := by decide +kernel
theorem d_K_signed_61 : decode b_K_signed 61 = .ok (.aload_n 0, 1) := by decide +kernel
theorem d_K_signed_62 : decode b_K_signed 62 = .ok (.getfield 79, 3) := by decide +kernel
theorem d_K_signed_65 : decode b_K_signed 65 = .ok (.bipush 32, 2) := by decide +kernel
theorem d_K_signed_67 : decode b_K_signed 67 = .ok (.isub, 1) := by decide +kernel
theorem d_K_signed_68 : decode b_K_signed 68 = .ok (.iload_n 1, 1) := by decide +kernel
theorem d_K_signed_69 : decode b_K_signed 69 = .ok (.isub, 1) := by decide +kernel
theorem d_K_signed_70 : decode b_K_signed 70 = .ok (.invokevirtual 201, 3) := by decide +kernel
theorem d_K_signed_73 : decode b_K_signed 73 = .ok (.ireturn, 1) := by decide +kernel
def xt_K_signed_A (i_rowLength : Int32) (i_takenBytes : Int32) (i_checkedTxs : Int32) (a1 : Int32) : Option Unit :=
  if a1 < 0 then (some ()) else (if (100 : Int32) < a1 then (some ()) else (bnd ((32 : Int32) + a1) fun v1 => if i_rowLength < (v1 + (1 : Int32)) then (some ()) else (bnd ((32 : Int32) + a1) fun v2 => if i_rowLength ≤ (v2 + (80 : Int32)) then (bnd ((32 : Int32) + a1) fun v3 => bnd (i_rowLength - (32 : Int32)) fun v4 => none) else (some ()))))
set_option maxRecDepth 100000 in
theorem t_K_signed_A (l : Launch) (hlt : ∀ e, l.admits e → e.platform.stackTraces = false) (D : va_G) (cy : Nat → ClassId) (ad : Nat → Nat) (o : Nat) (v_a_row : Value) (v_a_id : Value) (v_o_sha : Value) (r_signatures : Value) (v_o_machine : Value) (v_o_layout : Value) (v_o_ledger : Value) (v_o_blocks : Value) (r_spent : Value) (v_o_tip : Value) (i_rowLength : Int32) (i_takenBytes : Int32) (i_checkedTxs : Int32) (a1 : Int32) (hf : xt_K_signed_A i_rowLength i_takenBytes i_checkedTxs a1 = some ()) (sz : Nat) : MetT l ({ cls := "CoinKeeper", name := "signed", desc := "(I)Z" } : Jvm.MethodName) (.code ({ cls := "CoinKeeper", name := "signed", desc := "(I)Z" } : Jvm.MethodName) b_K_signed 2 (some .boolean) :: gw) rm_T (va_Pc [.ref o, .int a1] (PrT D cy ad [(o, .inr (0, [v_a_row, .int i_rowLength, v_a_id, v_o_sha, r_signatures, v_o_machine, v_o_layout, v_o_ledger, v_o_blocks, r_spent, v_o_tip, .int i_takenBytes, .int i_checkedTxs]))] sz)) "java/lang/IllegalArgumentException" := by
  refine q_metT (by decide) rfl rfl (Nat.le_of_ble_eq_true rfl) (fun p e s m below meth c ls F hT hP hD hS hl => ?_) sz
  obtain ⟨hx, hb, hr, hml, hown, hts, hlocks, hK, hA, hSt, hnm, hex⟩ := id F
  unfold xt_K_signed_A at hf
  refine lv_iload_n hx hb d_K_signed_0 rfl (lv_at hl 1 rfl) ?_
  refine lv_if_lt (tgt := 37) hx hb d_K_signed_1 (by decide) (fun cx => ?_) (fun cx => ?_)
  · have hf := ifp cx hf
    exact q_throw hlt hx hb hml hl.1 hlocks hown (by decide +kernel) (by decide +kernel) (ow_a hts hSt.2.1 hT) (hts _ gw_651) (hts _ gw_24) hex (Nat.le_of_ble_eq_true rfl) (Nat.le_of_ble_eq_true rfl) (by decide) (by decide) d_K_signed_37 d_K_signed_40 d_K_signed_41 d_K_signed_44
  · have hf := ifn cx hf
    refine lv_iload_n hx hb d_K_signed_4 rfl (lv_at hl 1 rfl) ?_
    refine lv_bipush (v := 100) hx hb d_K_signed_5 (by decide) ?_
    refine lv_icmp_gt (tgt := 37) hx hb d_K_signed_7 (by decide) (fun cx => ?_) (fun cx => ?_)
    · have hf := ifp cx hf
      exact q_throw hlt hx hb hml hl.1 hlocks hown (by decide +kernel) (by decide +kernel) (ow_a hts hSt.2.1 hT) (hts _ gw_651) (hts _ gw_24) hex (Nat.le_of_ble_eq_true rfl) (Nat.le_of_ble_eq_true rfl) (by decide) (by decide) d_K_signed_37 d_K_signed_40 d_K_signed_41 d_K_signed_44
    · have hf := ifn cx hf
      refine lv_aload_n hx hb d_K_signed_10 rfl (lv_at hl 0 rfl) ?_
      refine va_get (D := D) (ci := 0) (v := .int i_rowLength) (C := "CoinKeeper") (T := F_0) (N := 13) hx hb hts i_0 hown hK hP 0 rfl rfl 1 (by decide) (hts _ gw_501) (fun _ h9 => h9) rfl d_K_signed_11 ?_
      refine lv_bipush (v := 32) hx hb d_K_signed_14 (by decide) ?_
      refine lv_iload_n hx hb d_K_signed_16 rfl (lv_at hl 1 rfl) ?_
      refine lv_iadd hx hb d_K_signed_17 ?_
      refine lv_topi (fun v1 ev => ?_)
      have hf := bn ev hf
      clear ev
      refine lv_iconst (v := 1) hx hb d_K_signed_18 (by decide) ?_
      refine lv_iadd hx hb d_K_signed_19 ?_
      refine lv_icmp_lt (tgt := 37) hx hb d_K_signed_20 (by decide) (fun cx => ?_) (fun cx => ?_)
      · have hf := ifp cx hf
        exact q_throw hlt hx hb hml hl.1 hlocks hown (by decide +kernel) (by decide +kernel) (ow_a hts hSt.2.1 hT) (hts _ gw_651) (hts _ gw_24) hex (Nat.le_of_ble_eq_true rfl) (Nat.le_of_ble_eq_true rfl) (by decide) (by decide) d_K_signed_37 d_K_signed_40 d_K_signed_41 d_K_signed_44
      · have hf := ifn cx hf
        refine lv_aload_n hx hb d_K_signed_23 rfl (lv_at hl 0 rfl) ?_
        refine va_get (D := D) (ci := 0) (v := .int i_rowLength) (C := "CoinKeeper") (T := F_0) (N := 13) hx hb hts i_0 hown hK hP 0 rfl rfl 1 (by decide) (hts _ gw_501) (fun _ h9 => h9) rfl d_K_signed_24 ?_
        refine lv_bipush (v := 32) hx hb d_K_signed_27 (by decide) ?_
        refine lv_iload_n hx hb d_K_signed_29 rfl (lv_at hl 1 rfl) ?_
        refine lv_iadd hx hb d_K_signed_30 ?_
        refine lv_topi (fun v2 ev => ?_)
        have hf := bn ev hf
        clear ev
        refine lv_bipush (v := 80) hx hb d_K_signed_31 (by decide) ?_
        refine lv_iadd hx hb d_K_signed_33 ?_
        refine lv_icmp_le (tgt := 45) hx hb d_K_signed_34 (by decide) (fun cx => ?_) (fun cx => ?_)
        · have hf := ifp cx hf
          refine lv_aload_n hx hb d_K_signed_45 rfl (lv_at hl 0 rfl) ?_
          refine va_get (D := D) (ci := 0) (v := r_signatures) (C := "CoinKeeper") (T := F_0) (N := 13) hx hb hts i_0 hown hK hP 0 rfl rfl 4 (by decide) (hts _ gw_504) (fun _ h9 => h9) rfl d_K_signed_46 ?_
          refine lv_aload_n hx hb d_K_signed_49 rfl (lv_at hl 0 rfl) ?_
          refine va_get (D := D) (ci := 0) (v := v_a_row) (C := "CoinKeeper") (T := F_0) (N := 13) hx hb hts i_0 hown hK hP 0 rfl rfl 0 (by decide) (hts _ gw_500) (fun _ h9 => h9) rfl d_K_signed_50 ?_
          refine lv_iconst (v := 0) hx hb d_K_signed_53 (by decide) ?_
          refine lv_bipush (v := 32) hx hb d_K_signed_54 (by decide) ?_
          refine lv_iload_n hx hb d_K_signed_56 rfl (lv_at hl 1 rfl) ?_
          refine lv_bipush (v := 32) hx hb d_K_signed_57 (by decide) ?_
          refine lv_iload_n hx hb d_K_signed_59 rfl (lv_at hl 1 rfl) ?_
          refine lv_iadd hx hb d_K_signed_60 ?_
          refine lv_topi (fun v3 ev => ?_)
          have hf := bn ev hf
          clear ev
          refine lv_aload_n hx hb d_K_signed_61 rfl (lv_at hl 0 rfl) ?_
          refine va_get (D := D) (ci := 0) (v := .int i_rowLength) (C := "CoinKeeper") (T := F_0) (N := 13) hx hb hts i_0 hown hK hP 0 rfl rfl 1 (by decide) (hts _ gw_501) (fun _ h9 => h9) rfl d_K_signed_62 ?_
          refine lv_bipush (v := 32) hx hb d_K_signed_65 (by decide) ?_
          refine lv_isub hx hb d_K_signed_67 ?_
          refine lv_topi (fun v4 ev => ?_)
          have hf := bn ev hf
          clear ev
          refine lv_iload_n hx hb d_K_signed_68 rfl (lv_at hl 1 rfl) ?_
          refine lv_isub hx hb d_K_signed_69 ?_
          exact nomatch hf
        · have hf := ifn cx hf
          exact q_throw hlt hx hb hml hl.1 hlocks hown (by decide +kernel) (by decide +kernel) (ow_a hts hSt.2.1 hT) (hts _ gw_651) (hts _ gw_24) hex (Nat.le_of_ble_eq_true rfl) (Nat.le_of_ble_eq_true rfl) (by decide) (by decide) d_K_signed_37 d_K_signed_40 d_K_signed_41 d_K_signed_44
