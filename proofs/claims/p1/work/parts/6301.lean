abbrev b_K_append : ByteArray := prog_1_method_12_code
theorem d_K_append_0 : decode b_K_append 0 = .ok (.bipush 24, 2) := by decide +kernel
theorem d_K_append_2 : decode b_K_append 2 = .ok (.istore_n 2, 1) := by decide +kernel
theorem d_K_append_3 : decode b_K_append 3 = .ok (.iload_n 2, 1) := by decide +kernel
theorem d_K_append_4 : decode b_K_append 4 = .ok (.ifCond .lt 32, 3) := by decide +kernel
theorem d_K_append_7 : decode b_K_append 7 = .ok (.aload_n 0, 1) := by decide +kernel
theorem d_K_append_8 : decode b_K_append 8 = .ok (.getfield 9, 3) := by decide +kernel
theorem d_K_append_11 : decode b_K_append 11 = .ok (.aload_n 0, 1) := by decide +kernel
theorem d_K_append_12 : decode b_K_append 12 = .ok (.getfield 79, 3) := by decide +kernel
theorem d_K_append_15 : decode b_K_append 15 = .ok (.iload_n 1, 1) := by decide +kernel
theorem d_K_append_16 : decode b_K_append 16 = .ok (.iload_n 2, 1) := by decide +kernel
theorem d_K_append_17 : decode b_K_append 17 = .ok (.iushr, 1) := by decide +kernel
theorem d_K_append_18 : decode b_K_append 18 = .ok (.i2b, 1) := by decide +kernel
theorem d_K_append_19 : decode b_K_append 19 = .ok (.bastore, 1) := by decide +kernel
theorem d_K_append_20 : decode b_K_append 20 = .ok (.aload_n 0, 1) := by decide +kernel
theorem d_K_append_21 : decode b_K_append 21 = .ok (.dup, 1) := by decide +kernel
theorem d_K_append_22 : decode b_K_append 22 = .ok (.getfield 79, 3) := by decide +kernel
theorem d_K_append_25 : decode b_K_append 25 = .ok (.iconst 1, 1) := by decide +kernel
theorem d_K_append_26 : decode b_K_append 26 = .ok (.iadd, 1) := by decide +kernel
theorem d_K_append_27 : decode b_K_append 27 = .ok (.putfield 79, 3) := by decide +kernel
theorem d_K_append_30 : decode b_K_append 30 = .ok (.iinc 2 (-8), 3) := by decide +kernel
theorem d_K_append_33 : decode b_K_append 33 = .ok (.goto (-30), 3) := by decide +kernel
theorem d_K_append_36 : decode b_K_append 36 = .ok (.return_, 1) := by decide +kernel
abbrev rm_K_append : Room := { frames := 0, cells := 0, slots := 0, locals := 0 }
abbrev q_K_append (D : va_G) (cy : Nat → ClassId) (A : Nat → Prop) (o : Nat) (v_a_id : Value) (v_o_sha : Value) (r_signatures : Value) (v_o_machine : Value) (v_o_layout : Value) (v_o_ledger : Value) (v_o_blocks : Value) (r_spent : Value) (v_o_tip : Value) (a_row : Nat) (i_takenBytes : Int32) (i_checkedTxs : Int32) (res : Int32 × (Nat → Int32)) : Array Value → State → Outcome → State → Prop := va_Qv (fun (_ : Unit) => True) (fun _ t => Po D cy A [(o, .inr (0, [.ref a_row, .int res.1, v_a_id, v_o_sha, r_signatures, v_o_machine, v_o_layout, v_o_ledger, v_o_blocks, r_spent, v_o_tip, .int i_takenBytes, .int i_checkedTxs])), (a_row, .inl (cy 0, 3000, .inl res.2))] t) A
def I_K_append_3 (p : Program) (l : Launch) (e : Env) (s : State) (m : MethodId) (args : Array Value) (below : List Frame) (meth : Method) (c : Code) (D : va_G) (cy : Nat → ClassId) (A : Nat → Prop) (ad : Nat → Nat) (o : Nat) (v_a_id : Value) (v_o_sha : Value) (r_signatures : Value) (v_o_machine : Value) (v_o_layout : Value) (v_o_ledger : Value) (v_o_blocks : Value) (r_spent : Value) (v_o_tip : Value) (a_row : Nat) (i_takenBytes : Int32) (i_checkedTxs : Int32) (k : Int32 → Int32 → Int32 → (Nat → Int32) → Option (Int32 × (Nat → Int32))) : Prop :=
  ∀ (x1 : Int32) (x2 : Int32) (u0 : Int32) (u1 : Nat → Int32) (res : Int32 × (Nat → Int32)), k x1 x2 u0 u1 = some res → ∀ (H : Heap) (locs : List Loc) (ls : Array Slot), va_P D classes [(o, .inr (0, [.ref a_row, .int u0, v_a_id, v_o_sha, r_signatures, v_o_machine, v_o_layout, v_o_ledger, v_o_blocks, r_spent, v_o_tip, .int i_takenBytes, .int i_checkedTxs])), (a_row, .inl (cy 0, 3000, .inl u1))] H → va_D A [(o, .inr (0, [.ref a_row, .int u0, v_a_id, v_o_sha, r_signatures, v_o_machine, v_o_layout, v_o_ledger, v_o_blocks, r_spent, v_o_tip, .int i_takenBytes, .int i_checkedTxs])), (a_row, .inl (cy 0, 3000, .inl u1))] → va_S A s.heap H locs → lv_has ls 3 [(0, .ref o), (1, .int x1), (2, .int x2)] → W p l e rm_K_append s m args below meth c H locs 0 0 (MQ below (q_K_append D cy A o v_a_id v_o_sha r_signatures v_o_machine v_o_layout v_o_ledger v_o_blocks r_spent v_o_tip a_row i_takenBytes i_checkedTxs res) args s 0 0 A) (F0 m 3 ls [])
def I_K_append_e (p : Program) (l : Launch) (e : Env) (s : State) (m : MethodId) (args : Array Value) (below : List Frame) (meth : Method) (c : Code) (D : va_G) (cy : Nat → ClassId) (A : Nat → Prop) (ad : Nat → Nat) (o : Nat) (v_a_id : Value) (v_o_sha : Value) (r_signatures : Value) (v_o_machine : Value) (v_o_layout : Value) (v_o_ledger : Value) (v_o_blocks : Value) (r_spent : Value) (v_o_tip : Value) (a_row : Nat) (i_takenBytes : Int32) (i_checkedTxs : Int32) (k : Int32 → Int32 → (Nat → Int32) → Option (Int32 × (Nat → Int32))) : Prop :=
  ∀ (a1 : Int32) (u0 : Int32) (u1 : Nat → Int32) (res : Int32 × (Nat → Int32)), k a1 u0 u1 = some res → ∀ (H : Heap) (locs : List Loc) (ls : Array Slot), va_P D classes [(o, .inr (0, [.ref a_row, .int u0, v_a_id, v_o_sha, r_signatures, v_o_machine, v_o_layout, v_o_ledger, v_o_blocks, r_spent, v_o_tip, .int i_takenBytes, .int i_checkedTxs])), (a_row, .inl (cy 0, 3000, .inl u1))] H → va_D A [(o, .inr (0, [.ref a_row, .int u0, v_a_id, v_o_sha, r_signatures, v_o_machine, v_o_layout, v_o_ledger, v_o_blocks, r_spent, v_o_tip, .int i_takenBytes, .int i_checkedTxs])), (a_row, .inl (cy 0, 3000, .inl u1))] → va_S A s.heap H locs → lv_has ls 3 [(0, .ref o), (1, .int a1)] → W p l e rm_K_append s m args below meth c H locs 0 0 (MQ below (q_K_append D cy A o v_a_id v_o_sha r_signatures v_o_machine v_o_layout v_o_ledger v_o_blocks r_spent v_o_tip a_row i_takenBytes i_checkedTxs res) args s 0 0 A) (F0 m 0 ls [])
def xb_K_append_3 (fu : Nat) (i_takenBytes : Int32) (i_checkedTxs : Int32) (k_3 : Int32 → Int32 → Int32 → (Nat → Int32) → Option (Int32 × (Nat → Int32))) (x1 : Int32) (x2 : Int32) (u0 : Int32) (u1 : Nat → Int32) : Option (Int32 × (Nat → Int32)) :=
  if x2 < 0 then (some (u0, u1)) else (bnd (((x1.toUInt32 >>> (x2.toUInt32 &&& Int32.toUInt32 31)).toInt32).toInt8.toInt32) fun v1 => gd (inb u0 3000) <| bnd (upd u1 u0.toNatClampNeg (vp_nar .byte v1)) fun f2 => bnd (u0 + (1 : Int32)) fun v3 => bnd (x2 + (-8 : Int32)) fun v4 => k_3 x1 v4 v3 f2)
set_option maxHeartbeats 8000000 in
set_option maxRecDepth 100000 in
theorem wb_K_append_3 {p : Program} {l : Launch} {e : Env} {s : State} {m : MethodId} {args : Array Value} {below : List Frame} {meth : Method} {c : Code} {D : va_G} {cy : Nat → ClassId} {A : Nat → Prop} {ad : Nat → Nat} {o : Nat} {v_a_id : Value} {v_o_sha : Value} {r_signatures : Value} {v_o_machine : Value} {v_o_layout : Value} {v_o_ledger : Value} {v_o_blocks : Value} {r_spent : Value} {v_o_tip : Value} {a_row : Nat} {i_takenBytes : Int32} {i_checkedTxs : Int32} {fu : Nat} {k_3 : Int32 → Int32 → Int32 → (Nat → Int32) → Option (Int32 × (Nat → Int32))} (F : Fx p s m args meth c b_K_append 3 "CoinKeeper" "append" none D cy ad A) (hk_3 : I_K_append_3 p l e s m args below meth c D cy A ad o v_a_id v_o_sha r_signatures v_o_machine v_o_layout v_o_ledger v_o_blocks r_spent v_o_tip a_row i_takenBytes i_checkedTxs k_3) : I_K_append_3 p l e s m args below meth c D cy A ad o v_a_id v_o_sha r_signatures v_o_machine v_o_layout v_o_ledger v_o_blocks r_spent v_o_tip a_row i_takenBytes i_checkedTxs (xb_K_append_3 fu i_takenBytes i_checkedTxs k_3) := by
  obtain ⟨hx, hb, hr, hml, hown, hts, hlocks, hK, hA, hSt, hnm, hex⟩ := id F
  intro x1 x2 u0 u1 res hf H locs ls hP hD hS hl
  unfold xb_K_append_3 at hf
  refine lv_iload_n hx hb d_K_append_3 rfl (lv_at hl 2 rfl) ?_
  refine lv_if_lt (tgt := 36) hx hb d_K_append_4 (by decide) (fun cx => ?_) (fun cx => ?_)
  · have hf := ifp cx hf
    obtain rfl := Option.some.inj hf
    exact q_rv hx hb hr hlocks hK hP hD hS d_K_append_36
  · have hf := ifn cx hf
    refine lv_aload_n hx hb d_K_append_7 rfl (lv_at hl 0 rfl) ?_
    refine va_get (D := D) (ci := 0) (v := .ref a_row) (C := "CoinKeeper") (T := F_0) (N := 13) hx hb hts i_0 hown hK hP 0 rfl rfl 0 (by decide) (hts _ gw_500) (fun _ h9 => h9) rfl d_K_append_8 ?_
    refine lv_aload_n hx hb d_K_append_11 rfl (lv_at hl 0 rfl) ?_
    refine va_get (D := D) (ci := 0) (v := .int u0) (C := "CoinKeeper") (T := F_0) (N := 13) hx hb hts i_0 hown hK hP 0 rfl rfl 1 (by decide) (hts _ gw_501) (fun _ h9 => h9) rfl d_K_append_12 ?_
    refine lv_iload_n hx hb d_K_append_15 rfl (lv_at hl 1 rfl) ?_
    refine lv_iload_n hx hb d_K_append_16 rfl (lv_at hl 2 rfl) ?_
    refine lv_iushr hx hb d_K_append_17 rfl ?_
    refine lv_i2b hx hb d_K_append_18 rfl ?_
    refine lv_topi (fun v1 ev => ?_)
    have hf := bn ev hf
    clear ev
    obtain ⟨hg, hf⟩ := gdp hf
    refine va_bast hx hb hK hP hD hS 1 0 rfl rfl (inb_in hg) d_K_append_19 (fun H locs hP hD hS => ?_)
    obtain ⟨f2, ev, hf⟩ := bne hf
    have hP : va_P D classes [(o, .inr (0, [.ref a_row, .int u0, v_a_id, v_o_sha, r_signatures, v_o_machine, v_o_layout, v_o_ledger, v_o_blocks, r_spent, v_o_tip, .int i_takenBytes, .int i_checkedTxs])), (a_row, .inl (cy 0, 3000, .inl f2))] H := by rw [ev]; exact hP
    have hD : va_D A [(o, .inr (0, [.ref a_row, .int u0, v_a_id, v_o_sha, r_signatures, v_o_machine, v_o_layout, v_o_ledger, v_o_blocks, r_spent, v_o_tip, .int i_takenBytes, .int i_checkedTxs])), (a_row, .inl (cy 0, 3000, .inl f2))] := by rw [ev]; exact hD
    clear ev
    refine lv_aload_n hx hb d_K_append_20 rfl (lv_at hl 0 rfl) ?_
    refine lv_dup hx hb d_K_append_21 rfl ?_
    refine va_get (D := D) (ci := 0) (v := .int u0) (C := "CoinKeeper") (T := F_0) (N := 13) hx hb hts i_0 hown hK hP 0 rfl rfl 1 (by decide) (hts _ gw_501) (fun _ h9 => h9) rfl d_K_append_22 ?_
    refine lv_iconst (v := 1) hx hb d_K_append_25 (by decide) ?_
    refine lv_iadd hx hb d_K_append_26 ?_
    refine lv_topi (fun v3 ev => ?_)
    have hf := bn ev hf
    clear ev
    refine va_put (D := D) (ci := 0) (v := .int v3) (ty := .int) (C := "CoinKeeper") (T := F_0) (N := 13) hx hb hts i_0 t_0 t_0_ok n_0 hown hK hP hD hS 0 rfl rfl 1 (by decide) (hts _ gw_501) (fun _ h9 => h9) rfl (by decide +kernel) rfl rfl (Nat.le_of_ble_eq_true rfl) d_K_append_27 (fun H locs hP hD hS => ?_)
    have hP : va_P D classes [(o, .inr (0, [.ref a_row, .int v3, v_a_id, v_o_sha, r_signatures, v_o_machine, v_o_layout, v_o_ledger, v_o_blocks, r_spent, v_o_tip, .int i_takenBytes, .int i_checkedTxs])), (a_row, .inl (cy 0, 3000, .inl f2))] H := hP
    have hD : va_D A [(o, .inr (0, [.ref a_row, .int v3, v_a_id, v_o_sha, r_signatures, v_o_machine, v_o_layout, v_o_ledger, v_o_blocks, r_spent, v_o_tip, .int i_takenBytes, .int i_checkedTxs])), (a_row, .inl (cy 0, 3000, .inl f2))] := hD
    obtain ⟨v4, ev, hf⟩ := bne hf
    refine lv_iinc (v := v4) (lv' := [(2, .int v4), (0, .ref o), (1, .int x1)]) hx hb d_K_append_30 hl (k := 2) rfl (by rw [ev]; rfl) (by decide) rfl (fun ls hl => ?_)
    clear ev
    refine lv_goto (tgt := 3) hx hb d_K_append_33 (by decide) ?_
    exact hk_3 _ _ _ _ _ hf _ _ _ hP hD hS (lv_sub hl [1, 2, 0] rfl)
def x_K_append_3 (fu : Nat) (i_takenBytes : Int32) (i_checkedTxs : Int32) : Nat → Int32 → Int32 → Int32 → (Nat → Int32) → Option (Int32 × (Nat → Int32))
  | 0 => fun _ _ _ _ => none
  | n + 1 => xb_K_append_3 fu i_takenBytes i_checkedTxs (x_K_append_3 fu i_takenBytes i_checkedTxs n)
theorem w_K_append_3 {p : Program} {l : Launch} {e : Env} {s : State} {m : MethodId} {args : Array Value} {below : List Frame} {meth : Method} {c : Code} {D : va_G} {cy : Nat → ClassId} {A : Nat → Prop} {ad : Nat → Nat} {o : Nat} {v_a_id : Value} {v_o_sha : Value} {r_signatures : Value} {v_o_machine : Value} {v_o_layout : Value} {v_o_ledger : Value} {v_o_blocks : Value} {r_spent : Value} {v_o_tip : Value} {a_row : Nat} {i_takenBytes : Int32} {i_checkedTxs : Int32} {fu : Nat} (F : Fx p s m args meth c b_K_append 3 "CoinKeeper" "append" none D cy ad A) : ∀ n : Nat, I_K_append_3 p l e s m args below meth c D cy A ad o v_a_id v_o_sha r_signatures v_o_machine v_o_layout v_o_ledger v_o_blocks r_spent v_o_tip a_row i_takenBytes i_checkedTxs (x_K_append_3 fu i_takenBytes i_checkedTxs n)
  | 0 => fun _ _ _ _ _ hf => nomatch (show (none : Option (Int32 × (Nat → Int32))) = some _ from hf)
  | n + 1 => wb_K_append_3 F (w_K_append_3 F n)
def x_K_append (fu : Nat) (i_takenBytes : Int32) (i_checkedTxs : Int32) (a1 : Int32) (u0 : Int32) (u1 : Nat → Int32) : Option (Int32 × (Nat → Int32)) :=
  x_K_append_3 fu i_takenBytes i_checkedTxs fu a1 (24 : Int32) u0 u1
set_option maxHeartbeats 8000000 in
set_option maxRecDepth 100000 in
theorem we_K_append {p : Program} {l : Launch} {e : Env} {s : State} {m : MethodId} {args : Array Value} {below : List Frame} {meth : Method} {c : Code} {D : va_G} {cy : Nat → ClassId} {A : Nat → Prop} {ad : Nat → Nat} {o : Nat} {v_a_id : Value} {v_o_sha : Value} {r_signatures : Value} {v_o_machine : Value} {v_o_layout : Value} {v_o_ledger : Value} {v_o_blocks : Value} {r_spent : Value} {v_o_tip : Value} {a_row : Nat} {i_takenBytes : Int32} {i_checkedTxs : Int32} {fu : Nat} (F : Fx p s m args meth c b_K_append 3 "CoinKeeper" "append" none D cy ad A) : I_K_append_e p l e s m args below meth c D cy A ad o v_a_id v_o_sha r_signatures v_o_machine v_o_layout v_o_ledger v_o_blocks r_spent v_o_tip a_row i_takenBytes i_checkedTxs (x_K_append fu i_takenBytes i_checkedTxs) := by
  obtain ⟨hx, hb, hr, hml, hown, hts, hlocks, hK, hA, hSt, hnm, hex⟩ := id F
  intro a1 u0 u1 res hf H locs ls hP hD hS hl
  unfold x_K_append at hf
  refine lv_bipush (v := 24) hx hb d_K_append_0 (by decide) ?_
  refine lv_istore_n (lv' := [(2, .int (24 : Int32)), (0, .ref o), (1, .int a1)]) hx hb d_K_append_2 rfl hl (by decide) rfl (fun ls hl => ?_)
  exact w_K_append_3 F fu _ _ _ _ _ hf _ _ _ hP hD hS (lv_sub hl [1, 2, 0] rfl)
theorem c_K_append (l : Launch) (D : va_G) (cy : Nat → ClassId) (ad : Nat → Nat) (fu : Nat) (o : Nat) (v_a_id : Value) (v_o_sha : Value) (r_signatures : Value) (v_o_machine : Value) (v_o_layout : Value) (v_o_ledger : Value) (v_o_blocks : Value) (r_spent : Value) (v_o_tip : Value) (a_row : Nat) (i_takenBytes : Int32) (i_checkedTxs : Int32) (a1 : Int32) (u0 : Int32) (u1 : Nat → Int32) (res : Int32 × (Nat → Int32)) (hf : x_K_append fu i_takenBytes i_checkedTxs a1 u0 u1 = some res) (sz : Nat) : Met l ({ cls := "CoinKeeper", name := "append", desc := "(I)V" } : Jvm.MethodName) (.code ({ cls := "CoinKeeper", name := "append", desc := "(I)V" } : Jvm.MethodName) b_K_append 3 none :: gw) rm_K_append (va_Pc [.ref o, .int a1] (Pr D cy ad [(o, .inr (0, [.ref a_row, .int u0, v_a_id, v_o_sha, r_signatures, v_o_machine, v_o_layout, v_o_ledger, v_o_blocks, r_spent, v_o_tip, .int i_takenBytes, .int i_checkedTxs])), (a_row, .inl (cy 0, 3000, .inl u1))] sz)) (q_K_append D cy (va_A [(o, .inr (0, [.ref a_row, .int u0, v_a_id, v_o_sha, r_signatures, v_o_machine, v_o_layout, v_o_ledger, v_o_blocks, r_spent, v_o_tip, .int i_takenBytes, .int i_checkedTxs])), (a_row, .inl (cy 0, 3000, .inl u1))] sz) o v_a_id v_o_sha r_signatures v_o_machine v_o_layout v_o_ledger v_o_blocks r_spent v_o_tip a_row i_takenBytes i_checkedTxs res) 0 0 (va_A [(o, .inr (0, [.ref a_row, .int u0, v_a_id, v_o_sha, r_signatures, v_o_machine, v_o_layout, v_o_ledger, v_o_blocks, r_spent, v_o_tip, .int i_takenBytes, .int i_checkedTxs])), (a_row, .inl (cy 0, 3000, .inl u1))] sz) :=
  q_met (Qc := fun A => q_K_append D cy A o v_a_id v_o_sha r_signatures v_o_machine v_o_layout v_o_ledger v_o_blocks r_spent v_o_tip a_row i_takenBytes i_checkedTxs res) (by decide) rfl rfl (Nat.le_of_ble_eq_true rfl) (fun p e s m below meth c ls F hP hD hS hl => we_K_append (fu := fu) F a1 u0 u1 res hf _ _ _ hP hD hS hl) sz
abbrev b_K_feed : ByteArray := prog_1_method_2_code
theorem d_K_feed_0 : decode b_K_feed 0 = .ok (.aload_n 0, 1) := by decide +kernel
theorem d_K_feed_1 : decode b_K_feed 1 = .ok (.getfield 79, 3) := by decide +kernel
theorem d_K_feed_4 : decode b_K_feed 4 = .ok (.bipush 20, 2) := by decide +kernel
theorem d_K_feed_6 : decode b_K_feed 6 = .ok (.iadd, 1) := by decide +kernel
theorem d_K_feed_7 : decode b_K_feed 7 = .ok (.sipush 3000, 3) := by decide +kernel
theorem d_K_feed_10 : decode b_K_feed 10 = .ok (.if_icmp .le 11, 3) := by decide +kernel
theorem d_K_feed_13 : decode b_K_feed 13 = .ok (.new 83, 3) := by decide +kernel
theorem d_K_feed_16 : decode b_K_feed 16 = .ok (.dup, 1) := by decide +kernel
theorem d_K_feed_17 : decode b_K_feed 17 = .ok (.invokespecial 85, 3) := by decide +kernel
theorem d_K_feed_20 : decode b_K_feed 20 = .ok (.athrow, 1) := by decide +kernel
theorem d_K_feed_21 : decode b_K_feed 21 = .ok (.aload_n 0, 1) := by decide +kernel
theorem d_K_feed_22 : decode b_K_feed 22 = .ok (.iload_n 1, 1) := by decide +kernel
theorem d_K_feed_23 : decode b_K_feed 23 = .ok (.invokevirtual 86, 3) := by decide +kernel
theorem d_K_feed_26 : decode b_K_feed 26 = .ok (.aload_n 0, 1) := by decide +kernel
theorem d_K_feed_27 : decode b_K_feed 27 = .ok (.iload_n 2, 1) := by decide +kernel
theorem d_K_feed_28 : decode b_K_feed 28 = .ok (.invokevirtual 86, 3) := by decide +kernel
theorem d_K_feed_31 : decode b_K_feed 31 = .ok (.aload_n 0, 1) := by decide +kernel
theorem d_K_feed_32 : decode b_K_feed 32 = .ok (.iload_n 3, 1) := by decide +kernel
theorem d_K_feed_33 : decode b_K_feed 33 = .ok (.invokevirtual 86, 3) := by decide +kernel
theorem d_K_feed_36 : decode b_K_feed 36 = .ok (.aload_n 0, 1) := by decide +kernel
theorem d_K_feed_37 : decode b_K_feed 37 = .ok (.iload 4, 2) := by decide +kernel
theorem d_K_feed_39 : decode b_K_feed 39 = .ok (.invokevirtual 86, 3) := by decide +kernel
theorem d_K_feed_42 : decode b_K_feed 42 = .ok (.aload_n 0, 1) := by decide +kernel
theorem d_K_feed_43 : decode b_K_feed 43 = .ok (.iload 5, 2) := by decide +kernel
theorem d_K_feed_45 : decode b_K_feed 45 = .ok (.invokevirtual 86, 3) := by decide +kernel
theorem d_K_feed_48 : decode b_K_feed 48 = .ok (.aload_n 0, 1) := by decide +kernel
theorem d_K_feed_49 : decode b_K_feed 49 = .ok (.getfield 79, 3) := by decide +kernel
theorem d_K_feed_52 : decode b_K_feed 52 = .ok (.ireturn, 1) := by decide +kernel
abbrev rm_K_feed : Room := { frames := 1, cells := 0, slots := 0, locals := 22 }
abbrev q_K_feed (D : va_G) (cy : Nat → ClassId) (A : Nat → Prop) (o : Nat) (v_a_id : Value) (v_o_sha : Value) (r_signatures : Value) (v_o_machine : Value) (v_o_layout : Value) (v_o_ledger : Value) (v_o_blocks : Value) (r_spent : Value) (v_o_tip : Value) (a_row : Nat) (i_takenBytes : Int32) (i_checkedTxs : Int32) (res : Int32 × Int32 × (Nat → Int32)) : Array Value → State → Outcome → State → Prop := va_Qi (fun r' (_ : Unit) => r' = res.1) (fun _ t => Po D cy A [(o, .inr (0, [.ref a_row, .int res.2.1, v_a_id, v_o_sha, r_signatures, v_o_machine, v_o_layout, v_o_ledger, v_o_blocks, r_spent, v_o_tip, .int i_takenBytes, .int i_checkedTxs])), (a_row, .inl (cy 0, 3000, .inl res.2.2))] t) A
def I_K_feed_e (p : Program) (l : Launch) (e : Env) (s : State) (m : MethodId) (args : Array Value) (below : List Frame) (meth : Method) (c : Code) (D : va_G) (cy : Nat → ClassId) (A : Nat → Prop) (ad : Nat → Nat) (o : Nat) (v_a_id : Value) (v_o_sha : Value) (r_signatures : Value) (v_o_machine : Value) (v_o_layout : Value) (v_o_ledger : Value) (v_o_blocks : Value) (r_spent : Value) (v_o_tip : Value) (a_row : Nat) (i_takenBytes : Int32) (i_checkedTxs : Int32) (k : Int32 → Int32 → Int32 → Int32 → Int32 → Int32 → (Nat → Int32) → Option (Int32 × Int32 × (Nat → Int32))) : Prop :=
  ∀ (a1 : Int32) (a2 : Int32) (a3 : Int32) (a4 : Int32) (a5 : Int32) (u0 : Int32) (u1 : Nat → Int32) (res : Int32 × Int32 × (Nat → Int32)), k a1 a2 a3 a4 a5 u0 u1 = some res → ∀ (H : Heap) (locs : List Loc) (ls : Array Slot), va_P D classes [(o, .inr (0, [.ref a_row, .int u0, v_a_id, v_o_sha, r_signatures, v_o_machine, v_o_layout, v_o_ledger, v_o_blocks, r_spent, v_o_tip, .int i_takenBytes, .int i_checkedTxs])), (a_row, .inl (cy 0, 3000, .inl u1))] H → va_D A [(o, .inr (0, [.ref a_row, .int u0, v_a_id, v_o_sha, r_signatures, v_o_machine, v_o_layout, v_o_ledger, v_o_blocks, r_spent, v_o_tip, .int i_takenBytes, .int i_checkedTxs])), (a_row, .inl (cy 0, 3000, .inl u1))] → va_S A s.heap H locs → lv_has ls 6 [(0, .ref o), (1, .int a1), (2, .int a2), (3, .int a3), (4, .int a4), (5, .int a5)] → W p l e rm_K_feed s m args below meth c H locs 0 0 (MQ below (q_K_feed D cy A o v_a_id v_o_sha r_signatures v_o_machine v_o_layout v_o_ledger v_o_blocks r_spent v_o_tip a_row i_takenBytes i_checkedTxs res) args s 0 0 A) (F0 m 0 ls [])
theorem hdf_51 : ({ cls := "CoinKeeper", name := "append", desc := "(I)V" } : Jvm.MethodName).cls ≠ "java/lang/invoke/MethodHandle" ∧ ({ cls := "CoinKeeper", name := "append", desc := "(I)V" } : Jvm.MethodName).cls ≠ "java/lang/invoke/VarHandle" ∧ (parseMethodDescriptor ({ cls := "CoinKeeper", name := "append", desc := "(I)V" } : Jvm.MethodName).desc).map (fun d => d.parameters.length) = some 1 := by decide +kernel
def x_K_feed (fu : Nat) (i_takenBytes : Int32) (i_checkedTxs : Int32) (a1 : Int32) (a2 : Int32) (a3 : Int32) (a4 : Int32) (a5 : Int32) (u0 : Int32) (u1 : Nat → Int32) : Option (Int32 × Int32 × (Nat → Int32)) :=
  bnd (u0 + (20 : Int32)) fun v1 => if v1 ≤ (3000 : Int32) then (bd2 (x_K_append fu i_takenBytes i_checkedTxs a1 u0 u1) fun e2 f3 => bd2 (x_K_append fu i_takenBytes i_checkedTxs a2 e2 f3) fun e4 f5 => bd2 (x_K_append fu i_takenBytes i_checkedTxs a3 e4 f5) fun e6 f7 => bd2 (x_K_append fu i_takenBytes i_checkedTxs a4 e6 f7) fun e8 f9 => bd2 (x_K_append fu i_takenBytes i_checkedTxs a5 e8 f9) fun e10 f11 => some (e10, e10, f11)) else (none)
set_option maxHeartbeats 8000000 in
set_option maxRecDepth 100000 in
theorem we_K_feed {p : Program} {l : Launch} {e : Env} {s : State} {m : MethodId} {args : Array Value} {below : List Frame} {meth : Method} {c : Code} {D : va_G} {cy : Nat → ClassId} {A : Nat → Prop} {ad : Nat → Nat} {o : Nat} {v_a_id : Value} {v_o_sha : Value} {r_signatures : Value} {v_o_machine : Value} {v_o_layout : Value} {v_o_ledger : Value} {v_o_blocks : Value} {r_spent : Value} {v_o_tip : Value} {a_row : Nat} {i_takenBytes : Int32} {i_checkedTxs : Int32} {fu : Nat} (F : Fx p s m args meth c b_K_feed 6 "CoinKeeper" "feed" (some .int) D cy ad A) : I_K_feed_e p l e s m args below meth c D cy A ad o v_a_id v_o_sha r_signatures v_o_machine v_o_layout v_o_ledger v_o_blocks r_spent v_o_tip a_row i_takenBytes i_checkedTxs (x_K_feed fu i_takenBytes i_checkedTxs) := by
  obtain ⟨hx, hb, hr, hml, hown, hts, hlocks, hK, hA, hSt, hnm, hex⟩ := id F
  intro a1 a2 a3 a4 a5 u0 u1 res hf H locs ls hP hD hS hl
  unfold x_K_feed at hf
  refine lv_aload_n hx hb d_K_feed_0 rfl (lv_at hl 0 rfl) ?_
  refine va_get (D := D) (ci := 0) (v := .int u0) (C := "CoinKeeper") (T := F_0) (N := 13) hx hb hts i_0 hown hK hP 0 rfl rfl 1 (by decide) (hts _ gw_501) (fun _ h9 => h9) rfl d_K_feed_1 ?_
  refine lv_bipush (v := 20) hx hb d_K_feed_4 (by decide) ?_
  refine lv_iadd hx hb d_K_feed_6 ?_
  refine lv_topi (fun v1 ev => ?_)
  have hf := bn ev hf
  clear ev
  refine lv_sipush (v := 3000) hx hb d_K_feed_7 (by decide) ?_
  refine lv_icmp_le (tgt := 21) hx hb d_K_feed_10 (by decide) (fun cx => ?_) (fun cx => ?_)
  · have hf := ifp cx hf
    refine lv_aload_n hx hb d_K_feed_21 rfl (lv_at hl 0 rfl) ?_
    refine lv_iload_n hx hb d_K_feed_22 rfl (lv_at hl 1 rfl) ?_
    obtain ⟨e2, f3, hc, hf⟩ := bdp2 hf
    refine q_av (wr := []) (va_runV (C := "CoinKeeper") (As := [.int a1]) (rest := []) ⟨hx, hb, hml, hown, hts⟩ (c_K_append l D cy ad fu o v_a_id v_o_sha r_signatures v_o_machine v_o_layout v_o_ledger v_o_blocks r_spent v_o_tip a_row i_takenBytes i_checkedTxs a1 u0 u1 _ hc H.size) ⟨q_cB hts gw_642 gw_1 gw_639 hdf_51 ⟨by decide, by decide⟩, hts _ gw_641, hts _ gs_4⟩ (q_preV (q_pre (hP.sub [0, 1] rfl) (hD.sub [0, 1] (by decide) rfl) hK hSt hS (va_free hD hS hA [0, 1] rfl) _) (va_recv hK (hP.sub [0, 1] rfl) (ci := 0) (q0 := 0) rfl rfl)) rfl rfl hl.1 rfl (lv_room (Nat.le_of_ble_eq_true rfl)) d_K_feed_23 ⟨Nat.le_of_ble_eq_true rfl, Nat.le_of_ble_eq_true rfl⟩) hP hD hS hA [0, 1] [] rfl rfl (by decide) (by decide) (fun H locs hP hD hS => ?_)
    clear hc
    have hP : va_P D classes [(o, .inr (0, [.ref a_row, .int e2, v_a_id, v_o_sha, r_signatures, v_o_machine, v_o_layout, v_o_ledger, v_o_blocks, r_spent, v_o_tip, .int i_takenBytes, .int i_checkedTxs])), (a_row, .inl (cy 0, 3000, .inl f3))] H := hP
    have hD : va_D A [(o, .inr (0, [.ref a_row, .int e2, v_a_id, v_o_sha, r_signatures, v_o_machine, v_o_layout, v_o_ledger, v_o_blocks, r_spent, v_o_tip, .int i_takenBytes, .int i_checkedTxs])), (a_row, .inl (cy 0, 3000, .inl f3))] := hD
    refine lv_aload_n hx hb d_K_feed_26 rfl (lv_at hl 0 rfl) ?_
    refine lv_iload_n hx hb d_K_feed_27 rfl (lv_at hl 2 rfl) ?_
    obtain ⟨e4, f5, hc, hf⟩ := bdp2 hf
    refine q_av (wr := []) (va_runV (C := "CoinKeeper") (As := [.int a2]) (rest := []) ⟨hx, hb, hml, hown, hts⟩ (c_K_append l D cy ad fu o v_a_id v_o_sha r_signatures v_o_machine v_o_layout v_o_ledger v_o_blocks r_spent v_o_tip a_row i_takenBytes i_checkedTxs a2 e2 f3 _ hc H.size) ⟨q_cB hts gw_642 gw_1 gw_639 hdf_51 ⟨by decide, by decide⟩, hts _ gw_641, hts _ gs_4⟩ (q_preV (q_pre (hP.sub [0, 1] rfl) (hD.sub [0, 1] (by decide) rfl) hK hSt hS (va_free hD hS hA [0, 1] rfl) _) (va_recv hK (hP.sub [0, 1] rfl) (ci := 0) (q0 := 0) rfl rfl)) rfl rfl hl.1 rfl (lv_room (Nat.le_of_ble_eq_true rfl)) d_K_feed_28 ⟨Nat.le_of_ble_eq_true rfl, Nat.le_of_ble_eq_true rfl⟩) hP hD hS hA [0, 1] [] rfl rfl (by decide) (by decide) (fun H locs hP hD hS => ?_)
    clear hc
    have hP : va_P D classes [(o, .inr (0, [.ref a_row, .int e4, v_a_id, v_o_sha, r_signatures, v_o_machine, v_o_layout, v_o_ledger, v_o_blocks, r_spent, v_o_tip, .int i_takenBytes, .int i_checkedTxs])), (a_row, .inl (cy 0, 3000, .inl f5))] H := hP
    have hD : va_D A [(o, .inr (0, [.ref a_row, .int e4, v_a_id, v_o_sha, r_signatures, v_o_machine, v_o_layout, v_o_ledger, v_o_blocks, r_spent, v_o_tip, .int i_takenBytes, .int i_checkedTxs])), (a_row, .inl (cy 0, 3000, .inl f5))] := hD
    refine lv_aload_n hx hb d_K_feed_31 rfl (lv_at hl 0 rfl) ?_
    refine lv_iload_n hx hb d_K_feed_32 rfl (lv_at hl 3 rfl) ?_
    obtain ⟨e6, f7, hc, hf⟩ := bdp2 hf
    refine q_av (wr := []) (va_runV (C := "CoinKeeper") (As := [.int a3]) (rest := []) ⟨hx, hb, hml, hown, hts⟩ (c_K_append l D cy ad fu o v_a_id v_o_sha r_signatures v_o_machine v_o_layout v_o_ledger v_o_blocks r_spent v_o_tip a_row i_takenBytes i_checkedTxs a3 e4 f5 _ hc H.size) ⟨q_cB hts gw_642 gw_1 gw_639 hdf_51 ⟨by decide, by decide⟩, hts _ gw_641, hts _ gs_4⟩ (q_preV (q_pre (hP.sub [0, 1] rfl) (hD.sub [0, 1] (by decide) rfl) hK hSt hS (va_free hD hS hA [0, 1] rfl) _) (va_recv hK (hP.sub [0, 1] rfl) (ci := 0) (q0 := 0) rfl rfl)) rfl rfl hl.1 rfl (lv_room (Nat.le_of_ble_eq_true rfl)) d_K_feed_33 ⟨Nat.le_of_ble_eq_true rfl, Nat.le_of_ble_eq_true rfl⟩) hP hD hS hA [0, 1] [] rfl rfl (by decide) (by decide) (fun H locs hP hD hS => ?_)
    clear hc
    have hP : va_P D classes [(o, .inr (0, [.ref a_row, .int e6, v_a_id, v_o_sha, r_signatures, v_o_machine, v_o_layout, v_o_ledger, v_o_blocks, r_spent, v_o_tip, .int i_takenBytes, .int i_checkedTxs])), (a_row, .inl (cy 0, 3000, .inl f7))] H := hP
    have hD : va_D A [(o, .inr (0, [.ref a_row, .int e6, v_a_id, v_o_sha, r_signatures, v_o_machine, v_o_layout, v_o_ledger, v_o_blocks, r_spent, v_o_tip, .int i_takenBytes, .int i_checkedTxs])), (a_row, .inl (cy 0, 3000, .inl f7))] := hD
    refine lv_aload_n hx hb d_K_feed_36 rfl (lv_at hl 0 rfl) ?_
    refine lv_iload hx hb d_K_feed_37 (lv_at hl 4 rfl) ?_
    obtain ⟨e8, f9, hc, hf⟩ := bdp2 hf
    refine q_av (wr := []) (va_runV (C := "CoinKeeper") (As := [.int a4]) (rest := []) ⟨hx, hb, hml, hown, hts⟩ (c_K_append l D cy ad fu o v_a_id v_o_sha r_signatures v_o_machine v_o_layout v_o_ledger v_o_blocks r_spent v_o_tip a_row i_takenBytes i_checkedTxs a4 e6 f7 _ hc H.size) ⟨q_cB hts gw_642 gw_1 gw_639 hdf_51 ⟨by decide, by decide⟩, hts _ gw_641, hts _ gs_4⟩ (q_preV (q_pre (hP.sub [0, 1] rfl) (hD.sub [0, 1] (by decide) rfl) hK hSt hS (va_free hD hS hA [0, 1] rfl) _) (va_recv hK (hP.sub [0, 1] rfl) (ci := 0) (q0 := 0) rfl rfl)) rfl rfl hl.1 rfl (lv_room (Nat.le_of_ble_eq_true rfl)) d_K_feed_39 ⟨Nat.le_of_ble_eq_true rfl, Nat.le_of_ble_eq_true rfl⟩) hP hD hS hA [0, 1] [] rfl rfl (by decide) (by decide) (fun H locs hP hD hS => ?_)
    clear hc
    have hP : va_P D classes [(o, .inr (0, [.ref a_row, .int e8, v_a_id, v_o_sha, r_signatures, v_o_machine, v_o_layout, v_o_ledger, v_o_blocks, r_spent, v_o_tip, .int i_takenBytes, .int i_checkedTxs])), (a_row, .inl (cy 0, 3000, .inl f9))] H := hP
    have hD : va_D A [(o, .inr (0, [.ref a_row, .int e8, v_a_id, v_o_sha, r_signatures, v_o_machine, v_o_layout, v_o_ledger, v_o_blocks, r_spent, v_o_tip, .int i_takenBytes, .int i_checkedTxs])), (a_row, .inl (cy 0, 3000, .inl f9))] := hD
    refine lv_aload_n hx hb d_K_feed_42 rfl (lv_at hl 0 rfl) ?_
    refine lv_iload hx hb d_K_feed_43 (lv_at hl 5 rfl) ?_
    obtain ⟨e10, f11, hc, hf⟩ := bdp2 hf
    refine q_av (wr := []) (va_runV (C := "CoinKeeper") (As := [.int a5]) (rest := []) ⟨hx, hb, hml, hown, hts⟩ (c_K_append l D cy ad fu o v_a_id v_o_sha r_signatures v_o_machine v_o_layout v_o_ledger v_o_blocks r_spent v_o_tip a_row i_takenBytes i_checkedTxs a5 e8 f9 _ hc H.size) ⟨q_cB hts gw_642 gw_1 gw_639 hdf_51 ⟨by decide, by decide⟩, hts _ gw_641, hts _ gs_4⟩ (q_preV (q_pre (hP.sub [0, 1] rfl) (hD.sub [0, 1] (by decide) rfl) hK hSt hS (va_free hD hS hA [0, 1] rfl) _) (va_recv hK (hP.sub [0, 1] rfl) (ci := 0) (q0 := 0) rfl rfl)) rfl rfl hl.1 rfl (lv_room (Nat.le_of_ble_eq_true rfl)) d_K_feed_45 ⟨Nat.le_of_ble_eq_true rfl, Nat.le_of_ble_eq_true rfl⟩) hP hD hS hA [0, 1] [] rfl rfl (by decide) (by decide) (fun H locs hP hD hS => ?_)
    clear hc
    have hP : va_P D classes [(o, .inr (0, [.ref a_row, .int e10, v_a_id, v_o_sha, r_signatures, v_o_machine, v_o_layout, v_o_ledger, v_o_blocks, r_spent, v_o_tip, .int i_takenBytes, .int i_checkedTxs])), (a_row, .inl (cy 0, 3000, .inl f11))] H := hP
    have hD : va_D A [(o, .inr (0, [.ref a_row, .int e10, v_a_id, v_o_sha, r_signatures, v_o_machine, v_o_layout, v_o_ledger, v_o_blocks, r_spent, v_o_tip, .int i_takenBytes, .int i_checkedTxs])), (a_row, .inl (cy 0, 3000, .inl f11))] := hD
    refine lv_aload_n hx hb d_K_feed_48 rfl (lv_at hl 0 rfl) ?_
    refine va_get (D := D) (ci := 0) (v := .int e10) (C := "CoinKeeper") (T := F_0) (N := 13) hx hb hts i_0 hown hK hP 0 rfl rfl 1 (by decide) (hts _ gw_501) (fun _ h9 => h9) rfl d_K_feed_49 ?_
    obtain rfl := Option.some.inj hf
    exact q_ri hx hb hr hlocks hK hP hD hS d_K_feed_52
  · have hf := ifn cx hf
    exact nomatch hf
theorem c_K_feed (l : Launch) (D : va_G) (cy : Nat → ClassId) (ad : Nat → Nat) (fu : Nat) (o : Nat) (v_a_id : Value) (v_o_sha : Value) (r_signatures : Value) (v_o_machine : Value) (v_o_layout : Value) (v_o_ledger : Value) (v_o_blocks : Value) (r_spent : Value) (v_o_tip : Value) (a_row : Nat) (i_takenBytes : Int32) (i_checkedTxs : Int32) (a1 : Int32) (a2 : Int32) (a3 : Int32) (a4 : Int32) (a5 : Int32) (u0 : Int32) (u1 : Nat → Int32) (res : Int32 × Int32 × (Nat → Int32)) (hf : x_K_feed fu i_takenBytes i_checkedTxs a1 a2 a3 a4 a5 u0 u1 = some res) (sz : Nat) : Met l ({ cls := "CoinKeeper", name := "feed", desc := "(IIIII)I" } : Jvm.MethodName) (.code ({ cls := "CoinKeeper", name := "feed", desc := "(IIIII)I" } : Jvm.MethodName) b_K_feed 6 (some .int) :: gw) rm_K_feed (va_Pc [.ref o, .int a1, .int a2, .int a3, .int a4, .int a5] (Pr D cy ad [(o, .inr (0, [.ref a_row, .int u0, v_a_id, v_o_sha, r_signatures, v_o_machine, v_o_layout, v_o_ledger, v_o_blocks, r_spent, v_o_tip, .int i_takenBytes, .int i_checkedTxs])), (a_row, .inl (cy 0, 3000, .inl u1))] sz)) (q_K_feed D cy (va_A [(o, .inr (0, [.ref a_row, .int u0, v_a_id, v_o_sha, r_signatures, v_o_machine, v_o_layout, v_o_ledger, v_o_blocks, r_spent, v_o_tip, .int i_takenBytes, .int i_checkedTxs])), (a_row, .inl (cy 0, 3000, .inl u1))] sz) o v_a_id v_o_sha r_signatures v_o_machine v_o_layout v_o_ledger v_o_blocks r_spent v_o_tip a_row i_takenBytes i_checkedTxs res) 0 0 (va_A [(o, .inr (0, [.ref a_row, .int u0, v_a_id, v_o_sha, r_signatures, v_o_machine, v_o_layout, v_o_ledger, v_o_blocks, r_spent, v_o_tip, .int i_takenBytes, .int i_checkedTxs])), (a_row, .inl (cy 0, 3000, .inl u1))] sz) :=
  q_met (Qc := fun A => q_K_feed D cy A o v_a_id v_o_sha r_signatures v_o_machine v_o_layout v_o_ledger v_o_blocks r_spent v_o_tip a_row i_takenBytes i_checkedTxs res) (by decide) rfl rfl (Nat.le_of_ble_eq_true rfl) (fun p e s m below meth c ls F hP hD hS hl => we_K_feed (fu := fu) F a1 a2 a3 a4 a5 u0 u1 res hf _ _ _ hP hD hS hl) sz
abbrev b_K_end : ByteArray := prog_1_method_3_code
theorem d_K_end_0 : decode b_K_end 0 = .ok (.iload_n 1, 1) := by decide +kernel
theorem d_K_end_1 : decode b_K_end 1 = .ok (.ifCond .lt 11, 3) := by decide +kernel
theorem d_K_end_4 : decode b_K_end 4 = .ok (.iload_n 1, 1) := by decide +kernel
theorem d_K_end_5 : decode b_K_end 5 = .ok (.aload_n 0, 1) := by decide +kernel
theorem d_K_end_6 : decode b_K_end 6 = .ok (.getfield 79, 3) := by decide +kernel
theorem d_K_end_9 : decode b_K_end 9 = .ok (.if_icmp .le 11, 3) := by decide +kernel
theorem d_K_end_12 : decode b_K_end 12 = .ok (.new 90, 3) := by decide +kernel
theorem d_K_end_15 : decode b_K_end 15 = .ok (.dup, 1) := by decide +kernel
theorem d_K_end_16 : decode b_K_end 16 = .ok (.invokespecial 92, 3) := by decide +kernel
theorem d_K_end_19 : decode b_K_end 19 = .ok (.athrow, 1) := by decide +kernel
theorem d_K_end_20 : decode b_K_end 20 = .ok (.aload_n 0, 1) := by decide +kernel
theorem d_K_end_21 : decode b_K_end 21 = .ok (.iload_n 1, 1) := by decide +kernel
theorem d_K_end_22 : decode b_K_end 22 = .ok (.putfield 79, 3) := by decide +kernel
theorem d_K_end_25 : decode b_K_end 25 = .ok (.iload_n 1, 1) := by decide +kernel
theorem d_K_end_26 : decode b_K_end 26 = .ok (.ireturn, 1) := by decide +kernel
abbrev rm_K_end : Room := { frames := 0, cells := 0, slots := 0, locals := 0 }
abbrev q_K_end (D : va_G) (cy : Nat → ClassId) (A : Nat → Prop) (o : Nat) (v_a_row : Value) (v_a_id : Value) (v_o_sha : Value) (r_signatures : Value) (v_o_machine : Value) (v_o_layout : Value) (v_o_ledger : Value) (v_o_blocks : Value) (r_spent : Value) (v_o_tip : Value) (i_takenBytes : Int32) (i_checkedTxs : Int32) (res : Int32 × Int32) : Array Value → State → Outcome → State → Prop := va_Qi (fun r' (_ : Unit) => r' = res.1) (fun _ t => Po D cy A [(o, .inr (0, [v_a_row, .int res.2, v_a_id, v_o_sha, r_signatures, v_o_machine, v_o_layout, v_o_ledger, v_o_blocks, r_spent, v_o_tip, .int i_takenBytes, .int i_checkedTxs]))] t) A
def I_K_end_12 (p : Program) (l : Launch) (e : Env) (s : State) (m : MethodId) (args : Array Value) (below : List Frame) (meth : Method) (c : Code) (D : va_G) (cy : Nat → ClassId) (A : Nat → Prop) (ad : Nat → Nat) (o : Nat) (v_a_row : Value) (v_a_id : Value) (v_o_sha : Value) (r_signatures : Value) (v_o_machine : Value) (v_o_layout : Value) (v_o_ledger : Value) (v_o_blocks : Value) (r_spent : Value) (v_o_tip : Value) (i_takenBytes : Int32) (i_checkedTxs : Int32) (k : Int32 → Option (Int32 × Int32)) : Prop :=
  ∀ (u0 : Int32) (res : Int32 × Int32), k u0 = some res → ∀ (H : Heap) (locs : List Loc) (ls : Array Slot), va_P D classes [(o, .inr (0, [v_a_row, .int u0, v_a_id, v_o_sha, r_signatures, v_o_machine, v_o_layout, v_o_ledger, v_o_blocks, r_spent, v_o_tip, .int i_takenBytes, .int i_checkedTxs]))] H → va_D A [(o, .inr (0, [v_a_row, .int u0, v_a_id, v_o_sha, r_signatures, v_o_machine, v_o_layout, v_o_ledger, v_o_blocks, r_spent, v_o_tip, .int i_takenBytes, .int i_checkedTxs]))] → va_S A s.heap H locs → lv_has ls 2 [] → W p l e rm_K_end s m args below meth c H locs 0 0 (MQ below (q_K_end D cy A o v_a_row v_a_id v_o_sha r_signatures v_o_machine v_o_layout v_o_ledger v_o_blocks r_spent v_o_tip i_takenBytes i_checkedTxs res) args s 0 0 A) (F0 m 12 ls [])
def I_K_end_e (p : Program) (l : Launch) (e : Env) (s : State) (m : MethodId) (args : Array Value) (below : List Frame) (meth : Method) (c : Code) (D : va_G) (cy : Nat → ClassId) (A : Nat → Prop) (ad : Nat → Nat) (o : Nat) (v_a_row : Value) (v_a_id : Value) (v_o_sha : Value) (r_signatures : Value) (v_o_machine : Value) (v_o_layout : Value) (v_o_ledger : Value) (v_o_blocks : Value) (r_spent : Value) (v_o_tip : Value) (i_takenBytes : Int32) (i_checkedTxs : Int32) (k : Int32 → Int32 → Option (Int32 × Int32)) : Prop :=
  ∀ (a1 : Int32) (u0 : Int32) (res : Int32 × Int32), k a1 u0 = some res → ∀ (H : Heap) (locs : List Loc) (ls : Array Slot), va_P D classes [(o, .inr (0, [v_a_row, .int u0, v_a_id, v_o_sha, r_signatures, v_o_machine, v_o_layout, v_o_ledger, v_o_blocks, r_spent, v_o_tip, .int i_takenBytes, .int i_checkedTxs]))] H → va_D A [(o, .inr (0, [v_a_row, .int u0, v_a_id, v_o_sha, r_signatures, v_o_machine, v_o_layout, v_o_ledger, v_o_blocks, r_spent, v_o_tip, .int i_takenBytes, .int i_checkedTxs]))] → va_S A s.heap H locs → lv_has ls 2 [(0, .ref o), (1, .int a1)] → W p l e rm_K_end s m args below meth c H locs 0 0 (MQ below (q_K_end D cy A o v_a_row v_a_id v_o_sha r_signatures v_o_machine v_o_layout v_o_ledger v_o_blocks r_spent v_o_tip i_takenBytes i_checkedTxs res) args s 0 0 A) (F0 m 0 ls [])
def xb_K_end_12 (fu : Nat) (i_takenBytes : Int32) (i_checkedTxs : Int32) (u0 : Int32) : Option (Int32 × Int32) :=
  none
set_option maxHeartbeats 8000000 in
set_option maxRecDepth 100000 in
theorem wb_K_end_12 {p : Program} {l : Launch} {e : Env} {s : State} {m : MethodId} {args : Array Value} {below : List Frame} {meth : Method} {c : Code} {D : va_G} {cy : Nat → ClassId} {A : Nat → Prop} {ad : Nat → Nat} {o : Nat} {v_a_row : Value} {v_a_id : Value} {v_o_sha : Value} {r_signatures : Value} {v_o_machine : Value} {v_o_layout : Value} {v_o_ledger : Value} {v_o_blocks : Value} {r_spent : Value} {v_o_tip : Value} {i_takenBytes : Int32} {i_checkedTxs : Int32} {fu : Nat} (F : Fx p s m args meth c b_K_end 2 "CoinKeeper" "end" (some .int) D cy ad A) : I_K_end_12 p l e s m args below meth c D cy A ad o v_a_row v_a_id v_o_sha r_signatures v_o_machine v_o_layout v_o_ledger v_o_blocks r_spent v_o_tip i_takenBytes i_checkedTxs (xb_K_end_12 fu i_takenBytes i_checkedTxs) := by
  obtain ⟨hx, hb, hr, hml, hown, hts, hlocks, hK, hA, hSt, hnm, hex⟩ := id F
  intro u0 res hf H locs ls hP hD hS hl
  unfold xb_K_end_12 at hf
  exact nomatch hf
def x_K_end (fu : Nat) (i_takenBytes : Int32) (i_checkedTxs : Int32) (a1 : Int32) (u0 : Int32) : Option (Int32 × Int32) :=
  if a1 < 0 then (xb_K_end_12 fu i_takenBytes i_checkedTxs u0) else (if a1 ≤ u0 then (some (a1, a1)) else (xb_K_end_12 fu i_takenBytes i_checkedTxs u0))
set_option maxHeartbeats 8000000 in
set_option maxRecDepth 100000 in
theorem we_K_end {p : Program} {l : Launch} {e : Env} {s : State} {m : MethodId} {args : Array Value} {below : List Frame} {meth : Method} {c : Code} {D : va_G} {cy : Nat → ClassId} {A : Nat → Prop} {ad : Nat → Nat} {o : Nat} {v_a_row : Value} {v_a_id : Value} {v_o_sha : Value} {r_signatures : Value} {v_o_machine : Value} {v_o_layout : Value} {v_o_ledger : Value} {v_o_blocks : Value} {r_spent : Value} {v_o_tip : Value} {i_takenBytes : Int32} {i_checkedTxs : Int32} {fu : Nat} (F : Fx p s m args meth c b_K_end 2 "CoinKeeper" "end" (some .int) D cy ad A) : I_K_end_e p l e s m args below meth c D cy A ad o v_a_row v_a_id v_o_sha r_signatures v_o_machine v_o_layout v_o_ledger v_o_blocks r_spent v_o_tip i_takenBytes i_checkedTxs (x_K_end fu i_takenBytes i_checkedTxs) := by
  obtain ⟨hx, hb, hr, hml, hown, hts, hlocks, hK, hA, hSt, hnm, hex⟩ := id F
  intro a1 u0 res hf H locs ls hP hD hS hl
  unfold x_K_end at hf
  refine lv_iload_n hx hb d_K_end_0 rfl (lv_at hl 1 rfl) ?_
  refine lv_if_lt (tgt := 12) hx hb d_K_end_1 (by decide) (fun cx => ?_) (fun cx => ?_)
  · have hf := ifp cx hf
    exact wb_K_end_12 (fu := fu) F _ _ hf _ _ _ hP hD hS (lv_sub hl [] rfl)
  · have hf := ifn cx hf
    refine lv_iload_n hx hb d_K_end_4 rfl (lv_at hl 1 rfl) ?_
    refine lv_aload_n hx hb d_K_end_5 rfl (lv_at hl 0 rfl) ?_
    refine va_get (D := D) (ci := 0) (v := .int u0) (C := "CoinKeeper") (T := F_0) (N := 13) hx hb hts i_0 hown hK hP 0 rfl rfl 1 (by decide) (hts _ gw_501) (fun _ h9 => h9) rfl d_K_end_6 ?_
    refine lv_icmp_le (tgt := 20) hx hb d_K_end_9 (by decide) (fun cx => ?_) (fun cx => ?_)
    · have hf := ifp cx hf
      refine lv_aload_n hx hb d_K_end_20 rfl (lv_at hl 0 rfl) ?_
      refine lv_iload_n hx hb d_K_end_21 rfl (lv_at hl 1 rfl) ?_
      refine va_put (D := D) (ci := 0) (v := .int a1) (ty := .int) (C := "CoinKeeper") (T := F_0) (N := 13) hx hb hts i_0 t_0 t_0_ok n_0 hown hK hP hD hS 0 rfl rfl 1 (by decide) (hts _ gw_501) (fun _ h9 => h9) rfl (by decide +kernel) rfl rfl (Nat.le_of_ble_eq_true rfl) d_K_end_22 (fun H locs hP hD hS => ?_)
      have hP : va_P D classes [(o, .inr (0, [v_a_row, .int a1, v_a_id, v_o_sha, r_signatures, v_o_machine, v_o_layout, v_o_ledger, v_o_blocks, r_spent, v_o_tip, .int i_takenBytes, .int i_checkedTxs]))] H := hP
      have hD : va_D A [(o, .inr (0, [v_a_row, .int a1, v_a_id, v_o_sha, r_signatures, v_o_machine, v_o_layout, v_o_ledger, v_o_blocks, r_spent, v_o_tip, .int i_takenBytes, .int i_checkedTxs]))] := hD
      refine lv_iload_n hx hb d_K_end_25 rfl (lv_at hl 1 rfl) ?_
      obtain rfl := Option.some.inj hf
      exact q_ri hx hb hr hlocks hK hP hD hS d_K_end_26
    · have hf := ifn cx hf
      exact wb_K_end_12 (fu := fu) F _ _ hf _ _ _ hP hD hS (lv_sub hl [] rfl)
theorem c_K_end (l : Launch) (D : va_G) (cy : Nat → ClassId) (ad : Nat → Nat) (fu : Nat) (o : Nat) (v_a_row : Value) (v_a_id : Value) (v_o_sha : Value) (r_signatures : Value) (v_o_machine : Value) (v_o_layout : Value) (v_o_ledger : Value) (v_o_blocks : Value) (r_spent : Value) (v_o_tip : Value) (i_takenBytes : Int32) (i_checkedTxs : Int32) (a1 : Int32) (u0 : Int32) (res : Int32 × Int32) (hf : x_K_end fu i_takenBytes i_checkedTxs a1 u0 = some res) (sz : Nat) : Met l ({ cls := "CoinKeeper", name := "end", desc := "(I)I" } : Jvm.MethodName) (.code ({ cls := "CoinKeeper", name := "end", desc := "(I)I" } : Jvm.MethodName) b_K_end 2 (some .int) :: gw) rm_K_end (va_Pc [.ref o, .int a1] (Pr D cy ad [(o, .inr (0, [v_a_row, .int u0, v_a_id, v_o_sha, r_signatures, v_o_machine, v_o_layout, v_o_ledger, v_o_blocks, r_spent, v_o_tip, .int i_takenBytes, .int i_checkedTxs]))] sz)) (q_K_end D cy (va_A [(o, .inr (0, [v_a_row, .int u0, v_a_id, v_o_sha, r_signatures, v_o_machine, v_o_layout, v_o_ledger, v_o_blocks, r_spent, v_o_tip, .int i_takenBytes, .int i_checkedTxs]))] sz) o v_a_row v_a_id v_o_sha r_signatures v_o_machine v_o_layout v_o_ledger v_o_blocks r_spent v_o_tip i_takenBytes i_checkedTxs res) 0 0 (va_A [(o, .inr (0, [v_a_row, .int u0, v_a_id, v_o_sha, r_signatures, v_o_machine, v_o_layout, v_o_ledger, v_o_blocks, r_spent, v_o_tip, .int i_takenBytes, .int i_checkedTxs]))] sz) :=
  q_met (Qc := fun A => q_K_end D cy A o v_a_row v_a_id v_o_sha r_signatures v_o_machine v_o_layout v_o_ledger v_o_blocks r_spent v_o_tip i_takenBytes i_checkedTxs res) (by decide) rfl rfl (Nat.le_of_ble_eq_true rfl) (fun p e s m below meth c ls F hP hD hS hl => we_K_end (fu := fu) F a1 u0 res hf _ _ _ hP hD hS hl) sz
abbrev b_Al_size : ByteArray := prog_28_method_8_code
theorem d_Al_size_0 : decode b_Al_size 0 = .ok (.aload_n 0, 1) := by decide +kernel
theorem d_Al_size_1 : decode b_Al_size 1 = .ok (.getfield 48, 3) := by decide +kernel
theorem d_Al_size_4 : decode b_Al_size 4 = .ok (.ireturn, 1) := by decide +kernel
abbrev rm_Al_size_y0R : Room := { frames := 0, cells := 0, slots := 0, locals := 0 }
abbrev q_Al_size_y0R (D : va_G) (cy : Nat → ClassId) (A : Nat → Prop) (o : Nat) (v_a_el : Value) (i_size : Int32) (i_modCount : Int32) (res : Int32) : Array Value → State → Outcome → State → Prop := va_Qi (fun r' (_ : Unit) => r' = res) (fun _ t => Po D cy A [(o, .inr (11, [v_a_el, .int i_size, .int i_modCount]))] t) A
def I_Al_size_y0R_e (p : Program) (l : Launch) (e : Env) (s : State) (m : MethodId) (args : Array Value) (below : List Frame) (meth : Method) (c : Code) (D : va_G) (cy : Nat → ClassId) (A : Nat → Prop) (ad : Nat → Nat) (o : Nat) (v_a_el : Value) (i_size : Int32) (i_modCount : Int32) (k : Option (Int32)) : Prop :=
  ∀ (res : Int32), k  = some res → ∀ (H : Heap) (locs : List Loc) (ls : Array Slot), va_P D classes [(o, .inr (11, [v_a_el, .int i_size, .int i_modCount]))] H → va_D A [(o, .inr (11, [v_a_el, .int i_size, .int i_modCount]))] → va_S A s.heap H locs → lv_has ls 1 [(0, .ref o)] → W p l e rm_Al_size_y0R s m args below meth c H locs 0 0 (MQ below (q_Al_size_y0R D cy A o v_a_el i_size i_modCount res) args s 0 0 A) (F0 m 0 ls [])
def x_Al_size_y0R (fu : Nat) (i_size : Int32) (i_modCount : Int32) : Option (Int32) :=
  some (i_size)
set_option maxHeartbeats 8000000 in
set_option maxRecDepth 100000 in
theorem we_Al_size_y0R {p : Program} {l : Launch} {e : Env} {s : State} {m : MethodId} {args : Array Value} {below : List Frame} {meth : Method} {c : Code} {D : va_G} {cy : Nat → ClassId} {A : Nat → Prop} {ad : Nat → Nat} {o : Nat} {v_a_el : Value} {i_size : Int32} {i_modCount : Int32} {fu : Nat} (F : Fx p s m args meth c b_Al_size 1 "java/util/ArrayList" "size" (some .int) D cy ad A) : I_Al_size_y0R_e p l e s m args below meth c D cy A ad o v_a_el i_size i_modCount (x_Al_size_y0R fu i_size i_modCount) := by
  obtain ⟨hx, hb, hr, hml, hown, hts, hlocks, hK, hA, hSt, hnm, hex⟩ := id F
  intro  res hf H locs ls hP hD hS hl
  unfold x_Al_size_y0R at hf
  refine lv_aload_n hx hb d_Al_size_0 rfl (lv_at hl 0 rfl) ?_
  refine va_get (D := D) (ci := 11) (v := .int i_size) (C := "java/util/ArrayList") (T := F_11) (N := 3) hx hb hts i_11 hown hK hP 0 rfl rfl 1 (by decide) (hts _ gw_352) (fun _ h9 => h9) rfl d_Al_size_1 ?_
  obtain rfl := Option.some.inj hf
  exact q_ri hx hb hr hlocks hK hP hD hS d_Al_size_4
theorem c_Al_size_y0R (l : Launch) (D : va_G) (cy : Nat → ClassId) (ad : Nat → Nat) (fu : Nat) (o : Nat) (v_a_el : Value) (i_size : Int32) (i_modCount : Int32) (res : Int32) (hf : x_Al_size_y0R fu i_size i_modCount = some res) (sz : Nat) : Met l ({ cls := "java/util/ArrayList", name := "size", desc := "()I" } : Jvm.MethodName) (.code ({ cls := "java/util/ArrayList", name := "size", desc := "()I" } : Jvm.MethodName) b_Al_size 1 (some .int) :: gw) rm_Al_size_y0R (va_Pc [.ref o] (Pr D cy ad [(o, .inr (11, [v_a_el, .int i_size, .int i_modCount]))] sz)) (q_Al_size_y0R D cy (va_A [(o, .inr (11, [v_a_el, .int i_size, .int i_modCount]))] sz) o v_a_el i_size i_modCount res) 0 0 (va_A [(o, .inr (11, [v_a_el, .int i_size, .int i_modCount]))] sz) :=
  q_met (Qc := fun A => q_Al_size_y0R D cy A o v_a_el i_size i_modCount res) (by decide) rfl rfl (Nat.le_of_ble_eq_true rfl) (fun p e s m below meth c ls F hP hD hS hl => we_Al_size_y0R (fu := fu) F  res hf _ _ _ hP hD hS hl) sz
abbrev b_La_read : ByteArray := prog_5_method_2_code
theorem d_La_read_0 : decode b_La_read 0 = .ok (.aload_n 0, 1) := by decide +kernel
theorem d_La_read_1 : decode b_La_read 1 = .ok (.aload_n 1, 1) := by decide +kernel
theorem d_La_read_2 : decode b_La_read 2 = .ok (.putfield 39, 3) := by decide +kernel
theorem d_La_read_5 : decode b_La_read 5 = .ok (.aload_n 0, 1) := by decide +kernel
theorem d_La_read_6 : decode b_La_read 6 = .ok (.iload_n 2, 1) := by decide +kernel
theorem d_La_read_7 : decode b_La_read 7 = .ok (.putfield 43, 3) := by decide +kernel
theorem d_La_read_10 : decode b_La_read 10 = .ok (.aload_n 0, 1) := by decide +kernel
theorem d_La_read_11 : decode b_La_read 11 = .ok (.bipush 80, 2) := by decide +kernel
theorem d_La_read_13 : decode b_La_read 13 = .ok (.putfield 47, 3) := by decide +kernel
theorem d_La_read_16 : decode b_La_read 16 = .ok (.aload_n 0, 1) := by decide +kernel
theorem d_La_read_17 : decode b_La_read 17 = .ok (.iconst 0, 1) := by decide +kernel
theorem d_La_read_18 : decode b_La_read 18 = .ok (.putfield 50, 3) := by decide +kernel
theorem d_La_read_21 : decode b_La_read 21 = .ok (.aload_n 0, 1) := by decide +kernel
theorem d_La_read_22 : decode b_La_read 22 = .ok (.iconst 0, 1) := by decide +kernel
theorem d_La_read_23 : decode b_La_read 23 = .ok (.putfield 53, 3) := by decide +kernel
theorem d_La_read_26 : decode b_La_read 26 = .ok (.aload_n 0, 1) := by decide +kernel
theorem d_La_read_27 : decode b_La_read 27 = .ok (.iconst 0, 1) := by decide +kernel
theorem d_La_read_28 : decode b_La_read 28 = .ok (.putfield 56, 3) := by decide +kernel
theorem d_La_read_31 : decode b_La_read 31 = .ok (.iload_n 2, 1) := by decide +kernel
theorem d_La_read_32 : decode b_La_read 32 = .ok (.bipush 80, 2) := by decide +kernel
theorem d_La_read_34 : decode b_La_read 34 = .ok (.if_icmp .ge 9, 3) := by decide +kernel
theorem d_La_read_37 : decode b_La_read 37 = .ok (.ldc2_w 59, 3) := by decide +kernel
theorem d_La_read_40 : decode b_La_read 40 = .ok (.goto 7, 3) := by decide +kernel
theorem d_La_read_43 : decode b_La_read 43 = .ok (.aload_n 0, 1) := by decide +kernel
theorem d_La_read_44 : decode b_La_read 44 = .ok (.invokevirtual 61, 3) := by decide +kernel
theorem d_La_read_47 : decode b_La_read 47 = .ok (.lstore_n 3, 1) := by decide +kernel
theorem d_La_read_48 : decode b_La_read 48 = .ok (.lload_n 3, 1) := by decide +kernel
theorem d_La_read_49 : decode b_La_read 49 = .ok (.lconst 0, 1) := by decide +kernel
theorem d_La_read_50 : decode b_La_read 50 = .ok (.lcmp, 1) := by decide +kernel
theorem d_La_read_51 : decode b_La_read 51 = .ok (.ifCond .lt 22, 3) := by decide +kernel
theorem d_La_read_54 : decode b_La_read 54 = .ok (.lload_n 3, 1) := by decide +kernel
theorem d_La_read_55 : decode b_La_read 55 = .ok (.ldc2_w 65, 3) := by decide +kernel
theorem d_La_read_58 : decode b_La_read 58 = .ok (.lmul, 1) := by decide +kernel
theorem d_La_read_59 : decode b_La_read 59 = .ok (.aload_n 0, 1) := by decide +kernel
theorem d_La_read_60 : decode b_La_read 60 = .ok (.getfield 43, 3) := by decide +kernel
theorem d_La_read_63 : decode b_La_read 63 = .ok (.aload_n 0, 1) := by decide +kernel
theorem d_La_read_64 : decode b_La_read 64 = .ok (.getfield 47, 3) := by decide +kernel
theorem d_La_read_67 : decode b_La_read 67 = .ok (.isub, 1) := by decide +kernel
theorem d_La_read_68 : decode b_La_read 68 = .ok (.i2l, 1) := by decide +kernel
theorem d_La_read_69 : decode b_La_read 69 = .ok (.lcmp, 1) := by decide +kernel
theorem d_La_read_70 : decode b_La_read 70 = .ok (.ifCond .le 5, 3) := by decide +kernel
theorem d_La_read_73 : decode b_La_read 73 = .ok (.iconst 0, 1) := by decide +kernel
theorem d_La_read_74 : decode b_La_read 74 = .ok (.ireturn, 1) := by decide +kernel
theorem d_La_read_75 : decode b_La_read 75 = .ok (.iconst 0, 1) := by decide +kernel
theorem d_La_read_76 : decode b_La_read 76 = .ok (.istore 5, 2) := by decide +kernel
theorem d_La_read_78 : decode b_La_read 78 = .ok (.iload 5, 2) := by decide +kernel
theorem d_La_read_80 : decode b_La_read 80 = .ok (.i2l, 1) := by decide +kernel
theorem d_La_read_81 : decode b_La_read 81 = .ok (.lload_n 3, 1) := by decide +kernel
theorem d_La_read_82 : decode b_La_read 82 = .ok (.lcmp, 1) := by decide +kernel
theorem d_La_read_83 : decode b_La_read 83 = .ok (.ifCond .ge 20, 3) := by decide +kernel
theorem d_La_read_86 : decode b_La_read 86 = .ok (.aload_n 0, 1) := by decide +kernel
theorem d_La_read_87 : decode b_La_read 87 = .ok (.iload 5, 2) := by decide +kernel
theorem d_La_read_89 : decode b_La_read 89 = .ok (.invokevirtual 67, 3) := by decide +kernel
theorem d_La_read_92 : decode b_La_read 92 = .ok (.ifCond .ne 5, 3) := by decide +kernel
theorem d_La_read_95 : decode b_La_read 95 = .ok (.iconst 0, 1) := by decide +kernel
theorem d_La_read_96 : decode b_La_read 96 = .ok (.ireturn, 1) := by decide +kernel
theorem d_La_read_97 : decode b_La_read 97 = .ok (.iinc 5 1, 3) := by decide +kernel
theorem d_La_read_100 : decode b_La_read 100 = .ok (.goto (-22), 3) := by decide +kernel
theorem d_La_read_103 : decode b_La_read 103 = .ok (.aload_n 0, 1) := by decide +kernel
theorem d_La_read_104 : decode b_La_read 104 = .ok (.lload_n 3, 1) := by decide +kernel
theorem d_La_read_105 : decode b_La_read 105 = .ok (.l2i, 1) := by decide +kernel
theorem d_La_read_106 : decode b_La_read 106 = .ok (.putfield 50, 3) := by decide +kernel
theorem d_La_read_109 : decode b_La_read 109 = .ok (.aload_n 0, 1) := by decide +kernel
theorem d_La_read_110 : decode b_La_read 110 = .ok (.getfield 47, 3) := by decide +kernel
theorem d_La_read_113 : decode b_La_read 113 = .ok (.aload_n 0, 1) := by decide +kernel
theorem d_La_read_114 : decode b_La_read 114 = .ok (.getfield 43, 3) := by decide +kernel
theorem d_La_read_117 : decode b_La_read 117 = .ok (.if_icmp .ne 7, 3) := by decide +kernel
theorem d_La_read_120 : decode b_La_read 120 = .ok (.iconst 1, 1) := by decide +kernel
theorem d_La_read_121 : decode b_La_read 121 = .ok (.goto 4, 3) := by decide +kernel
theorem d_La_read_124 : decode b_La_read 124 = .ok (.iconst 0, 1) := by decide +kernel
theorem d_La_read_125 : decode b_La_read 125 = .ok (.ireturn, 1) := by decide +kernel
abbrev rm_La_read_y0raw : Room := { frames := 0, cells := 0, slots := 0, locals := 0 }
abbrev q_La_read_y0raw (D : va_G) (cy : Nat → ClassId) (A : Nat → Prop) (o : Nat) (v_a_txAt : Value) (v_a_firstIn : Value) (v_a_firstOut : Value) (v_a_inAt : Value) (v_a_inScript : Value) (v_a_inEnd : Value) (v_a_outAt : Value) (v_a_outScript : Value) (v_a_outEnd : Value) (b1 : Nat) (n1 : Nat) (h1 : Nat → Int32) (res : Int32 × Int32 × Int32 × Int32 × Int32 × Int32) : Array Value → State → Outcome → State → Prop := va_Qi (fun r' (_ : Unit) => r' = res.1) (fun _ t => Po D cy A [(o, .inr (4, [.ref b1, .int res.2.1, v_a_txAt, v_a_firstIn, v_a_firstOut, v_a_inAt, v_a_inScript, v_a_inEnd, v_a_outAt, v_a_outScript, v_a_outEnd, .int res.2.2.1, .int res.2.2.2.1, .int res.2.2.2.2.1, .int res.2.2.2.2.2])), (b1, .inl (cy 0, n1, .inl h1))] t) A
def I_La_read_y0raw_78 (p : Program) (l : Launch) (e : Env) (s : State) (m : MethodId) (args : Array Value) (below : List Frame) (meth : Method) (c : Code) (D : va_G) (cy : Nat → ClassId) (A : Nat → Prop) (ad : Nat → Nat) (o : Nat) (v_a_txAt : Value) (v_a_firstIn : Value) (v_a_firstOut : Value) (v_a_inAt : Value) (v_a_inScript : Value) (v_a_inEnd : Value) (v_a_outAt : Value) (v_a_outScript : Value) (v_a_outEnd : Value) (b1 : Nat) (n1 : Nat) (h1 : Nat → Int32) (k : Int64 → Int32 → Int32 → Int32 → Int32 → Int32 → Int32 → Option (Int32 × Int32 × Int32 × Int32 × Int32 × Int32)) : Prop :=
  ∀ (x3 : Int64) (x5 : Int32) (u0 : Int32) (u1 : Int32) (u2 : Int32) (u3 : Int32) (u4 : Int32) (res : Int32 × Int32 × Int32 × Int32 × Int32 × Int32), k x3 x5 u0 u1 u2 u3 u4 = some res → ∀ (H : Heap) (locs : List Loc) (ls : Array Slot), va_P D classes [(o, .inr (4, [.ref b1, .int u0, v_a_txAt, v_a_firstIn, v_a_firstOut, v_a_inAt, v_a_inScript, v_a_inEnd, v_a_outAt, v_a_outScript, v_a_outEnd, .int u1, .int u2, .int u3, .int u4])), (b1, .inl (cy 0, n1, .inl h1))] H → va_D A [(o, .inr (4, [.ref b1, .int u0, v_a_txAt, v_a_firstIn, v_a_firstOut, v_a_inAt, v_a_inScript, v_a_inEnd, v_a_outAt, v_a_outScript, v_a_outEnd, .int u1, .int u2, .int u3, .int u4])), (b1, .inl (cy 0, n1, .inl h1))] → va_S A s.heap H locs → lv_has ls 6 [(0, .ref o), (3, .long x3), (5, .int x5)] → W p l e rm_La_read_y0raw s m args below meth c H locs 0 0 (MQ below (q_La_read_y0raw D cy A o v_a_txAt v_a_firstIn v_a_firstOut v_a_inAt v_a_inScript v_a_inEnd v_a_outAt v_a_outScript v_a_outEnd b1 n1 h1 res) args s 0 0 A) (F0 m 78 ls [])
def I_La_read_y0raw_47 (p : Program) (l : Launch) (e : Env) (s : State) (m : MethodId) (args : Array Value) (below : List Frame) (meth : Method) (c : Code) (D : va_G) (cy : Nat → ClassId) (A : Nat → Prop) (ad : Nat → Nat) (o : Nat) (v_a_txAt : Value) (v_a_firstIn : Value) (v_a_firstOut : Value) (v_a_inAt : Value) (v_a_inScript : Value) (v_a_inEnd : Value) (v_a_outAt : Value) (v_a_outScript : Value) (v_a_outEnd : Value) (b1 : Nat) (n1 : Nat) (h1 : Nat → Int32) (k : Int64 → Int32 → Int32 → Int32 → Int32 → Int32 → Option (Int32 × Int32 × Int32 × Int32 × Int32 × Int32)) : Prop :=
  ∀ (y0 : Int64) (u0 : Int32) (u1 : Int32) (u2 : Int32) (u3 : Int32) (u4 : Int32) (res : Int32 × Int32 × Int32 × Int32 × Int32 × Int32), k y0 u0 u1 u2 u3 u4 = some res → ∀ (H : Heap) (locs : List Loc) (ls : Array Slot), va_P D classes [(o, .inr (4, [.ref b1, .int u0, v_a_txAt, v_a_firstIn, v_a_firstOut, v_a_inAt, v_a_inScript, v_a_inEnd, v_a_outAt, v_a_outScript, v_a_outEnd, .int u1, .int u2, .int u3, .int u4])), (b1, .inl (cy 0, n1, .inl h1))] H → va_D A [(o, .inr (4, [.ref b1, .int u0, v_a_txAt, v_a_firstIn, v_a_firstOut, v_a_inAt, v_a_inScript, v_a_inEnd, v_a_outAt, v_a_outScript, v_a_outEnd, .int u1, .int u2, .int u3, .int u4])), (b1, .inl (cy 0, n1, .inl h1))] → va_S A s.heap H locs → lv_has ls 6 [(0, .ref o)] → W p l e rm_La_read_y0raw s m args below meth c H locs 0 0 (MQ below (q_La_read_y0raw D cy A o v_a_txAt v_a_firstIn v_a_firstOut v_a_inAt v_a_inScript v_a_inEnd v_a_outAt v_a_outScript v_a_outEnd b1 n1 h1 res) args s 0 0 A) (F0 m 47 ls [.long y0])
def I_La_read_y0raw_e (p : Program) (l : Launch) (e : Env) (s : State) (m : MethodId) (args : Array Value) (below : List Frame) (meth : Method) (c : Code) (D : va_G) (cy : Nat → ClassId) (A : Nat → Prop) (ad : Nat → Nat) (o : Nat) (v_a_txAt : Value) (v_a_firstIn : Value) (v_a_firstOut : Value) (v_a_inAt : Value) (v_a_inScript : Value) (v_a_inEnd : Value) (v_a_outAt : Value) (v_a_outScript : Value) (v_a_outEnd : Value) (b1 : Nat) (n1 : Nat) (h1 : Nat → Int32) (k : Int32 → Int32 → Int32 → Int32 → Int32 → Int32 → Option (Int32 × Int32 × Int32 × Int32 × Int32 × Int32)) : Prop :=
  ∀ (a2 : Int32) (u0 : Int32) (u1 : Int32) (u2 : Int32) (u3 : Int32) (u4 : Int32) (res : Int32 × Int32 × Int32 × Int32 × Int32 × Int32), k a2 u0 u1 u2 u3 u4 = some res → ∀ (H : Heap) (locs : List Loc) (ls : Array Slot), va_P D classes [(o, .inr (4, [.null, .int u0, v_a_txAt, v_a_firstIn, v_a_firstOut, v_a_inAt, v_a_inScript, v_a_inEnd, v_a_outAt, v_a_outScript, v_a_outEnd, .int u1, .int u2, .int u3, .int u4])), (b1, .inl (cy 0, n1, .inl h1))] H → va_D A [(o, .inr (4, [.null, .int u0, v_a_txAt, v_a_firstIn, v_a_firstOut, v_a_inAt, v_a_inScript, v_a_inEnd, v_a_outAt, v_a_outScript, v_a_outEnd, .int u1, .int u2, .int u3, .int u4])), (b1, .inl (cy 0, n1, .inl h1))] → va_S A s.heap H locs → lv_has ls 6 [(0, .ref o), (1, .ref b1), (2, .int a2)] → W p l e rm_La_read_y0raw s m args below meth c H locs 0 0 (MQ below (q_La_read_y0raw D cy A o v_a_txAt v_a_firstIn v_a_firstOut v_a_inAt v_a_inScript v_a_inEnd v_a_outAt v_a_outScript v_a_outEnd b1 n1 h1 res) args s 0 0 A) (F0 m 0 ls [])
def xb_La_read_y0raw_78 (fu : Nat) (n1 : Nat) (h1 : Nat → Int32) (k_78 : Int64 → Int32 → Int32 → Int32 → Int32 → Int32 → Int32 → Option (Int32 × Int32 × Int32 × Int32 × Int32 × Int32)) (x3 : Int64) (x5 : Int32) (u0 : Int32) (u1 : Int32) (u2 : Int32) (u3 : Int32) (u4 : Int32) : Option (Int32 × Int32 × Int32 × Int32 × Int32 × Int32) :=
  bnd (x5.toInt64) fun v1 => if 0 ≤ (lg_cmp v1 x3) then (bnd (x3.toInt32) fun v2 => if u2 = u1 then (some ((1 : Int32), v2, u1, u2, u3, u4)) else (some ((0 : Int32), v2, u1, u2, u3, u4))) else (none)
set_option maxHeartbeats 8000000 in
set_option maxRecDepth 100000 in
theorem wb_La_read_y0raw_78 {p : Program} {l : Launch} {e : Env} {s : State} {m : MethodId} {args : Array Value} {below : List Frame} {meth : Method} {c : Code} {D : va_G} {cy : Nat → ClassId} {A : Nat → Prop} {ad : Nat → Nat} {o : Nat} {v_a_txAt : Value} {v_a_firstIn : Value} {v_a_firstOut : Value} {v_a_inAt : Value} {v_a_inScript : Value} {v_a_inEnd : Value} {v_a_outAt : Value} {v_a_outScript : Value} {v_a_outEnd : Value} {b1 : Nat} {n1 : Nat} {h1 : Nat → Int32} {fu : Nat} {k_78 : Int64 → Int32 → Int32 → Int32 → Int32 → Int32 → Int32 → Option (Int32 × Int32 × Int32 × Int32 × Int32 × Int32)} (F : Fx p s m args meth c b_La_read 6 "CoinKeeper$Layout" "read" (some .boolean) D cy ad A) (hk_78 : I_La_read_y0raw_78 p l e s m args below meth c D cy A ad o v_a_txAt v_a_firstIn v_a_firstOut v_a_inAt v_a_inScript v_a_inEnd v_a_outAt v_a_outScript v_a_outEnd b1 n1 h1 k_78) : I_La_read_y0raw_78 p l e s m args below meth c D cy A ad o v_a_txAt v_a_firstIn v_a_firstOut v_a_inAt v_a_inScript v_a_inEnd v_a_outAt v_a_outScript v_a_outEnd b1 n1 h1 (xb_La_read_y0raw_78 fu n1 h1 k_78) := by
  obtain ⟨hx, hb, hr, hml, hown, hts, hlocks, hK, hA, hSt, hnm, hex⟩ := id F
  intro x3 x5 u0 u1 u2 u3 u4 res hf H locs ls hP hD hS hl
  unfold xb_La_read_y0raw_78 at hf
  refine lv_iload hx hb d_La_read_78 (lv_at hl 2 rfl) ?_
  refine lv_i2l hx hb d_La_read_80 rfl ?_
  refine lv_topl (fun v1 ev => ?_)
  have hf := bn ev hf
  clear ev
  refine lv_lload_n hx hb d_La_read_81 rfl (lv_at hl 1 rfl) ?_
  refine W.lcmp hx hb d_La_read_82 ?_
  refine lv_if_ge (tgt := 103) hx hb d_La_read_83 (by decide) (fun cx => ?_) (fun cx => ?_)
  · have hf := ifp cx hf
    refine lv_aload_n hx hb d_La_read_103 rfl (lv_at hl 0 rfl) ?_
    refine lv_lload_n hx hb d_La_read_104 rfl (lv_at hl 1 rfl) ?_
    refine lv_l2i hx hb d_La_read_105 rfl ?_
    refine lv_topi (fun v2 ev => ?_)
    have hf := bn ev hf
    clear ev
    refine va_put (D := D) (ci := 4) (v := .int v2) (ty := .int) (C := "CoinKeeper$Layout") (T := F_4) (N := 15) hx hb hts i_4 t_4 t_4_ok n_4 hown hK hP hD hS 0 rfl rfl 1 (by decide) (hts _ gw_272) (fun _ h9 => h9) rfl (by decide +kernel) rfl rfl (Nat.le_of_ble_eq_true rfl) d_La_read_106 (fun H locs hP hD hS => ?_)
    have hP : va_P D classes [(o, .inr (4, [.ref b1, .int v2, v_a_txAt, v_a_firstIn, v_a_firstOut, v_a_inAt, v_a_inScript, v_a_inEnd, v_a_outAt, v_a_outScript, v_a_outEnd, .int u1, .int u2, .int u3, .int u4])), (b1, .inl (cy 0, n1, .inl h1))] H := hP
    have hD : va_D A [(o, .inr (4, [.ref b1, .int v2, v_a_txAt, v_a_firstIn, v_a_firstOut, v_a_inAt, v_a_inScript, v_a_inEnd, v_a_outAt, v_a_outScript, v_a_outEnd, .int u1, .int u2, .int u3, .int u4])), (b1, .inl (cy 0, n1, .inl h1))] := hD
    refine lv_aload_n hx hb d_La_read_109 rfl (lv_at hl 0 rfl) ?_
    refine va_get (D := D) (ci := 4) (v := .int u2) (C := "CoinKeeper$Layout") (T := F_4) (N := 15) hx hb hts i_4 hown hK hP 0 rfl rfl 12 (by decide) (hts _ gw_297) (fun _ h9 => h9) rfl d_La_read_110 ?_
    refine lv_aload_n hx hb d_La_read_113 rfl (lv_at hl 0 rfl) ?_
    refine va_get (D := D) (ci := 4) (v := .int u1) (C := "CoinKeeper$Layout") (T := F_4) (N := 15) hx hb hts i_4 hown hK hP 0 rfl rfl 11 (by decide) (hts _ gw_296) (fun _ h9 => h9) rfl d_La_read_114 ?_
    refine lv_icmp_ne (tgt := 124) hx hb d_La_read_117 (by decide) (fun cx => ?_) (fun cx => ?_)
    · have hf := ifn cx hf
      refine lv_iconst (v := 0) hx hb d_La_read_124 (by decide) ?_
      obtain rfl := Option.some.inj hf
      exact q_rz hx hb hr hlocks hK hP hD hS (isb_n (v := 0) (by decide)) d_La_read_125
    · have hf := ifp cx hf
      refine lv_iconst (v := 1) hx hb d_La_read_120 (by decide) ?_
      refine lv_goto (tgt := 125) hx hb d_La_read_121 (by decide) ?_
      obtain rfl := Option.some.inj hf
      exact q_rz hx hb hr hlocks hK hP hD hS (isb_n (v := 1) (by decide)) d_La_read_125
  · have hf := ifn cx hf
    refine lv_aload_n hx hb d_La_read_86 rfl (lv_at hl 0 rfl) ?_
    refine lv_iload hx hb d_La_read_87 (lv_at hl 2 rfl) ?_
    exact nomatch hf
def x_La_read_y0raw_78 (fu : Nat) (n1 : Nat) (h1 : Nat → Int32) : Nat → Int64 → Int32 → Int32 → Int32 → Int32 → Int32 → Int32 → Option (Int32 × Int32 × Int32 × Int32 × Int32 × Int32)
  | 0 => fun _ _ _ _ _ _ _ => none
  | n + 1 => xb_La_read_y0raw_78 fu n1 h1 (x_La_read_y0raw_78 fu n1 h1 n)
theorem w_La_read_y0raw_78 {p : Program} {l : Launch} {e : Env} {s : State} {m : MethodId} {args : Array Value} {below : List Frame} {meth : Method} {c : Code} {D : va_G} {cy : Nat → ClassId} {A : Nat → Prop} {ad : Nat → Nat} {o : Nat} {v_a_txAt : Value} {v_a_firstIn : Value} {v_a_firstOut : Value} {v_a_inAt : Value} {v_a_inScript : Value} {v_a_inEnd : Value} {v_a_outAt : Value} {v_a_outScript : Value} {v_a_outEnd : Value} {b1 : Nat} {n1 : Nat} {h1 : Nat → Int32} {fu : Nat} (F : Fx p s m args meth c b_La_read 6 "CoinKeeper$Layout" "read" (some .boolean) D cy ad A) : ∀ n : Nat, I_La_read_y0raw_78 p l e s m args below meth c D cy A ad o v_a_txAt v_a_firstIn v_a_firstOut v_a_inAt v_a_inScript v_a_inEnd v_a_outAt v_a_outScript v_a_outEnd b1 n1 h1 (x_La_read_y0raw_78 fu n1 h1 n)
  | 0 => fun _ _ _ _ _ _ _ _ hf => nomatch (show (none : Option (Int32 × Int32 × Int32 × Int32 × Int32 × Int32)) = some _ from hf)
  | n + 1 => wb_La_read_y0raw_78 F (w_La_read_y0raw_78 F n)
def xb_La_read_y0raw_47 (fu : Nat) (n1 : Nat) (h1 : Nat → Int32) (y0 : Int64) (u0 : Int32) (u1 : Int32) (u2 : Int32) (u3 : Int32) (u4 : Int32) : Option (Int32 × Int32 × Int32 × Int32 × Int32 × Int32) :=
  if (lg_cmp y0 (0 : Int64)) < 0 then (some ((0 : Int32), u0, u1, u2, u3, u4)) else (bnd (y0 * (10 : Int64)) fun v1 => if (lg_cmp v1 ((u1 - u2).toInt64)) ≤ 0 then (x_La_read_y0raw_78 fu n1 h1 fu y0 (0 : Int32) u0 u1 u2 u3 u4) else (some ((0 : Int32), u0, u1, u2, u3, u4)))
set_option maxHeartbeats 8000000 in
set_option maxRecDepth 100000 in
theorem wb_La_read_y0raw_47 {p : Program} {l : Launch} {e : Env} {s : State} {m : MethodId} {args : Array Value} {below : List Frame} {meth : Method} {c : Code} {D : va_G} {cy : Nat → ClassId} {A : Nat → Prop} {ad : Nat → Nat} {o : Nat} {v_a_txAt : Value} {v_a_firstIn : Value} {v_a_firstOut : Value} {v_a_inAt : Value} {v_a_inScript : Value} {v_a_inEnd : Value} {v_a_outAt : Value} {v_a_outScript : Value} {v_a_outEnd : Value} {b1 : Nat} {n1 : Nat} {h1 : Nat → Int32} {fu : Nat} (F : Fx p s m args meth c b_La_read 6 "CoinKeeper$Layout" "read" (some .boolean) D cy ad A) : I_La_read_y0raw_47 p l e s m args below meth c D cy A ad o v_a_txAt v_a_firstIn v_a_firstOut v_a_inAt v_a_inScript v_a_inEnd v_a_outAt v_a_outScript v_a_outEnd b1 n1 h1 (xb_La_read_y0raw_47 fu n1 h1) := by
  obtain ⟨hx, hb, hr, hml, hown, hts, hlocks, hK, hA, hSt, hnm, hex⟩ := id F
  intro y0 u0 u1 u2 u3 u4 res hf H locs ls hP hD hS hl
  unfold xb_La_read_y0raw_47 at hf
  refine lv_lstore_n (lv' := [(3, .long y0), (0, .ref o)]) hx hb d_La_read_47 rfl hl (by decide) rfl (fun ls hl => ?_)
  refine lv_lload_n hx hb d_La_read_48 rfl (lv_at hl 0 rfl) ?_
  refine lv_lconst (v := 0) hx hb d_La_read_49 (by decide) ?_
  refine W.lcmp hx hb d_La_read_50 ?_
  refine lv_if_lt (tgt := 73) hx hb d_La_read_51 (by decide) (fun cx => ?_) (fun cx => ?_)
  · have hf := ifp cx hf
    refine lv_iconst (v := 0) hx hb d_La_read_73 (by decide) ?_
    obtain rfl := Option.some.inj hf
    exact q_rz hx hb hr hlocks hK hP hD hS (isb_n (v := 0) (by decide)) d_La_read_74
  · have hf := ifn cx hf
    refine lv_lload_n hx hb d_La_read_54 rfl (lv_at hl 0 rfl) ?_
    refine lv_ldc2 (v := 10) hx hb hown (hts _ gw_689) d_La_read_55 ?_
    refine lv_lmul hx hb d_La_read_58 ?_
    refine lv_topl (fun v1 ev => ?_)
    have hf := bn ev hf
    clear ev
    refine lv_aload_n hx hb d_La_read_59 rfl (lv_at hl 1 rfl) ?_
    refine va_get (D := D) (ci := 4) (v := .int u1) (C := "CoinKeeper$Layout") (T := F_4) (N := 15) hx hb hts i_4 hown hK hP 0 rfl rfl 11 (by decide) (hts _ gw_296) (fun _ h9 => h9) rfl d_La_read_60 ?_
    refine lv_aload_n hx hb d_La_read_63 rfl (lv_at hl 1 rfl) ?_
    refine va_get (D := D) (ci := 4) (v := .int u2) (C := "CoinKeeper$Layout") (T := F_4) (N := 15) hx hb hts i_4 hown hK hP 0 rfl rfl 12 (by decide) (hts _ gw_297) (fun _ h9 => h9) rfl d_La_read_64 ?_
    refine lv_isub hx hb d_La_read_67 ?_
    refine lv_i2l hx hb d_La_read_68 rfl ?_
    refine W.lcmp hx hb d_La_read_69 ?_
    refine lv_if_le (tgt := 75) hx hb d_La_read_70 (by decide) (fun cx => ?_) (fun cx => ?_)
    · have hf := ifp cx hf
      refine lv_iconst (v := 0) hx hb d_La_read_75 (by decide) ?_
      refine lv_istore (lv' := [(5, .int (0 : Int32)), (3, .long y0), (0, .ref o)]) hx hb d_La_read_76 hl (by decide) rfl (fun ls hl => ?_)
      exact w_La_read_y0raw_78 F fu _ _ _ _ _ _ _ _ hf _ _ _ hP hD hS (lv_sub hl [2, 1, 0] rfl)
    · have hf := ifn cx hf
      refine lv_iconst (v := 0) hx hb d_La_read_73 (by decide) ?_
      obtain rfl := Option.some.inj hf
      exact q_rz hx hb hr hlocks hK hP hD hS (isb_n (v := 0) (by decide)) d_La_read_74
def x_La_read_y0raw (fu : Nat) (n1 : Nat) (h1 : Nat → Int32) (a2 : Int32) (u0 : Int32) (u1 : Int32) (u2 : Int32) (u3 : Int32) (u4 : Int32) : Option (Int32 × Int32 × Int32 × Int32 × Int32 × Int32) :=
  if (80 : Int32) ≤ a2 then (none) else (xb_La_read_y0raw_47 fu n1 h1 (-1 : Int64) (0 : Int32) a2 (80 : Int32) (0 : Int32) (0 : Int32))
set_option maxHeartbeats 8000000 in
set_option maxRecDepth 100000 in
theorem we_La_read_y0raw {p : Program} {l : Launch} {e : Env} {s : State} {m : MethodId} {args : Array Value} {below : List Frame} {meth : Method} {c : Code} {D : va_G} {cy : Nat → ClassId} {A : Nat → Prop} {ad : Nat → Nat} {o : Nat} {v_a_txAt : Value} {v_a_firstIn : Value} {v_a_firstOut : Value} {v_a_inAt : Value} {v_a_inScript : Value} {v_a_inEnd : Value} {v_a_outAt : Value} {v_a_outScript : Value} {v_a_outEnd : Value} {b1 : Nat} {n1 : Nat} {h1 : Nat → Int32} {fu : Nat} (F : Fx p s m args meth c b_La_read 6 "CoinKeeper$Layout" "read" (some .boolean) D cy ad A) : I_La_read_y0raw_e p l e s m args below meth c D cy A ad o v_a_txAt v_a_firstIn v_a_firstOut v_a_inAt v_a_inScript v_a_inEnd v_a_outAt v_a_outScript v_a_outEnd b1 n1 h1 (x_La_read_y0raw fu n1 h1) := by
  obtain ⟨hx, hb, hr, hml, hown, hts, hlocks, hK, hA, hSt, hnm, hex⟩ := id F
  intro a2 u0 u1 u2 u3 u4 res hf H locs ls hP hD hS hl
  unfold x_La_read_y0raw at hf
  refine lv_aload_n hx hb d_La_read_0 rfl (lv_at hl 0 rfl) ?_
  refine lv_aload_n hx hb d_La_read_1 rfl (lv_at hl 1 rfl) ?_
  refine va_put (D := D) (ci := 4) (v := .ref b1) (ty := .array .byte) (C := "CoinKeeper$Layout") (T := F_4) (N := 15) hx hb hts i_4 t_4 t_4_ok n_4 hown hK hP hD hS 0 rfl rfl 0 (by decide) (hts _ gw_269) (fun _ h9 => h9) rfl (by decide +kernel) rfl rfl (Nat.le_of_ble_eq_true rfl) d_La_read_2 (fun H locs hP hD hS => ?_)
  have hP : va_P D classes [(o, .inr (4, [.ref b1, .int u0, v_a_txAt, v_a_firstIn, v_a_firstOut, v_a_inAt, v_a_inScript, v_a_inEnd, v_a_outAt, v_a_outScript, v_a_outEnd, .int u1, .int u2, .int u3, .int u4])), (b1, .inl (cy 0, n1, .inl h1))] H := hP
  have hD : va_D A [(o, .inr (4, [.ref b1, .int u0, v_a_txAt, v_a_firstIn, v_a_firstOut, v_a_inAt, v_a_inScript, v_a_inEnd, v_a_outAt, v_a_outScript, v_a_outEnd, .int u1, .int u2, .int u3, .int u4])), (b1, .inl (cy 0, n1, .inl h1))] := hD
  refine lv_aload_n hx hb d_La_read_5 rfl (lv_at hl 0 rfl) ?_
  refine lv_iload_n hx hb d_La_read_6 rfl (lv_at hl 2 rfl) ?_
  refine va_put (D := D) (ci := 4) (v := .int a2) (ty := .int) (C := "CoinKeeper$Layout") (T := F_4) (N := 15) hx hb hts i_4 t_4 t_4_ok n_4 hown hK hP hD hS 0 rfl rfl 11 (by decide) (hts _ gw_296) (fun _ h9 => h9) rfl (by decide +kernel) rfl rfl (Nat.le_of_ble_eq_true rfl) d_La_read_7 (fun H locs hP hD hS => ?_)
  have hP : va_P D classes [(o, .inr (4, [.ref b1, .int u0, v_a_txAt, v_a_firstIn, v_a_firstOut, v_a_inAt, v_a_inScript, v_a_inEnd, v_a_outAt, v_a_outScript, v_a_outEnd, .int a2, .int u2, .int u3, .int u4])), (b1, .inl (cy 0, n1, .inl h1))] H := hP
  have hD : va_D A [(o, .inr (4, [.ref b1, .int u0, v_a_txAt, v_a_firstIn, v_a_firstOut, v_a_inAt, v_a_inScript, v_a_inEnd, v_a_outAt, v_a_outScript, v_a_outEnd, .int a2, .int u2, .int u3, .int u4])), (b1, .inl (cy 0, n1, .inl h1))] := hD
  refine lv_aload_n hx hb d_La_read_10 rfl (lv_at hl 0 rfl) ?_
  refine lv_bipush (v := 80) hx hb d_La_read_11 (by decide) ?_
  refine va_put (D := D) (ci := 4) (v := .int (80 : Int32)) (ty := .int) (C := "CoinKeeper$Layout") (T := F_4) (N := 15) hx hb hts i_4 t_4 t_4_ok n_4 hown hK hP hD hS 0 rfl rfl 12 (by decide) (hts _ gw_297) (fun _ h9 => h9) rfl (by decide +kernel) rfl rfl (Nat.le_of_ble_eq_true rfl) d_La_read_13 (fun H locs hP hD hS => ?_)
  have hP : va_P D classes [(o, .inr (4, [.ref b1, .int u0, v_a_txAt, v_a_firstIn, v_a_firstOut, v_a_inAt, v_a_inScript, v_a_inEnd, v_a_outAt, v_a_outScript, v_a_outEnd, .int a2, .int (80 : Int32), .int u3, .int u4])), (b1, .inl (cy 0, n1, .inl h1))] H := hP
  have hD : va_D A [(o, .inr (4, [.ref b1, .int u0, v_a_txAt, v_a_firstIn, v_a_firstOut, v_a_inAt, v_a_inScript, v_a_inEnd, v_a_outAt, v_a_outScript, v_a_outEnd, .int a2, .int (80 : Int32), .int u3, .int u4])), (b1, .inl (cy 0, n1, .inl h1))] := hD
  refine lv_aload_n hx hb d_La_read_16 rfl (lv_at hl 0 rfl) ?_
  refine lv_iconst (v := 0) hx hb d_La_read_17 (by decide) ?_
  refine va_put (D := D) (ci := 4) (v := .int (0 : Int32)) (ty := .int) (C := "CoinKeeper$Layout") (T := F_4) (N := 15) hx hb hts i_4 t_4 t_4_ok n_4 hown hK hP hD hS 0 rfl rfl 1 (by decide) (hts _ gw_272) (fun _ h9 => h9) rfl (by decide +kernel) rfl rfl (Nat.le_of_ble_eq_true rfl) d_La_read_18 (fun H locs hP hD hS => ?_)
  have hP : va_P D classes [(o, .inr (4, [.ref b1, .int (0 : Int32), v_a_txAt, v_a_firstIn, v_a_firstOut, v_a_inAt, v_a_inScript, v_a_inEnd, v_a_outAt, v_a_outScript, v_a_outEnd, .int a2, .int (80 : Int32), .int u3, .int u4])), (b1, .inl (cy 0, n1, .inl h1))] H := hP
  have hD : va_D A [(o, .inr (4, [.ref b1, .int (0 : Int32), v_a_txAt, v_a_firstIn, v_a_firstOut, v_a_inAt, v_a_inScript, v_a_inEnd, v_a_outAt, v_a_outScript, v_a_outEnd, .int a2, .int (80 : Int32), .int u3, .int u4])), (b1, .inl (cy 0, n1, .inl h1))] := hD
  refine lv_aload_n hx hb d_La_read_21 rfl (lv_at hl 0 rfl) ?_
  refine lv_iconst (v := 0) hx hb d_La_read_22 (by decide) ?_
  refine va_put (D := D) (ci := 4) (v := .int (0 : Int32)) (ty := .int) (C := "CoinKeeper$Layout") (T := F_4) (N := 15) hx hb hts i_4 t_4 t_4_ok n_4 hown hK hP hD hS 0 rfl rfl 13 (by decide) (hts _ gw_298) (fun _ h9 => h9) rfl (by decide +kernel) rfl rfl (Nat.le_of_ble_eq_true rfl) d_La_read_23 (fun H locs hP hD hS => ?_)
  have hP : va_P D classes [(o, .inr (4, [.ref b1, .int (0 : Int32), v_a_txAt, v_a_firstIn, v_a_firstOut, v_a_inAt, v_a_inScript, v_a_inEnd, v_a_outAt, v_a_outScript, v_a_outEnd, .int a2, .int (80 : Int32), .int (0 : Int32), .int u4])), (b1, .inl (cy 0, n1, .inl h1))] H := hP
  have hD : va_D A [(o, .inr (4, [.ref b1, .int (0 : Int32), v_a_txAt, v_a_firstIn, v_a_firstOut, v_a_inAt, v_a_inScript, v_a_inEnd, v_a_outAt, v_a_outScript, v_a_outEnd, .int a2, .int (80 : Int32), .int (0 : Int32), .int u4])), (b1, .inl (cy 0, n1, .inl h1))] := hD
  refine lv_aload_n hx hb d_La_read_26 rfl (lv_at hl 0 rfl) ?_
  refine lv_iconst (v := 0) hx hb d_La_read_27 (by decide) ?_
  refine va_put (D := D) (ci := 4) (v := .int (0 : Int32)) (ty := .int) (C := "CoinKeeper$Layout") (T := F_4) (N := 15) hx hb hts i_4 t_4 t_4_ok n_4 hown hK hP hD hS 0 rfl rfl 14 (by decide) (hts _ gw_299) (fun _ h9 => h9) rfl (by decide +kernel) rfl rfl (Nat.le_of_ble_eq_true rfl) d_La_read_28 (fun H locs hP hD hS => ?_)
  have hP : va_P D classes [(o, .inr (4, [.ref b1, .int (0 : Int32), v_a_txAt, v_a_firstIn, v_a_firstOut, v_a_inAt, v_a_inScript, v_a_inEnd, v_a_outAt, v_a_outScript, v_a_outEnd, .int a2, .int (80 : Int32), .int (0 : Int32), .int (0 : Int32)])), (b1, .inl (cy 0, n1, .inl h1))] H := hP
  have hD : va_D A [(o, .inr (4, [.ref b1, .int (0 : Int32), v_a_txAt, v_a_firstIn, v_a_firstOut, v_a_inAt, v_a_inScript, v_a_inEnd, v_a_outAt, v_a_outScript, v_a_outEnd, .int a2, .int (80 : Int32), .int (0 : Int32), .int (0 : Int32)])), (b1, .inl (cy 0, n1, .inl h1))] := hD
  refine lv_iload_n hx hb d_La_read_31 rfl (lv_at hl 2 rfl) ?_
  refine lv_bipush (v := 80) hx hb d_La_read_32 (by decide) ?_
  refine lv_icmp_ge (tgt := 43) hx hb d_La_read_34 (by decide) (fun cx => ?_) (fun cx => ?_)
  · have hf := ifp cx hf
    refine lv_aload_n hx hb d_La_read_43 rfl (lv_at hl 0 rfl) ?_
    exact nomatch hf
  · have hf := ifn cx hf
    refine lv_ldc2 (v := (-1)) hx hb hown (hts _ gw_683) d_La_read_37 ?_
    refine lv_goto (tgt := 47) hx hb d_La_read_40 (by decide) ?_
    exact wb_La_read_y0raw_47 (fu := fu) F _ _ _ _ _ _ _ hf _ _ _ hP hD hS (lv_sub hl [0] rfl)
theorem c_La_read_y0raw (l : Launch) (D : va_G) (cy : Nat → ClassId) (ad : Nat → Nat) (fu : Nat) (o : Nat) (v_a_txAt : Value) (v_a_firstIn : Value) (v_a_firstOut : Value) (v_a_inAt : Value) (v_a_inScript : Value) (v_a_inEnd : Value) (v_a_outAt : Value) (v_a_outScript : Value) (v_a_outEnd : Value) (b1 : Nat) (n1 : Nat) (h1 : Nat → Int32) (a2 : Int32) (u0 : Int32) (u1 : Int32) (u2 : Int32) (u3 : Int32) (u4 : Int32) (res : Int32 × Int32 × Int32 × Int32 × Int32 × Int32) (hf : x_La_read_y0raw fu n1 h1 a2 u0 u1 u2 u3 u4 = some res) (sz : Nat) : Met l ({ cls := "CoinKeeper$Layout", name := "read", desc := "([BI)Z" } : Jvm.MethodName) (.code ({ cls := "CoinKeeper$Layout", name := "read", desc := "([BI)Z" } : Jvm.MethodName) b_La_read 6 (some .boolean) :: gw) rm_La_read_y0raw (va_Pc [.ref o, .ref b1, .int a2] (Pr D cy ad [(o, .inr (4, [.null, .int u0, v_a_txAt, v_a_firstIn, v_a_firstOut, v_a_inAt, v_a_inScript, v_a_inEnd, v_a_outAt, v_a_outScript, v_a_outEnd, .int u1, .int u2, .int u3, .int u4])), (b1, .inl (cy 0, n1, .inl h1))] sz)) (q_La_read_y0raw D cy (va_A [(o, .inr (4, [.null, .int u0, v_a_txAt, v_a_firstIn, v_a_firstOut, v_a_inAt, v_a_inScript, v_a_inEnd, v_a_outAt, v_a_outScript, v_a_outEnd, .int u1, .int u2, .int u3, .int u4])), (b1, .inl (cy 0, n1, .inl h1))] sz) o v_a_txAt v_a_firstIn v_a_firstOut v_a_inAt v_a_inScript v_a_inEnd v_a_outAt v_a_outScript v_a_outEnd b1 n1 h1 res) 0 0 (va_A [(o, .inr (4, [.null, .int u0, v_a_txAt, v_a_firstIn, v_a_firstOut, v_a_inAt, v_a_inScript, v_a_inEnd, v_a_outAt, v_a_outScript, v_a_outEnd, .int u1, .int u2, .int u3, .int u4])), (b1, .inl (cy 0, n1, .inl h1))] sz) :=
  q_met (Qc := fun A => q_La_read_y0raw D cy A o v_a_txAt v_a_firstIn v_a_firstOut v_a_inAt v_a_inScript v_a_inEnd v_a_outAt v_a_outScript v_a_outEnd b1 n1 h1 res) (by decide) rfl rfl (Nat.le_of_ble_eq_true rfl) (fun p e s m below meth c ls F hP hD hS hl => we_La_read_y0raw (fu := fu) F a2 u0 u1 u2 u3 u4 res hf _ _ _ hP hD hS hl) sz
abbrev b_K_refusal : ByteArray := prog_1_method_13_code
theorem d_K_refusal_0 : decode b_K_refusal 0 = .ok (.aload_n 0, 1) := by decide +kernel
theorem d_K_refusal_1 : decode b_K_refusal 1 = .ok (.getfield 42, 3) := by decide +kernel
theorem d_K_refusal_4 : decode b_K_refusal 4 = .ok (.aload_n 0, 1) := by decide +kernel
theorem d_K_refusal_5 : decode b_K_refusal 5 = .ok (.getfield 9, 3) := by decide +kernel
theorem d_K_refusal_8 : decode b_K_refusal 8 = .ok (.iload_n 1, 1) := by decide +kernel
theorem d_K_refusal_9 : decode b_K_refusal 9 = .ok (.invokevirtual 205, 3) := by decide +kernel
theorem d_K_refusal_12 : decode b_K_refusal 12 = .ok (.ifCond .ne 5, 3) := by decide +kernel
theorem d_K_refusal_15 : decode b_K_refusal 15 = .ok (.iconst 1, 1) := by decide +kernel
theorem d_K_refusal_16 : decode b_K_refusal 16 = .ok (.ireturn, 1) := by decide +kernel
theorem d_K_refusal_17 : decode b_K_refusal 17 = .ok (.aload_n 0, 1) := by decide +kernel
theorem d_K_refusal_18 : decode b_K_refusal 18 = .ok (.getfield 19, 3) := by decide +kernel
theorem d_K_refusal_21 : decode b_K_refusal 21 = .ok (.aload_n 0, 1) := by decide +kernel
theorem d_K_refusal_22 : decode b_K_refusal 22 = .ok (.getfield 9, 3) := by decide +kernel
theorem d_K_refusal_25 : decode b_K_refusal 25 = .ok (.iconst 0, 1) := by decide +kernel
theorem d_K_refusal_26 : decode b_K_refusal 26 = .ok (.bipush 80, 2) := by decide +kernel
theorem d_K_refusal_28 : decode b_K_refusal 28 = .ok (.aload_n 0, 1) := by decide +kernel
theorem d_K_refusal_29 : decode b_K_refusal 29 = .ok (.getfield 13, 3) := by decide +kernel
theorem d_K_refusal_32 : decode b_K_refusal 32 = .ok (.iconst 0, 1) := by decide +kernel
theorem d_K_refusal_33 : decode b_K_refusal 33 = .ok (.invokevirtual 162, 3) := by decide +kernel
theorem d_K_refusal_36 : decode b_K_refusal 36 = .ok (.aload_n 0, 1) := by decide +kernel
theorem d_K_refusal_37 : decode b_K_refusal 37 = .ok (.aload_n 0, 1) := by decide +kernel
theorem d_K_refusal_38 : decode b_K_refusal 38 = .ok (.getfield 13, 3) := by decide +kernel
theorem d_K_refusal_41 : decode b_K_refusal 41 = .ok (.iconst 0, 1) := by decide +kernel
theorem d_K_refusal_42 : decode b_K_refusal 42 = .ok (.invokevirtual 209, 3) := by decide +kernel
theorem d_K_refusal_45 : decode b_K_refusal 45 = .ok (.ifnull 5, 3) := by decide +kernel
theorem d_K_refusal_48 : decode b_K_refusal 48 = .ok (.iconst 2, 1) := by decide +kernel
theorem d_K_refusal_49 : decode b_K_refusal 49 = .ok (.ireturn, 1) := by decide +kernel
theorem d_K_refusal_50 : decode b_K_refusal 50 = .ok (.aload_n 0, 1) := by decide +kernel
theorem d_K_refusal_51 : decode b_K_refusal 51 = .ok (.aload_n 0, 1) := by decide +kernel
theorem d_K_refusal_52 : decode b_K_refusal 52 = .ok (.getfield 9, 3) := by decide +kernel
theorem d_K_refusal_55 : decode b_K_refusal 55 = .ok (.iconst 4, 1) := by decide +kernel
theorem d_K_refusal_56 : decode b_K_refusal 56 = .ok (.invokevirtual 209, 3) := by decide +kernel
theorem d_K_refusal_59 : decode b_K_refusal 59 = .ok (.astore_n 2, 1) := by decide +kernel
theorem d_K_refusal_60 : decode b_K_refusal 60 = .ok (.aload_n 2, 1) := by decide +kernel
theorem d_K_refusal_61 : decode b_K_refusal 61 = .ok (.ifnonnull 5, 3) := by decide +kernel
theorem d_K_refusal_64 : decode b_K_refusal 64 = .ok (.iconst 3, 1) := by decide +kernel
theorem d_K_refusal_65 : decode b_K_refusal 65 = .ok (.ireturn, 1) := by decide +kernel
theorem d_K_refusal_66 : decode b_K_refusal 66 = .ok (.aload_n 2, 1) := by decide +kernel
theorem d_K_refusal_67 : decode b_K_refusal 67 = .ok (.getfield 213, 3) := by decide +kernel
theorem d_K_refusal_70 : decode b_K_refusal 70 = .ok (.ifCond .eq 5, 3) := by decide +kernel
theorem d_K_refusal_73 : decode b_K_refusal 73 = .ok (.iconst 4, 1) := by decide +kernel
theorem d_K_refusal_74 : decode b_K_refusal 74 = .ok (.ireturn, 1) := by decide +kernel
theorem d_K_refusal_75 : decode b_K_refusal 75 = .ok (.aload_n 0, 1) := by decide +kernel
theorem d_K_refusal_76 : decode b_K_refusal 76 = .ok (.getfield 9, 3) := by decide +kernel
theorem d_K_refusal_79 : decode b_K_refusal 79 = .ok (.bipush 72, 2) := by decide +kernel
theorem d_K_refusal_81 : decode b_K_refusal 81 = .ok (.invokestatic 166, 3) := by decide +kernel
theorem d_K_refusal_84 : decode b_K_refusal 84 = .ok (.istore_n 3, 1) := by decide +kernel
theorem d_K_refusal_85 : decode b_K_refusal 85 = .ok (.iload_n 3, 1) := by decide +kernel
theorem d_K_refusal_86 : decode b_K_refusal 86 = .ok (.aload_n 2, 1) := by decide +kernel
theorem d_K_refusal_87 : decode b_K_refusal 87 = .ok (.invokevirtual 177, 3) := by decide +kernel
theorem d_K_refusal_90 : decode b_K_refusal 90 = .ok (.if_icmp .eq 5, 3) := by decide +kernel
theorem d_K_refusal_93 : decode b_K_refusal 93 = .ok (.iconst 5, 1) := by decide +kernel
theorem d_K_refusal_94 : decode b_K_refusal 94 = .ok (.ireturn, 1) := by decide +kernel
theorem d_K_refusal_95 : decode b_K_refusal 95 = .ok (.aload_n 0, 1) := by decide +kernel
theorem d_K_refusal_96 : decode b_K_refusal 96 = .ok (.getfield 13, 3) := by decide +kernel
theorem d_K_refusal_99 : decode b_K_refusal 99 = .ok (.iload_n 3, 1) := by decide +kernel
theorem d_K_refusal_100 : decode b_K_refusal 100 = .ok (.invokestatic 216, 3) := by decide +kernel
theorem d_K_refusal_103 : decode b_K_refusal 103 = .ok (.ifCond .eq 6, 3) := by decide +kernel
theorem d_K_refusal_106 : decode b_K_refusal 106 = .ok (.bipush 6, 2) := by decide +kernel
theorem d_K_refusal_108 : decode b_K_refusal 108 = .ok (.ireturn, 1) := by decide +kernel
theorem d_K_refusal_109 : decode b_K_refusal 109 = .ok (.aload_n 0, 1) := by decide +kernel
theorem d_K_refusal_110 : decode b_K_refusal 110 = .ok (.getfield 9, 3) := by decide +kernel
theorem d_K_refusal_113 : decode b_K_refusal 113 = .ok (.bipush 68, 2) := by decide +kernel
theorem d_K_refusal_115 : decode b_K_refusal 115 = .ok (.invokestatic 166, 3) := by decide +kernel
theorem d_K_refusal_118 : decode b_K_refusal 118 = .ok (.i2l, 1) := by decide +kernel
theorem d_K_refusal_119 : decode b_K_refusal 119 = .ok (.ldc2_w 219, 3) := by decide +kernel
theorem d_K_refusal_122 : decode b_K_refusal 122 = .ok (.land, 1) := by decide +kernel
theorem d_K_refusal_123 : decode b_K_refusal 123 = .ok (.lstore 4, 2) := by decide +kernel
theorem d_K_refusal_125 : decode b_K_refusal 125 = .ok (.lload 4, 2) := by decide +kernel
theorem d_K_refusal_127 : decode b_K_refusal 127 = .ok (.aload_n 2, 1) := by decide +kernel
theorem d_K_refusal_128 : decode b_K_refusal 128 = .ok (.invokevirtual 221, 3) := by decide +kernel
theorem d_K_refusal_131 : decode b_K_refusal 131 = .ok (.lcmp, 1) := by decide +kernel
theorem d_K_refusal_132 : decode b_K_refusal 132 = .ok (.ifCond .gt 6, 3) := by decide +kernel
theorem d_K_refusal_135 : decode b_K_refusal 135 = .ok (.bipush 7, 2) := by decide +kernel
theorem d_K_refusal_137 : decode b_K_refusal 137 = .ok (.ireturn, 1) := by decide +kernel
theorem d_K_refusal_138 : decode b_K_refusal 138 = .ok (.aload_n 0, 1) := by decide +kernel
theorem d_K_refusal_139 : decode b_K_refusal 139 = .ok (.getfield 42, 3) := by decide +kernel
theorem d_K_refusal_142 : decode b_K_refusal 142 = .ok (.aload_n 0, 1) := by decide +kernel
theorem d_K_refusal_143 : decode b_K_refusal 143 = .ok (.getfield 19, 3) := by decide +kernel
theorem d_K_refusal_146 : decode b_K_refusal 146 = .ok (.invokevirtual 224, 3) := by decide +kernel
theorem d_K_refusal_149 : decode b_K_refusal 149 = .ok (.ifCond .ne 6, 3) := by decide +kernel
theorem d_K_refusal_152 : decode b_K_refusal 152 = .ok (.bipush 8, 2) := by decide +kernel
theorem d_K_refusal_154 : decode b_K_refusal 154 = .ok (.ireturn, 1) := by decide +kernel
theorem d_K_refusal_155 : decode b_K_refusal 155 = .ok (.aload_n 0, 1) := by decide +kernel
theorem d_K_refusal_156 : decode b_K_refusal 156 = .ok (.getfield 42, 3) := by decide +kernel
theorem d_K_refusal_159 : decode b_K_refusal 159 = .ok (.aload_n 2, 1) := by decide +kernel
theorem d_K_refusal_160 : decode b_K_refusal 160 = .ok (.getfield 123, 3) := by decide +kernel
theorem d_K_refusal_163 : decode b_K_refusal 163 = .ok (.iconst 1, 1) := by decide +kernel
theorem d_K_refusal_164 : decode b_K_refusal 164 = .ok (.iadd, 1) := by decide +kernel
theorem d_K_refusal_165 : decode b_K_refusal 165 = .ok (.lload 4, 2) := by decide +kernel
theorem d_K_refusal_167 : decode b_K_refusal 167 = .ok (.invokevirtual 228, 3) := by decide +kernel
theorem d_K_refusal_170 : decode b_K_refusal 170 = .ok (.ifCond .eq 7, 3) := by decide +kernel
theorem d_K_refusal_173 : decode b_K_refusal 173 = .ok (.iconst 0, 1) := by decide +kernel
theorem d_K_refusal_174 : decode b_K_refusal 174 = .ok (.goto 5, 3) := by decide +kernel
theorem d_K_refusal_177 : decode b_K_refusal 177 = .ok (.bipush 9, 2) := by decide +kernel
theorem d_K_refusal_179 : decode b_K_refusal 179 = .ok (.ireturn, 1) := by decide +kernel
abbrev rm_K_refusal : Room := { frames := 1, cells := 0, slots := 0, locals := 25 }
abbrev q_K_refusal (D : va_G) (cy : Nat → ClassId) (A : Nat → Prop) (o : Nat) (v_a_id : Value) (v_o_sha : Value) (r_signatures : Value) (v_o_machine : Value) (v_o_ledger : Value) (v_o_blocks : Value) (r_spent : Value) (v_o_tip : Value) (a_row : Nat) (o_layout : Nat) (v_a_layout_txAt : Value) (v_a_layout_firstIn : Value) (v_a_layout_firstOut : Value) (v_a_layout_inAt : Value) (v_a_layout_inScript : Value) (v_a_layout_inEnd : Value) (v_a_layout_outAt : Value) (v_a_layout_outScript : Value) (v_a_layout_outEnd : Value) (i_rowLength : Int32) (i_takenBytes : Int32) (i_checkedTxs : Int32) (g_row : Nat → Int32) (res : Int32 × Int32 × Int32 × Int32 × Int32 × Int32) : Array Value → State → Outcome → State → Prop := va_Qi (fun r' (_ : Unit) => r' = res.1) (fun _ t => Po D cy A [(o, .inr (0, [.ref a_row, .int i_rowLength, v_a_id, v_o_sha, r_signatures, v_o_machine, .ref o_layout, v_o_ledger, v_o_blocks, r_spent, v_o_tip, .int i_takenBytes, .int i_checkedTxs])), (a_row, .inl (cy 0, 3000, .inl g_row)), (o_layout, .inr (4, [.ref a_row, .int res.2.1, v_a_layout_txAt, v_a_layout_firstIn, v_a_layout_firstOut, v_a_layout_inAt, v_a_layout_inScript, v_a_layout_inEnd, v_a_layout_outAt, v_a_layout_outScript, v_a_layout_outEnd, .int res.2.2.1, .int res.2.2.2.1, .int res.2.2.2.2.1, .int res.2.2.2.2.2]))] t) A
def I_K_refusal_e (p : Program) (l : Launch) (e : Env) (s : State) (m : MethodId) (args : Array Value) (below : List Frame) (meth : Method) (c : Code) (D : va_G) (cy : Nat → ClassId) (A : Nat → Prop) (ad : Nat → Nat) (o : Nat) (v_a_id : Value) (v_o_sha : Value) (r_signatures : Value) (v_o_machine : Value) (v_o_ledger : Value) (v_o_blocks : Value) (r_spent : Value) (v_o_tip : Value) (a_row : Nat) (o_layout : Nat) (v_a_layout_txAt : Value) (v_a_layout_firstIn : Value) (v_a_layout_firstOut : Value) (v_a_layout_inAt : Value) (v_a_layout_inScript : Value) (v_a_layout_inEnd : Value) (v_a_layout_outAt : Value) (v_a_layout_outScript : Value) (v_a_layout_outEnd : Value) (i_rowLength : Int32) (i_takenBytes : Int32) (i_checkedTxs : Int32) (g_row : Nat → Int32) (k : Int32 → Int32 → Int32 → Int32 → Int32 → Int32 → Option (Int32 × Int32 × Int32 × Int32 × Int32 × Int32)) : Prop :=
  ∀ (a1 : Int32) (u0 : Int32) (u1 : Int32) (u2 : Int32) (u3 : Int32) (u4 : Int32) (res : Int32 × Int32 × Int32 × Int32 × Int32 × Int32), k a1 u0 u1 u2 u3 u4 = some res → ∀ (H : Heap) (locs : List Loc) (ls : Array Slot), va_P D classes [(o, .inr (0, [.ref a_row, .int i_rowLength, v_a_id, v_o_sha, r_signatures, v_o_machine, .ref o_layout, v_o_ledger, v_o_blocks, r_spent, v_o_tip, .int i_takenBytes, .int i_checkedTxs])), (a_row, .inl (cy 0, 3000, .inl g_row)), (o_layout, .inr (4, [.null, .int u0, v_a_layout_txAt, v_a_layout_firstIn, v_a_layout_firstOut, v_a_layout_inAt, v_a_layout_inScript, v_a_layout_inEnd, v_a_layout_outAt, v_a_layout_outScript, v_a_layout_outEnd, .int u1, .int u2, .int u3, .int u4]))] H → va_D A [(o, .inr (0, [.ref a_row, .int i_rowLength, v_a_id, v_o_sha, r_signatures, v_o_machine, .ref o_layout, v_o_ledger, v_o_blocks, r_spent, v_o_tip, .int i_takenBytes, .int i_checkedTxs])), (a_row, .inl (cy 0, 3000, .inl g_row)), (o_layout, .inr (4, [.null, .int u0, v_a_layout_txAt, v_a_layout_firstIn, v_a_layout_firstOut, v_a_layout_inAt, v_a_layout_inScript, v_a_layout_inEnd, v_a_layout_outAt, v_a_layout_outScript, v_a_layout_outEnd, .int u1, .int u2, .int u3, .int u4]))] → va_S A s.heap H locs → lv_has ls 6 [(0, .ref o), (1, .int a1)] → W p l e rm_K_refusal s m args below meth c H locs 0 0 (MQ below (q_K_refusal D cy A o v_a_id v_o_sha r_signatures v_o_machine v_o_ledger v_o_blocks r_spent v_o_tip a_row o_layout v_a_layout_txAt v_a_layout_firstIn v_a_layout_firstOut v_a_layout_inAt v_a_layout_inScript v_a_layout_inEnd v_a_layout_outAt v_a_layout_outScript v_a_layout_outEnd i_rowLength i_takenBytes i_checkedTxs g_row res) args s 0 0 A) (F0 m 0 ls [])
theorem hdf_52 : ({ cls := "CoinKeeper$Layout", name := "read", desc := "([BI)Z" } : Jvm.MethodName).cls ≠ "java/lang/invoke/MethodHandle" ∧ ({ cls := "CoinKeeper$Layout", name := "read", desc := "([BI)Z" } : Jvm.MethodName).cls ≠ "java/lang/invoke/VarHandle" ∧ (parseMethodDescriptor ({ cls := "CoinKeeper$Layout", name := "read", desc := "([BI)Z" } : Jvm.MethodName).desc).map (fun d => d.parameters.length) = some 2 := by decide +kernel
def x_K_refusal (fu : Nat) (i_rowLength : Int32) (i_takenBytes : Int32) (i_checkedTxs : Int32) (g_row : Nat → Int32) (a1 : Int32) (u0 : Int32) (u1 : Int32) (u2 : Int32) (u3 : Int32) (u4 : Int32) : Option (Int32 × Int32 × Int32 × Int32 × Int32 × Int32) :=
  bd6 (x_La_read_y0raw fu 3000 g_row a1 u0 u1 u2 u3 u4) fun v1 e2 e3 e4 e5 e6 => if v1 = 0 then (some ((1 : Int32), e2, e3, e4, e5, e6)) else (none)
set_option maxHeartbeats 8000000 in
set_option maxRecDepth 100000 in
theorem we_K_refusal {p : Program} {l : Launch} {e : Env} {s : State} {m : MethodId} {args : Array Value} {below : List Frame} {meth : Method} {c : Code} {D : va_G} {cy : Nat → ClassId} {A : Nat → Prop} {ad : Nat → Nat} {o : Nat} {v_a_id : Value} {v_o_sha : Value} {r_signatures : Value} {v_o_machine : Value} {v_o_ledger : Value} {v_o_blocks : Value} {r_spent : Value} {v_o_tip : Value} {a_row : Nat} {o_layout : Nat} {v_a_layout_txAt : Value} {v_a_layout_firstIn : Value} {v_a_layout_firstOut : Value} {v_a_layout_inAt : Value} {v_a_layout_inScript : Value} {v_a_layout_inEnd : Value} {v_a_layout_outAt : Value} {v_a_layout_outScript : Value} {v_a_layout_outEnd : Value} {i_rowLength : Int32} {i_takenBytes : Int32} {i_checkedTxs : Int32} {g_row : Nat → Int32} {fu : Nat} (F : Fx p s m args meth c b_K_refusal 6 "CoinKeeper" "refusal" (some .int) D cy ad A) : I_K_refusal_e p l e s m args below meth c D cy A ad o v_a_id v_o_sha r_signatures v_o_machine v_o_ledger v_o_blocks r_spent v_o_tip a_row o_layout v_a_layout_txAt v_a_layout_firstIn v_a_layout_firstOut v_a_layout_inAt v_a_layout_inScript v_a_layout_inEnd v_a_layout_outAt v_a_layout_outScript v_a_layout_outEnd i_rowLength i_takenBytes i_checkedTxs g_row (x_K_refusal fu i_rowLength i_takenBytes i_checkedTxs g_row) := by
  obtain ⟨hx, hb, hr, hml, hown, hts, hlocks, hK, hA, hSt, hnm, hex⟩ := id F
  intro a1 u0 u1 u2 u3 u4 res hf H locs ls hP hD hS hl
  unfold x_K_refusal at hf
  refine lv_aload_n hx hb d_K_refusal_0 rfl (lv_at hl 0 rfl) ?_
  refine va_get (D := D) (ci := 0) (v := .ref o_layout) (C := "CoinKeeper") (T := F_0) (N := 13) hx hb hts i_0 hown hK hP 0 rfl rfl 6 (by decide) (hts _ gw_506) (fun _ h9 => h9) rfl d_K_refusal_1 ?_
  refine lv_aload_n hx hb d_K_refusal_4 rfl (lv_at hl 0 rfl) ?_
  refine va_get (D := D) (ci := 0) (v := .ref a_row) (C := "CoinKeeper") (T := F_0) (N := 13) hx hb hts i_0 hown hK hP 0 rfl rfl 0 (by decide) (hts _ gw_500) (fun _ h9 => h9) rfl d_K_refusal_5 ?_
  refine lv_iload_n hx hb d_K_refusal_8 rfl (lv_at hl 1 rfl) ?_
  obtain ⟨v1, e2, e3, e4, e5, e6, hc, hf⟩ := bdp6 hf
  refine q_ai (wr := [(o, .inr (0, [.ref a_row, .int i_rowLength, v_a_id, v_o_sha, r_signatures, v_o_machine, .ref o_layout, v_o_ledger, v_o_blocks, r_spent, v_o_tip, .int i_takenBytes, .int i_checkedTxs]))]) (va_runV (C := "CoinKeeper$Layout") (As := [.ref a_row, .int a1]) (rest := []) ⟨hx, hb, hml, hown, hts⟩ (c_La_read_y0raw l D cy ad fu o_layout v_a_layout_txAt v_a_layout_firstIn v_a_layout_firstOut v_a_layout_inAt v_a_layout_inScript v_a_layout_inEnd v_a_layout_outAt v_a_layout_outScript v_a_layout_outEnd a_row 3000 g_row a1 u0 u1 u2 u3 u4 _ hc H.size) ⟨q_cB hts gw_682 gw_8 gw_679 hdf_52 ⟨by decide, by decide⟩, hts _ gw_680, hts _ gw_681⟩ (q_preV (q_pre (hP.sub [2, 1] rfl) (hD.sub [2, 1] (by decide) rfl) hK hSt hS (va_free hD hS hA [2, 1] rfl) _) (va_recv hK (hP.sub [2, 1] rfl) (ci := 4) (q0 := 0) rfl rfl)) rfl rfl hl.1 rfl (lv_room (Nat.le_of_ble_eq_true rfl)) d_K_refusal_9 ⟨Nat.le_of_ble_eq_true rfl, Nat.le_of_ble_eq_true rfl⟩) hP hD hS hA [2, 1] [0] rfl rfl (by decide) (by decide) (fun H locs hP hD hS => ?_)
  clear hc
  have hP : va_P D classes [(o, .inr (0, [.ref a_row, .int i_rowLength, v_a_id, v_o_sha, r_signatures, v_o_machine, .ref o_layout, v_o_ledger, v_o_blocks, r_spent, v_o_tip, .int i_takenBytes, .int i_checkedTxs])), (o_layout, .inr (4, [.ref a_row, .int e2, v_a_layout_txAt, v_a_layout_firstIn, v_a_layout_firstOut, v_a_layout_inAt, v_a_layout_inScript, v_a_layout_inEnd, v_a_layout_outAt, v_a_layout_outScript, v_a_layout_outEnd, .int e3, .int e4, .int e5, .int e6])), (a_row, .inl (cy 0, 3000, .inl g_row))] H := hP
  have hD : va_D A [(o, .inr (0, [.ref a_row, .int i_rowLength, v_a_id, v_o_sha, r_signatures, v_o_machine, .ref o_layout, v_o_ledger, v_o_blocks, r_spent, v_o_tip, .int i_takenBytes, .int i_checkedTxs])), (o_layout, .inr (4, [.ref a_row, .int e2, v_a_layout_txAt, v_a_layout_firstIn, v_a_layout_firstOut, v_a_layout_inAt, v_a_layout_inScript, v_a_layout_inEnd, v_a_layout_outAt, v_a_layout_outScript, v_a_layout_outEnd, .int e3, .int e4, .int e5, .int e6])), (a_row, .inl (cy 0, 3000, .inl g_row))] := hD
  refine lv_if_ne (tgt := 17) hx hb d_K_refusal_12 (by decide) (fun cx => ?_) (fun cx => ?_)
  · have hf := ifn cx hf
    refine lv_aload_n hx hb d_K_refusal_17 rfl (lv_at hl 0 rfl) ?_
    refine va_get (D := D) (ci := 0) (v := v_o_sha) (C := "CoinKeeper") (T := F_0) (N := 13) hx hb hts i_0 hown hK hP 0 rfl rfl 3 (by decide) (hts _ gw_503) (fun _ h9 => h9) rfl d_K_refusal_18 ?_
    refine lv_aload_n hx hb d_K_refusal_21 rfl (lv_at hl 0 rfl) ?_
    refine va_get (D := D) (ci := 0) (v := .ref a_row) (C := "CoinKeeper") (T := F_0) (N := 13) hx hb hts i_0 hown hK hP 0 rfl rfl 0 (by decide) (hts _ gw_500) (fun _ h9 => h9) rfl d_K_refusal_22 ?_
    refine lv_iconst (v := 0) hx hb d_K_refusal_25 (by decide) ?_
    refine lv_bipush (v := 80) hx hb d_K_refusal_26 (by decide) ?_
    refine lv_aload_n hx hb d_K_refusal_28 rfl (lv_at hl 0 rfl) ?_
    refine va_get (D := D) (ci := 0) (v := v_a_id) (C := "CoinKeeper") (T := F_0) (N := 13) hx hb hts i_0 hown hK hP 0 rfl rfl 2 (by decide) (hts _ gw_502) (fun _ h9 => h9) rfl d_K_refusal_29 ?_
    refine lv_iconst (v := 0) hx hb d_K_refusal_32 (by decide) ?_
    exact nomatch hf
  · have hf := ifp cx hf
    refine lv_iconst (v := 1) hx hb d_K_refusal_15 (by decide) ?_
    obtain rfl := Option.some.inj hf
    exact q_ri hx hb hr hlocks hK (hP.sub [0, 2, 1] rfl) (hD.sub [0, 2, 1] (by decide) rfl) hS d_K_refusal_16
theorem c_K_refusal (l : Launch) (D : va_G) (cy : Nat → ClassId) (ad : Nat → Nat) (fu : Nat) (o : Nat) (v_a_id : Value) (v_o_sha : Value) (r_signatures : Value) (v_o_machine : Value) (v_o_ledger : Value) (v_o_blocks : Value) (r_spent : Value) (v_o_tip : Value) (a_row : Nat) (o_layout : Nat) (v_a_layout_txAt : Value) (v_a_layout_firstIn : Value) (v_a_layout_firstOut : Value) (v_a_layout_inAt : Value) (v_a_layout_inScript : Value) (v_a_layout_inEnd : Value) (v_a_layout_outAt : Value) (v_a_layout_outScript : Value) (v_a_layout_outEnd : Value) (i_rowLength : Int32) (i_takenBytes : Int32) (i_checkedTxs : Int32) (g_row : Nat → Int32) (a1 : Int32) (u0 : Int32) (u1 : Int32) (u2 : Int32) (u3 : Int32) (u4 : Int32) (res : Int32 × Int32 × Int32 × Int32 × Int32 × Int32) (hf : x_K_refusal fu i_rowLength i_takenBytes i_checkedTxs g_row a1 u0 u1 u2 u3 u4 = some res) (sz : Nat) : Met l ({ cls := "CoinKeeper", name := "refusal", desc := "(I)I" } : Jvm.MethodName) (.code ({ cls := "CoinKeeper", name := "refusal", desc := "(I)I" } : Jvm.MethodName) b_K_refusal 6 (some .int) :: gw) rm_K_refusal (va_Pc [.ref o, .int a1] (Pr D cy ad [(o, .inr (0, [.ref a_row, .int i_rowLength, v_a_id, v_o_sha, r_signatures, v_o_machine, .ref o_layout, v_o_ledger, v_o_blocks, r_spent, v_o_tip, .int i_takenBytes, .int i_checkedTxs])), (a_row, .inl (cy 0, 3000, .inl g_row)), (o_layout, .inr (4, [.null, .int u0, v_a_layout_txAt, v_a_layout_firstIn, v_a_layout_firstOut, v_a_layout_inAt, v_a_layout_inScript, v_a_layout_inEnd, v_a_layout_outAt, v_a_layout_outScript, v_a_layout_outEnd, .int u1, .int u2, .int u3, .int u4]))] sz)) (q_K_refusal D cy (va_A [(o, .inr (0, [.ref a_row, .int i_rowLength, v_a_id, v_o_sha, r_signatures, v_o_machine, .ref o_layout, v_o_ledger, v_o_blocks, r_spent, v_o_tip, .int i_takenBytes, .int i_checkedTxs])), (a_row, .inl (cy 0, 3000, .inl g_row)), (o_layout, .inr (4, [.null, .int u0, v_a_layout_txAt, v_a_layout_firstIn, v_a_layout_firstOut, v_a_layout_inAt, v_a_layout_inScript, v_a_layout_inEnd, v_a_layout_outAt, v_a_layout_outScript, v_a_layout_outEnd, .int u1, .int u2, .int u3, .int u4]))] sz) o v_a_id v_o_sha r_signatures v_o_machine v_o_ledger v_o_blocks r_spent v_o_tip a_row o_layout v_a_layout_txAt v_a_layout_firstIn v_a_layout_firstOut v_a_layout_inAt v_a_layout_inScript v_a_layout_inEnd v_a_layout_outAt v_a_layout_outScript v_a_layout_outEnd i_rowLength i_takenBytes i_checkedTxs g_row res) 0 0 (va_A [(o, .inr (0, [.ref a_row, .int i_rowLength, v_a_id, v_o_sha, r_signatures, v_o_machine, .ref o_layout, v_o_ledger, v_o_blocks, r_spent, v_o_tip, .int i_takenBytes, .int i_checkedTxs])), (a_row, .inl (cy 0, 3000, .inl g_row)), (o_layout, .inr (4, [.null, .int u0, v_a_layout_txAt, v_a_layout_firstIn, v_a_layout_firstOut, v_a_layout_inAt, v_a_layout_inScript, v_a_layout_inEnd, v_a_layout_outAt, v_a_layout_outScript, v_a_layout_outEnd, .int u1, .int u2, .int u3, .int u4]))] sz) :=
  q_met (Qc := fun A => q_K_refusal D cy A o v_a_id v_o_sha r_signatures v_o_machine v_o_ledger v_o_blocks r_spent v_o_tip a_row o_layout v_a_layout_txAt v_a_layout_firstIn v_a_layout_firstOut v_a_layout_inAt v_a_layout_inScript v_a_layout_inEnd v_a_layout_outAt v_a_layout_outScript v_a_layout_outEnd i_rowLength i_takenBytes i_checkedTxs g_row res) (by decide) rfl rfl (Nat.le_of_ble_eq_true rfl) (fun p e s m below meth c ls F hP hD hS hl => we_K_refusal (fu := fu) F a1 u0 u1 u2 u3 u4 res hf _ _ _ hP hD hS hl) sz
abbrev rm_Al_size_y0U : Room := { frames := 0, cells := 0, slots := 0, locals := 0 }
abbrev q_Al_size_y0U (D : va_G) (cy : Nat → ClassId) (A : Nat → Prop) (o : Nat) (r_el : Value) (i_size : Int32) (i_modCount : Int32) (res : Int32) : Array Value → State → Outcome → State → Prop := va_Qi (fun r' (_ : Unit) => r' = res) (fun _ t => Po D cy A [(o, .inr (11, [r_el, .int i_size, .int i_modCount]))] t) A
def I_Al_size_y0U_e (p : Program) (l : Launch) (e : Env) (s : State) (m : MethodId) (args : Array Value) (below : List Frame) (meth : Method) (c : Code) (D : va_G) (cy : Nat → ClassId) (A : Nat → Prop) (ad : Nat → Nat) (o : Nat) (r_el : Value) (i_size : Int32) (i_modCount : Int32) (k : Option (Int32)) : Prop :=
  ∀ (res : Int32), k  = some res → ∀ (H : Heap) (locs : List Loc) (ls : Array Slot), va_P D classes [(o, .inr (11, [r_el, .int i_size, .int i_modCount]))] H → va_D A [(o, .inr (11, [r_el, .int i_size, .int i_modCount]))] → va_S A s.heap H locs → lv_has ls 1 [(0, .ref o)] → W p l e rm_Al_size_y0U s m args below meth c H locs 0 0 (MQ below (q_Al_size_y0U D cy A o r_el i_size i_modCount res) args s 0 0 A) (F0 m 0 ls [])
def x_Al_size_y0U (fu : Nat) (i_size : Int32) (i_modCount : Int32) : Option (Int32) :=
  some (i_size)
set_option maxHeartbeats 8000000 in
set_option maxRecDepth 100000 in
theorem we_Al_size_y0U {p : Program} {l : Launch} {e : Env} {s : State} {m : MethodId} {args : Array Value} {below : List Frame} {meth : Method} {c : Code} {D : va_G} {cy : Nat → ClassId} {A : Nat → Prop} {ad : Nat → Nat} {o : Nat} {r_el : Value} {i_size : Int32} {i_modCount : Int32} {fu : Nat} (F : Fx p s m args meth c b_Al_size 1 "java/util/ArrayList" "size" (some .int) D cy ad A) : I_Al_size_y0U_e p l e s m args below meth c D cy A ad o r_el i_size i_modCount (x_Al_size_y0U fu i_size i_modCount) := by
  obtain ⟨hx, hb, hr, hml, hown, hts, hlocks, hK, hA, hSt, hnm, hex⟩ := id F
  intro  res hf H locs ls hP hD hS hl
  unfold x_Al_size_y0U at hf
  refine lv_aload_n hx hb d_Al_size_0 rfl (lv_at hl 0 rfl) ?_
  refine va_get (D := D) (ci := 11) (v := .int i_size) (C := "java/util/ArrayList") (T := F_11) (N := 3) hx hb hts i_11 hown hK hP 0 rfl rfl 1 (by decide) (hts _ gw_352) (fun _ h9 => h9) rfl d_Al_size_1 ?_
  obtain rfl := Option.some.inj hf
  exact q_ri hx hb hr hlocks hK hP hD hS d_Al_size_4
theorem c_Al_size_y0U (l : Launch) (D : va_G) (cy : Nat → ClassId) (ad : Nat → Nat) (fu : Nat) (o : Nat) (r_el : Value) (i_size : Int32) (i_modCount : Int32) (res : Int32) (hf : x_Al_size_y0U fu i_size i_modCount = some res) (sz : Nat) : Met l ({ cls := "java/util/ArrayList", name := "size", desc := "()I" } : Jvm.MethodName) (.code ({ cls := "java/util/ArrayList", name := "size", desc := "()I" } : Jvm.MethodName) b_Al_size 1 (some .int) :: gw) rm_Al_size_y0U (va_Pc [.ref o] (Pr D cy ad [(o, .inr (11, [r_el, .int i_size, .int i_modCount]))] sz)) (q_Al_size_y0U D cy (va_A [(o, .inr (11, [r_el, .int i_size, .int i_modCount]))] sz) o r_el i_size i_modCount res) 0 0 (va_A [(o, .inr (11, [r_el, .int i_size, .int i_modCount]))] sz) :=
  q_met (Qc := fun A => q_Al_size_y0U D cy A o r_el i_size i_modCount res) (by decide) rfl rfl (Nat.le_of_ble_eq_true rfl) (fun p e s m below meth c ls F hP hD hS hl => we_Al_size_y0U (fu := fu) F  res hf _ _ _ hP hD hS hl) sz
abbrev b_K_submit : ByteArray := prog_1_method_4_code
theorem d_K_submit_0 : decode b_K_submit 0 = .ok (.aload_n 0, 1) := by decide +kernel
theorem d_K_submit_1 : decode b_K_submit 1 = .ok (.getfield 56, 3) := by decide +kernel
theorem d_K_submit_4 : decode b_K_submit 4 = .ok (.invokevirtual 93, 3) := by decide +kernel
theorem d_K_submit_7 : decode b_K_submit 7 = .ok (.sipush 200, 3) := by decide +kernel
theorem d_K_submit_10 : decode b_K_submit 10 = .ok (.if_icmp .gt 17, 3) := by decide +kernel
theorem d_K_submit_13 : decode b_K_submit 13 = .ok (.aload_n 0, 1) := by decide +kernel
theorem d_K_submit_14 : decode b_K_submit 14 = .ok (.getfield 97, 3) := by decide +kernel
theorem d_K_submit_17 : decode b_K_submit 17 = .ok (.aload_n 0, 1) := by decide +kernel
theorem d_K_submit_18 : decode b_K_submit 18 = .ok (.getfield 79, 3) := by decide +kernel
theorem d_K_submit_21 : decode b_K_submit 21 = .ok (.iadd, 1) := by decide +kernel
theorem d_K_submit_22 : decode b_K_submit 22 = .ok (.ldc 100, 2) := by decide +kernel
theorem d_K_submit_24 : decode b_K_submit 24 = .ok (.if_icmp .le 11, 3) := by decide +kernel
theorem d_K_submit_27 : decode b_K_submit 27 = .ok (.new 83, 3) := by decide +kernel
theorem d_K_submit_30 : decode b_K_submit 30 = .ok (.dup, 1) := by decide +kernel
theorem d_K_submit_31 : decode b_K_submit 31 = .ok (.invokespecial 85, 3) := by decide +kernel
theorem d_K_submit_34 : decode b_K_submit 34 = .ok (.athrow, 1) := by decide +kernel
theorem d_K_submit_35 : decode b_K_submit 35 = .ok (.aload_n 0, 1) := by decide +kernel
theorem d_K_submit_36 : decode b_K_submit 36 = .ok (.getfield 79, 3) := by decide +kernel
theorem d_K_submit_39 : decode b_K_submit 39 = .ok (.istore_n 1, 1) := by decide +kernel
theorem d_K_submit_40 : decode b_K_submit 40 = .ok (.aload_n 0, 1) := by decide +kernel
theorem d_K_submit_41 : decode b_K_submit 41 = .ok (.iconst 0, 1) := by decide +kernel
theorem d_K_submit_42 : decode b_K_submit 42 = .ok (.putfield 79, 3) := by decide +kernel
theorem d_K_submit_45 : decode b_K_submit 45 = .ok (.aload_n 0, 1) := by decide +kernel
theorem d_K_submit_46 : decode b_K_submit 46 = .ok (.iload_n 1, 1) := by decide +kernel
theorem d_K_submit_47 : decode b_K_submit 47 = .ok (.invokevirtual 101, 3) := by decide +kernel
theorem d_K_submit_50 : decode b_K_submit 50 = .ok (.istore_n 2, 1) := by decide +kernel
theorem d_K_submit_51 : decode b_K_submit 51 = .ok (.iload_n 2, 1) := by decide +kernel
theorem d_K_submit_52 : decode b_K_submit 52 = .ok (.ifCond .eq 5, 3) := by decide +kernel
theorem d_K_submit_55 : decode b_K_submit 55 = .ok (.iload_n 2, 1) := by decide +kernel
theorem d_K_submit_56 : decode b_K_submit 56 = .ok (.ireturn, 1) := by decide +kernel
theorem d_K_submit_57 : decode b_K_submit 57 = .ok (.aload_n 0, 1) := by decide +kernel
theorem d_K_submit_58 : decode b_K_submit 58 = .ok (.iload_n 1, 1) := by decide +kernel
theorem d_K_submit_59 : decode b_K_submit 59 = .ok (.invokevirtual 105, 3) := by decide +kernel
theorem d_K_submit_62 : decode b_K_submit 62 = .ok (.astore_n 3, 1) := by decide +kernel
theorem d_K_submit_63 : decode b_K_submit 63 = .ok (.aload_n 3, 1) := by decide +kernel
theorem d_K_submit_64 : decode b_K_submit 64 = .ok (.getfield 109, 3) := by decide +kernel
theorem d_K_submit_67 : decode b_K_submit 67 = .ok (.aload_n 0, 1) := by decide +kernel
theorem d_K_submit_68 : decode b_K_submit 68 = .ok (.getfield 71, 3) := by decide +kernel
theorem d_K_submit_71 : decode b_K_submit 71 = .ok (.getfield 109, 3) := by decide +kernel
theorem d_K_submit_74 : decode b_K_submit 74 = .ok (.lcmp, 1) := by decide +kernel
theorem d_K_submit_75 : decode b_K_submit 75 = .ok (.ifCond .gt 5, 3) := by decide +kernel
theorem d_K_submit_78 : decode b_K_submit 78 = .ok (.iconst 1, 1) := by decide +kernel
theorem d_K_submit_79 : decode b_K_submit 79 = .ok (.ireturn, 1) := by decide +kernel
theorem d_K_submit_80 : decode b_K_submit 80 = .ok (.aload_n 3, 1) := by decide +kernel
theorem d_K_submit_81 : decode b_K_submit 81 = .ok (.aload_n 0, 1) := by decide +kernel
theorem d_K_submit_82 : decode b_K_submit 82 = .ok (.getfield 71, 3) := by decide +kernel
theorem d_K_submit_85 : decode b_K_submit 85 = .ok (.invokevirtual 113, 3) := by decide +kernel
theorem d_K_submit_88 : decode b_K_submit 88 = .ok (.astore 4, 2) := by decide +kernel
theorem d_K_submit_90 : decode b_K_submit 90 = .ok (.aload_n 0, 1) := by decide +kernel
theorem d_K_submit_91 : decode b_K_submit 91 = .ok (.getfield 49, 3) := by decide +kernel
theorem d_K_submit_94 : decode b_K_submit 94 = .ok (.aload 4, 2) := by decide +kernel
theorem d_K_submit_96 : decode b_K_submit 96 = .ok (.getfield 117, 3) := by decide +kernel
theorem d_K_submit_99 : decode b_K_submit 99 = .ok (.invokevirtual 120, 3) := by decide +kernel
theorem d_K_submit_102 : decode b_K_submit 102 = .ok (.aload 4, 2) := by decide +kernel
theorem d_K_submit_104 : decode b_K_submit 104 = .ok (.getfield 123, 3) := by decide +kernel
theorem d_K_submit_107 : decode b_K_submit 107 = .ok (.iconst 1, 1) := by decide +kernel
theorem d_K_submit_108 : decode b_K_submit 108 = .ok (.iadd, 1) := by decide +kernel
theorem d_K_submit_109 : decode b_K_submit 109 = .ok (.istore 5, 2) := by decide +kernel
theorem d_K_submit_111 : decode b_K_submit 111 = .ok (.iload 5, 2) := by decide +kernel
theorem d_K_submit_113 : decode b_K_submit 113 = .ok (.aload_n 3, 1) := by decide +kernel
theorem d_K_submit_114 : decode b_K_submit 114 = .ok (.getfield 123, 3) := by decide +kernel
theorem d_K_submit_117 : decode b_K_submit 117 = .ok (.if_icmp .gt 66, 3) := by decide +kernel
theorem d_K_submit_120 : decode b_K_submit 120 = .ok (.aload_n 3, 1) := by decide +kernel
theorem d_K_submit_121 : decode b_K_submit 121 = .ok (.iload 5, 2) := by decide +kernel
theorem d_K_submit_123 : decode b_K_submit 123 = .ok (.invokevirtual 126, 3) := by decide +kernel
theorem d_K_submit_126 : decode b_K_submit 126 = .ok (.astore 6, 2) := by decide +kernel
theorem d_K_submit_128 : decode b_K_submit 128 = .ok (.aload_n 0, 1) := by decide +kernel
theorem d_K_submit_129 : decode b_K_submit 129 = .ok (.aload 6, 2) := by decide +kernel
theorem d_K_submit_131 : decode b_K_submit 131 = .ok (.invokevirtual 129, 3) := by decide +kernel
theorem d_K_submit_134 : decode b_K_submit 134 = .ok (.istore_n 2, 1) := by decide +kernel
theorem d_K_submit_135 : decode b_K_submit 135 = .ok (.aload 6, 2) := by decide +kernel
theorem d_K_submit_137 : decode b_K_submit 137 = .ok (.getfield 133, 3) := by decide +kernel
theorem d_K_submit_140 : decode b_K_submit 140 = .ok (.ifCond .ne 13, 3) := by decide +kernel
theorem d_K_submit_143 : decode b_K_submit 143 = .ok (.aload_n 0, 1) := by decide +kernel
theorem d_K_submit_144 : decode b_K_submit 144 = .ok (.invokevirtual 137, 3) := by decide +kernel
theorem d_K_submit_147 : decode b_K_submit 147 = .ok (.ifCond .ne 6, 3) := by decide +kernel
theorem d_K_submit_150 : decode b_K_submit 150 = .ok (.bipush 13, 2) := by decide +kernel
theorem d_K_submit_152 : decode b_K_submit 152 = .ok (.istore_n 2, 1) := by decide +kernel
theorem d_K_submit_153 : decode b_K_submit 153 = .ok (.iload_n 2, 1) := by decide +kernel
theorem d_K_submit_154 : decode b_K_submit 154 = .ok (.ifCond .eq 17, 3) := by decide +kernel
theorem d_K_submit_157 : decode b_K_submit 157 = .ok (.aload_n 0, 1) := by decide +kernel
theorem d_K_submit_158 : decode b_K_submit 158 = .ok (.aload 6, 2) := by decide +kernel
theorem d_K_submit_160 : decode b_K_submit 160 = .ok (.invokevirtual 141, 3) := by decide +kernel
theorem d_K_submit_163 : decode b_K_submit 163 = .ok (.aload_n 0, 1) := by decide +kernel
theorem d_K_submit_164 : decode b_K_submit 164 = .ok (.aload 4, 2) := by decide +kernel
theorem d_K_submit_166 : decode b_K_submit 166 = .ok (.invokevirtual 145, 3) := by decide +kernel
theorem d_K_submit_169 : decode b_K_submit 169 = .ok (.iload_n 2, 1) := by decide +kernel
theorem d_K_submit_170 : decode b_K_submit 170 = .ok (.ireturn, 1) := by decide +kernel
theorem d_K_submit_171 : decode b_K_submit 171 = .ok (.aload 6, 2) := by decide +kernel
theorem d_K_submit_173 : decode b_K_submit 173 = .ok (.iconst 1, 1) := by decide +kernel
theorem d_K_submit_174 : decode b_K_submit 174 = .ok (.putfield 133, 3) := by decide +kernel
theorem d_K_submit_177 : decode b_K_submit 177 = .ok (.iinc 5 1, 3) := by decide +kernel
theorem d_K_submit_180 : decode b_K_submit 180 = .ok (.goto (-69), 3) := by decide +kernel
theorem d_K_submit_183 : decode b_K_submit 183 = .ok (.aload_n 0, 1) := by decide +kernel
theorem d_K_submit_184 : decode b_K_submit 184 = .ok (.aload_n 3, 1) := by decide +kernel
theorem d_K_submit_185 : decode b_K_submit 185 = .ok (.putfield 71, 3) := by decide +kernel
theorem d_K_submit_188 : decode b_K_submit 188 = .ok (.iconst 0, 1) := by decide +kernel
theorem d_K_submit_189 : decode b_K_submit 189 = .ok (.ireturn, 1) := by decide +kernel
abbrev rm_K_submit : Room := { frames := 2, cells := 0, slots := 0, locals := 50 }
abbrev q_K_submit (D : va_G) (cy : Nat → ClassId) (A : Nat → Prop) (o : Nat) (v_a_id : Value) (v_o_sha : Value) (r_signatures : Value) (v_o_machine : Value) (v_o_ledger : Value) (r_spent : Value) (v_o_tip : Value) (a_row : Nat) (o_layout : Nat) (v_a_layout_txAt : Value) (v_a_layout_firstIn : Value) (v_a_layout_firstOut : Value) (v_a_layout_inAt : Value) (v_a_layout_inScript : Value) (v_a_layout_inEnd : Value) (v_a_layout_outAt : Value) (v_a_layout_outScript : Value) (v_a_layout_outEnd : Value) (o_blocks : Nat) (v_a_blocks_el : Value) (i_takenBytes : Int32) (i_checkedTxs : Int32) (g_row : Nat → Int32) (i_blocks_size : Int32) (i_blocks_modCount : Int32) (res : Int32 × Int32 × Int32 × Int32 × Int32 × Int32 × Int32) : Array Value → State → Outcome → State → Prop := va_Qi (fun r' (_ : Unit) => r' = res.1) (fun _ t => Po D cy A [(o, .inr (0, [.ref a_row, .int res.2.1, v_a_id, v_o_sha, r_signatures, v_o_machine, .ref o_layout, v_o_ledger, .ref o_blocks, r_spent, v_o_tip, .int i_takenBytes, .int i_checkedTxs])), (a_row, .inl (cy 0, 3000, .inl g_row)), (o_layout, .inr (4, [.ref a_row, .int res.2.2.1, v_a_layout_txAt, v_a_layout_firstIn, v_a_layout_firstOut, v_a_layout_inAt, v_a_layout_inScript, v_a_layout_inEnd, v_a_layout_outAt, v_a_layout_outScript, v_a_layout_outEnd, .int res.2.2.2.1, .int res.2.2.2.2.1, .int res.2.2.2.2.2.1, .int res.2.2.2.2.2.2])), (o_blocks, .inr (11, [v_a_blocks_el, .int i_blocks_size, .int i_blocks_modCount]))] t) A
def I_K_submit_27 (p : Program) (l : Launch) (e : Env) (s : State) (m : MethodId) (args : Array Value) (below : List Frame) (meth : Method) (c : Code) (D : va_G) (cy : Nat → ClassId) (A : Nat → Prop) (ad : Nat → Nat) (o : Nat) (v_a_id : Value) (v_o_sha : Value) (r_signatures : Value) (v_o_machine : Value) (v_o_ledger : Value) (r_spent : Value) (v_o_tip : Value) (a_row : Nat) (o_layout : Nat) (v_a_layout_txAt : Value) (v_a_layout_firstIn : Value) (v_a_layout_firstOut : Value) (v_a_layout_inAt : Value) (v_a_layout_inScript : Value) (v_a_layout_inEnd : Value) (v_a_layout_outAt : Value) (v_a_layout_outScript : Value) (v_a_layout_outEnd : Value) (o_blocks : Nat) (v_a_blocks_el : Value) (i_takenBytes : Int32) (i_checkedTxs : Int32) (g_row : Nat → Int32) (i_blocks_size : Int32) (i_blocks_modCount : Int32) (k : Int32 → Int32 → Int32 → Int32 → Int32 → Int32 → Option (Int32 × Int32 × Int32 × Int32 × Int32 × Int32 × Int32)) : Prop :=
  ∀ (u0 : Int32) (u1 : Int32) (u2 : Int32) (u3 : Int32) (u4 : Int32) (u5 : Int32) (res : Int32 × Int32 × Int32 × Int32 × Int32 × Int32 × Int32), k u0 u1 u2 u3 u4 u5 = some res → ∀ (H : Heap) (locs : List Loc) (ls : Array Slot), va_P D classes [(o, .inr (0, [.ref a_row, .int u0, v_a_id, v_o_sha, r_signatures, v_o_machine, .ref o_layout, v_o_ledger, .ref o_blocks, r_spent, v_o_tip, .int i_takenBytes, .int i_checkedTxs])), (a_row, .inl (cy 0, 3000, .inl g_row)), (o_layout, .inr (4, [.null, .int u1, v_a_layout_txAt, v_a_layout_firstIn, v_a_layout_firstOut, v_a_layout_inAt, v_a_layout_inScript, v_a_layout_inEnd, v_a_layout_outAt, v_a_layout_outScript, v_a_layout_outEnd, .int u2, .int u3, .int u4, .int u5])), (o_blocks, .inr (11, [v_a_blocks_el, .int i_blocks_size, .int i_blocks_modCount]))] H → va_D A [(o, .inr (0, [.ref a_row, .int u0, v_a_id, v_o_sha, r_signatures, v_o_machine, .ref o_layout, v_o_ledger, .ref o_blocks, r_spent, v_o_tip, .int i_takenBytes, .int i_checkedTxs])), (a_row, .inl (cy 0, 3000, .inl g_row)), (o_layout, .inr (4, [.null, .int u1, v_a_layout_txAt, v_a_layout_firstIn, v_a_layout_firstOut, v_a_layout_inAt, v_a_layout_inScript, v_a_layout_inEnd, v_a_layout_outAt, v_a_layout_outScript, v_a_layout_outEnd, .int u2, .int u3, .int u4, .int u5])), (o_blocks, .inr (11, [v_a_blocks_el, .int i_blocks_size, .int i_blocks_modCount]))] → va_S A s.heap H locs → lv_has ls 7 [] → W p l e rm_K_submit s m args below meth c H locs 0 0 (MQ below (q_K_submit D cy A o v_a_id v_o_sha r_signatures v_o_machine v_o_ledger r_spent v_o_tip a_row o_layout v_a_layout_txAt v_a_layout_firstIn v_a_layout_firstOut v_a_layout_inAt v_a_layout_inScript v_a_layout_inEnd v_a_layout_outAt v_a_layout_outScript v_a_layout_outEnd o_blocks v_a_blocks_el i_takenBytes i_checkedTxs g_row i_blocks_size i_blocks_modCount res) args s 0 0 A) (F0 m 27 ls [])
def I_K_submit_e (p : Program) (l : Launch) (e : Env) (s : State) (m : MethodId) (args : Array Value) (below : List Frame) (meth : Method) (c : Code) (D : va_G) (cy : Nat → ClassId) (A : Nat → Prop) (ad : Nat → Nat) (o : Nat) (v_a_id : Value) (v_o_sha : Value) (r_signatures : Value) (v_o_machine : Value) (v_o_ledger : Value) (r_spent : Value) (v_o_tip : Value) (a_row : Nat) (o_layout : Nat) (v_a_layout_txAt : Value) (v_a_layout_firstIn : Value) (v_a_layout_firstOut : Value) (v_a_layout_inAt : Value) (v_a_layout_inScript : Value) (v_a_layout_inEnd : Value) (v_a_layout_outAt : Value) (v_a_layout_outScript : Value) (v_a_layout_outEnd : Value) (o_blocks : Nat) (v_a_blocks_el : Value) (i_takenBytes : Int32) (i_checkedTxs : Int32) (g_row : Nat → Int32) (i_blocks_size : Int32) (i_blocks_modCount : Int32) (k : Int32 → Int32 → Int32 → Int32 → Int32 → Int32 → Option (Int32 × Int32 × Int32 × Int32 × Int32 × Int32 × Int32)) : Prop :=
  ∀ (u0 : Int32) (u1 : Int32) (u2 : Int32) (u3 : Int32) (u4 : Int32) (u5 : Int32) (res : Int32 × Int32 × Int32 × Int32 × Int32 × Int32 × Int32), k u0 u1 u2 u3 u4 u5 = some res → ∀ (H : Heap) (locs : List Loc) (ls : Array Slot), va_P D classes [(o, .inr (0, [.ref a_row, .int u0, v_a_id, v_o_sha, r_signatures, v_o_machine, .ref o_layout, v_o_ledger, .ref o_blocks, r_spent, v_o_tip, .int i_takenBytes, .int i_checkedTxs])), (a_row, .inl (cy 0, 3000, .inl g_row)), (o_layout, .inr (4, [.null, .int u1, v_a_layout_txAt, v_a_layout_firstIn, v_a_layout_firstOut, v_a_layout_inAt, v_a_layout_inScript, v_a_layout_inEnd, v_a_layout_outAt, v_a_layout_outScript, v_a_layout_outEnd, .int u2, .int u3, .int u4, .int u5])), (o_blocks, .inr (11, [v_a_blocks_el, .int i_blocks_size, .int i_blocks_modCount]))] H → va_D A [(o, .inr (0, [.ref a_row, .int u0, v_a_id, v_o_sha, r_signatures, v_o_machine, .ref o_layout, v_o_ledger, .ref o_blocks, r_spent, v_o_tip, .int i_takenBytes, .int i_checkedTxs])), (a_row, .inl (cy 0, 3000, .inl g_row)), (o_layout, .inr (4, [.null, .int u1, v_a_layout_txAt, v_a_layout_firstIn, v_a_layout_firstOut, v_a_layout_inAt, v_a_layout_inScript, v_a_layout_inEnd, v_a_layout_outAt, v_a_layout_outScript, v_a_layout_outEnd, .int u2, .int u3, .int u4, .int u5])), (o_blocks, .inr (11, [v_a_blocks_el, .int i_blocks_size, .int i_blocks_modCount]))] → va_S A s.heap H locs → lv_has ls 7 [(0, .ref o)] → W p l e rm_K_submit s m args below meth c H locs 0 0 (MQ below (q_K_submit D cy A o v_a_id v_o_sha r_signatures v_o_machine v_o_ledger r_spent v_o_tip a_row o_layout v_a_layout_txAt v_a_layout_firstIn v_a_layout_firstOut v_a_layout_inAt v_a_layout_inScript v_a_layout_inEnd v_a_layout_outAt v_a_layout_outScript v_a_layout_outEnd o_blocks v_a_blocks_el i_takenBytes i_checkedTxs g_row i_blocks_size i_blocks_modCount res) args s 0 0 A) (F0 m 0 ls [])
def xb_K_submit_27 (fu : Nat) (i_takenBytes : Int32) (i_checkedTxs : Int32) (g_row : Nat → Int32) (i_blocks_size : Int32) (i_blocks_modCount : Int32) (u0 : Int32) (u1 : Int32) (u2 : Int32) (u3 : Int32) (u4 : Int32) (u5 : Int32) : Option (Int32 × Int32 × Int32 × Int32 × Int32 × Int32 × Int32) :=
  none
set_option maxHeartbeats 8000000 in
set_option maxRecDepth 100000 in
theorem wb_K_submit_27 {p : Program} {l : Launch} {e : Env} {s : State} {m : MethodId} {args : Array Value} {below : List Frame} {meth : Method} {c : Code} {D : va_G} {cy : Nat → ClassId} {A : Nat → Prop} {ad : Nat → Nat} {o : Nat} {v_a_id : Value} {v_o_sha : Value} {r_signatures : Value} {v_o_machine : Value} {v_o_ledger : Value} {r_spent : Value} {v_o_tip : Value} {a_row : Nat} {o_layout : Nat} {v_a_layout_txAt : Value} {v_a_layout_firstIn : Value} {v_a_layout_firstOut : Value} {v_a_layout_inAt : Value} {v_a_layout_inScript : Value} {v_a_layout_inEnd : Value} {v_a_layout_outAt : Value} {v_a_layout_outScript : Value} {v_a_layout_outEnd : Value} {o_blocks : Nat} {v_a_blocks_el : Value} {i_takenBytes : Int32} {i_checkedTxs : Int32} {g_row : Nat → Int32} {i_blocks_size : Int32} {i_blocks_modCount : Int32} {fu : Nat} (F : Fx p s m args meth c b_K_submit 7 "CoinKeeper" "submit" (some .int) D cy ad A) : I_K_submit_27 p l e s m args below meth c D cy A ad o v_a_id v_o_sha r_signatures v_o_machine v_o_ledger r_spent v_o_tip a_row o_layout v_a_layout_txAt v_a_layout_firstIn v_a_layout_firstOut v_a_layout_inAt v_a_layout_inScript v_a_layout_inEnd v_a_layout_outAt v_a_layout_outScript v_a_layout_outEnd o_blocks v_a_blocks_el i_takenBytes i_checkedTxs g_row i_blocks_size i_blocks_modCount (xb_K_submit_27 fu i_takenBytes i_checkedTxs g_row i_blocks_size i_blocks_modCount) := by
  obtain ⟨hx, hb, hr, hml, hown, hts, hlocks, hK, hA, hSt, hnm, hex⟩ := id F
  intro u0 u1 u2 u3 u4 u5 res hf H locs ls hP hD hS hl
  unfold xb_K_submit_27 at hf
  exact nomatch hf
theorem hdf_53 : ({ cls := "java/util/ArrayList", name := "size", desc := "()I" } : Jvm.MethodName).cls ≠ "java/lang/invoke/MethodHandle" ∧ ({ cls := "java/util/ArrayList", name := "size", desc := "()I" } : Jvm.MethodName).cls ≠ "java/lang/invoke/VarHandle" ∧ (parseMethodDescriptor ({ cls := "java/util/ArrayList", name := "size", desc := "()I" } : Jvm.MethodName).desc).map (fun d => d.parameters.length) = some 0 := by decide +kernel
theorem hdf_54 : ({ cls := "CoinKeeper", name := "refusal", desc := "(I)I" } : Jvm.MethodName).cls ≠ "java/lang/invoke/MethodHandle" ∧ ({ cls := "CoinKeeper", name := "refusal", desc := "(I)I" } : Jvm.MethodName).cls ≠ "java/lang/invoke/VarHandle" ∧ (parseMethodDescriptor ({ cls := "CoinKeeper", name := "refusal", desc := "(I)I" } : Jvm.MethodName).desc).map (fun d => d.parameters.length) = some 1 := by decide +kernel
def x_K_submit (fu : Nat) (i_takenBytes : Int32) (i_checkedTxs : Int32) (g_row : Nat → Int32) (i_blocks_size : Int32) (i_blocks_modCount : Int32) (u0 : Int32) (u1 : Int32) (u2 : Int32) (u3 : Int32) (u4 : Int32) (u5 : Int32) : Option (Int32 × Int32 × Int32 × Int32 × Int32 × Int32 × Int32) :=
  bd1 (x_Al_size_y0U fu i_blocks_size i_blocks_modCount) fun v1 => if (200 : Int32) < v1 then (xb_K_submit_27 fu i_takenBytes i_checkedTxs g_row i_blocks_size i_blocks_modCount u0 u1 u2 u3 u4 u5) else (bnd (i_takenBytes + u0) fun v2 => if v2 ≤ (100000 : Int32) then (bd6 (x_K_refusal fu (0 : Int32) i_takenBytes i_checkedTxs g_row u0 u1 u2 u3 u4 u5) fun v3 e4 e5 e6 e7 e8 => if v3 = 0 then (none) else (some (v3, (0 : Int32), e4, e5, e6, e7, e8))) else (xb_K_submit_27 fu i_takenBytes i_checkedTxs g_row i_blocks_size i_blocks_modCount u0 u1 u2 u3 u4 u5))
set_option maxHeartbeats 8000000 in
set_option maxRecDepth 100000 in
theorem we_K_submit {p : Program} {l : Launch} {e : Env} {s : State} {m : MethodId} {args : Array Value} {below : List Frame} {meth : Method} {c : Code} {D : va_G} {cy : Nat → ClassId} {A : Nat → Prop} {ad : Nat → Nat} {o : Nat} {v_a_id : Value} {v_o_sha : Value} {r_signatures : Value} {v_o_machine : Value} {v_o_ledger : Value} {r_spent : Value} {v_o_tip : Value} {a_row : Nat} {o_layout : Nat} {v_a_layout_txAt : Value} {v_a_layout_firstIn : Value} {v_a_layout_firstOut : Value} {v_a_layout_inAt : Value} {v_a_layout_inScript : Value} {v_a_layout_inEnd : Value} {v_a_layout_outAt : Value} {v_a_layout_outScript : Value} {v_a_layout_outEnd : Value} {o_blocks : Nat} {v_a_blocks_el : Value} {i_takenBytes : Int32} {i_checkedTxs : Int32} {g_row : Nat → Int32} {i_blocks_size : Int32} {i_blocks_modCount : Int32} {fu : Nat} (F : Fx p s m args meth c b_K_submit 7 "CoinKeeper" "submit" (some .int) D cy ad A) : I_K_submit_e p l e s m args below meth c D cy A ad o v_a_id v_o_sha r_signatures v_o_machine v_o_ledger r_spent v_o_tip a_row o_layout v_a_layout_txAt v_a_layout_firstIn v_a_layout_firstOut v_a_layout_inAt v_a_layout_inScript v_a_layout_inEnd v_a_layout_outAt v_a_layout_outScript v_a_layout_outEnd o_blocks v_a_blocks_el i_takenBytes i_checkedTxs g_row i_blocks_size i_blocks_modCount (x_K_submit fu i_takenBytes i_checkedTxs g_row i_blocks_size i_blocks_modCount) := by
  obtain ⟨hx, hb, hr, hml, hown, hts, hlocks, hK, hA, hSt, hnm, hex⟩ := id F
  intro u0 u1 u2 u3 u4 u5 res hf H locs ls hP hD hS hl
  unfold x_K_submit at hf
  refine lv_aload_n hx hb d_K_submit_0 rfl (lv_at hl 0 rfl) ?_
  refine va_get (D := D) (ci := 0) (v := .ref o_blocks) (C := "CoinKeeper") (T := F_0) (N := 13) hx hb hts i_0 hown hK hP 0 rfl rfl 8 (by decide) (hts _ gw_508) (fun _ h9 => h9) rfl d_K_submit_1 ?_
  obtain ⟨v1, hc, hf⟩ := bdp1 hf
  refine q_ai (wr := [(o, .inr (0, [.ref a_row, .int u0, v_a_id, v_o_sha, r_signatures, v_o_machine, .ref o_layout, v_o_ledger, .ref o_blocks, r_spent, v_o_tip, .int i_takenBytes, .int i_checkedTxs])), (a_row, .inl (cy 0, 3000, .inl g_row)), (o_layout, .inr (4, [.null, .int u1, v_a_layout_txAt, v_a_layout_firstIn, v_a_layout_firstOut, v_a_layout_inAt, v_a_layout_inScript, v_a_layout_inEnd, v_a_layout_outAt, v_a_layout_outScript, v_a_layout_outEnd, .int u2, .int u3, .int u4, .int u5]))]) (va_runV (C := "java/util/ArrayList") (As := []) (rest := []) ⟨hx, hb, hml, hown, hts⟩ (c_Al_size_y0U l D cy ad fu o_blocks v_a_blocks_el i_blocks_size i_blocks_modCount _ hc H.size) ⟨q_cB hts gw_551 gw_12 gw_673 hdf_53 ⟨by decide, by decide⟩, hts _ gw_549, hts _ gw_550⟩ (q_preV (q_pre (hP.sub [3] rfl) (hD.sub [3] (by decide) rfl) hK hSt hS (va_free hD hS hA [3] rfl) _) (va_recv hK (hP.sub [3] rfl) (ci := 11) (q0 := 0) rfl rfl)) rfl rfl hl.1 rfl (lv_room (Nat.le_of_ble_eq_true rfl)) d_K_submit_4 ⟨Nat.le_of_ble_eq_true rfl, Nat.le_of_ble_eq_true rfl⟩) hP hD hS hA [3] [0, 1, 2] rfl rfl (by decide) (by decide) (fun H locs hP hD hS => ?_)
  clear hc
  have hP : va_P D classes [(o, .inr (0, [.ref a_row, .int u0, v_a_id, v_o_sha, r_signatures, v_o_machine, .ref o_layout, v_o_ledger, .ref o_blocks, r_spent, v_o_tip, .int i_takenBytes, .int i_checkedTxs])), (a_row, .inl (cy 0, 3000, .inl g_row)), (o_layout, .inr (4, [.null, .int u1, v_a_layout_txAt, v_a_layout_firstIn, v_a_layout_firstOut, v_a_layout_inAt, v_a_layout_inScript, v_a_layout_inEnd, v_a_layout_outAt, v_a_layout_outScript, v_a_layout_outEnd, .int u2, .int u3, .int u4, .int u5])), (o_blocks, .inr (11, [v_a_blocks_el, .int i_blocks_size, .int i_blocks_modCount]))] H := hP
  have hD : va_D A [(o, .inr (0, [.ref a_row, .int u0, v_a_id, v_o_sha, r_signatures, v_o_machine, .ref o_layout, v_o_ledger, .ref o_blocks, r_spent, v_o_tip, .int i_takenBytes, .int i_checkedTxs])), (a_row, .inl (cy 0, 3000, .inl g_row)), (o_layout, .inr (4, [.null, .int u1, v_a_layout_txAt, v_a_layout_firstIn, v_a_layout_firstOut, v_a_layout_inAt, v_a_layout_inScript, v_a_layout_inEnd, v_a_layout_outAt, v_a_layout_outScript, v_a_layout_outEnd, .int u2, .int u3, .int u4, .int u5])), (o_blocks, .inr (11, [v_a_blocks_el, .int i_blocks_size, .int i_blocks_modCount]))] := hD
  refine lv_sipush (v := 200) hx hb d_K_submit_7 (by decide) ?_
  refine lv_icmp_gt (tgt := 27) hx hb d_K_submit_10 (by decide) (fun cx => ?_) (fun cx => ?_)
  · have hf := ifp cx hf
    exact wb_K_submit_27 (fu := fu) F _ _ _ _ _ _ _ hf _ _ _ hP hD hS (lv_sub hl [] rfl)
  · have hf := ifn cx hf
    refine lv_aload_n hx hb d_K_submit_13 rfl (lv_at hl 0 rfl) ?_
    refine va_get (D := D) (ci := 0) (v := .int i_takenBytes) (C := "CoinKeeper") (T := F_0) (N := 13) hx hb hts i_0 hown hK hP 0 rfl rfl 11 (by decide) (hts _ gw_511) (fun _ h9 => h9) rfl d_K_submit_14 ?_
    refine lv_aload_n hx hb d_K_submit_17 rfl (lv_at hl 0 rfl) ?_
    refine va_get (D := D) (ci := 0) (v := .int u0) (C := "CoinKeeper") (T := F_0) (N := 13) hx hb hts i_0 hown hK hP 0 rfl rfl 1 (by decide) (hts _ gw_501) (fun _ h9 => h9) rfl d_K_submit_18 ?_
    refine lv_iadd hx hb d_K_submit_21 ?_
    refine lv_topi (fun v2 ev => ?_)
    have hf := bn ev hf
    clear ev
    refine lv_ldc (v := 100000) hx hb hown (hts _ gw_674) d_K_submit_22 ?_
    refine lv_icmp_le (tgt := 35) hx hb d_K_submit_24 (by decide) (fun cx => ?_) (fun cx => ?_)
    · have hf := ifp cx hf
      refine lv_aload_n hx hb d_K_submit_35 rfl (lv_at hl 0 rfl) ?_
      refine va_get (D := D) (ci := 0) (v := .int u0) (C := "CoinKeeper") (T := F_0) (N := 13) hx hb hts i_0 hown hK hP 0 rfl rfl 1 (by decide) (hts _ gw_501) (fun _ h9 => h9) rfl d_K_submit_36 ?_
      refine lv_istore_n (lv' := [(1, .int u0), (0, .ref o)]) hx hb d_K_submit_39 rfl hl (by decide) rfl (fun ls hl => ?_)
      refine lv_aload_n hx hb d_K_submit_40 rfl (lv_at hl 1 rfl) ?_
      refine lv_iconst (v := 0) hx hb d_K_submit_41 (by decide) ?_
      refine va_put (D := D) (ci := 0) (v := .int (0 : Int32)) (ty := .int) (C := "CoinKeeper") (T := F_0) (N := 13) hx hb hts i_0 t_0 t_0_ok n_0 hown hK hP hD hS 0 rfl rfl 1 (by decide) (hts _ gw_501) (fun _ h9 => h9) rfl (by decide +kernel) rfl rfl (Nat.le_of_ble_eq_true rfl) d_K_submit_42 (fun H locs hP hD hS => ?_)
      have hP : va_P D classes [(o, .inr (0, [.ref a_row, .int (0 : Int32), v_a_id, v_o_sha, r_signatures, v_o_machine, .ref o_layout, v_o_ledger, .ref o_blocks, r_spent, v_o_tip, .int i_takenBytes, .int i_checkedTxs])), (a_row, .inl (cy 0, 3000, .inl g_row)), (o_layout, .inr (4, [.null, .int u1, v_a_layout_txAt, v_a_layout_firstIn, v_a_layout_firstOut, v_a_layout_inAt, v_a_layout_inScript, v_a_layout_inEnd, v_a_layout_outAt, v_a_layout_outScript, v_a_layout_outEnd, .int u2, .int u3, .int u4, .int u5])), (o_blocks, .inr (11, [v_a_blocks_el, .int i_blocks_size, .int i_blocks_modCount]))] H := hP
      have hD : va_D A [(o, .inr (0, [.ref a_row, .int (0 : Int32), v_a_id, v_o_sha, r_signatures, v_o_machine, .ref o_layout, v_o_ledger, .ref o_blocks, r_spent, v_o_tip, .int i_takenBytes, .int i_checkedTxs])), (a_row, .inl (cy 0, 3000, .inl g_row)), (o_layout, .inr (4, [.null, .int u1, v_a_layout_txAt, v_a_layout_firstIn, v_a_layout_firstOut, v_a_layout_inAt, v_a_layout_inScript, v_a_layout_inEnd, v_a_layout_outAt, v_a_layout_outScript, v_a_layout_outEnd, .int u2, .int u3, .int u4, .int u5])), (o_blocks, .inr (11, [v_a_blocks_el, .int i_blocks_size, .int i_blocks_modCount]))] := hD
      refine lv_aload_n hx hb d_K_submit_45 rfl (lv_at hl 1 rfl) ?_
      refine lv_iload_n hx hb d_K_submit_46 rfl (lv_at hl 0 rfl) ?_
      obtain ⟨v3, e4, e5, e6, e7, e8, hc, hf⟩ := bdp6 hf
      refine q_ai (wr := [(o_blocks, .inr (11, [v_a_blocks_el, .int i_blocks_size, .int i_blocks_modCount]))]) (va_runV (C := "CoinKeeper") (As := [.int u0]) (rest := []) ⟨hx, hb, hml, hown, hts⟩ (c_K_refusal l D cy ad fu o v_a_id v_o_sha r_signatures v_o_machine v_o_ledger (.ref o_blocks) r_spent v_o_tip a_row o_layout v_a_layout_txAt v_a_layout_firstIn v_a_layout_firstOut v_a_layout_inAt v_a_layout_inScript v_a_layout_inEnd v_a_layout_outAt v_a_layout_outScript v_a_layout_outEnd (0 : Int32) i_takenBytes i_checkedTxs g_row u0 u1 u2 u3 u4 u5 _ hc H.size) ⟨q_cB hts gw_678 gw_1 gw_675 hdf_54 ⟨by decide, by decide⟩, hts _ gw_677, hts _ gs_5⟩ (q_preV (q_pre (hP.sub [0, 1, 2] rfl) (hD.sub [0, 1, 2] (by decide) rfl) hK hSt hS (va_free hD hS hA [0, 1, 2] rfl) _) (va_recv hK (hP.sub [0, 1, 2] rfl) (ci := 0) (q0 := 0) rfl rfl)) rfl rfl hl.1 rfl (lv_room (Nat.le_of_ble_eq_true rfl)) d_K_submit_47 ⟨Nat.le_of_ble_eq_true rfl, Nat.le_of_ble_eq_true rfl⟩) hP hD hS hA [0, 1, 2] [3] rfl rfl (by decide) (by decide) (fun H locs hP hD hS => ?_)
      clear hc
      have hP : va_P D classes [(o_blocks, .inr (11, [v_a_blocks_el, .int i_blocks_size, .int i_blocks_modCount])), (o, .inr (0, [.ref a_row, .int (0 : Int32), v_a_id, v_o_sha, r_signatures, v_o_machine, .ref o_layout, v_o_ledger, .ref o_blocks, r_spent, v_o_tip, .int i_takenBytes, .int i_checkedTxs])), (a_row, .inl (cy 0, 3000, .inl g_row)), (o_layout, .inr (4, [.ref a_row, .int e4, v_a_layout_txAt, v_a_layout_firstIn, v_a_layout_firstOut, v_a_layout_inAt, v_a_layout_inScript, v_a_layout_inEnd, v_a_layout_outAt, v_a_layout_outScript, v_a_layout_outEnd, .int e5, .int e6, .int e7, .int e8]))] H := hP
      have hD : va_D A [(o_blocks, .inr (11, [v_a_blocks_el, .int i_blocks_size, .int i_blocks_modCount])), (o, .inr (0, [.ref a_row, .int (0 : Int32), v_a_id, v_o_sha, r_signatures, v_o_machine, .ref o_layout, v_o_ledger, .ref o_blocks, r_spent, v_o_tip, .int i_takenBytes, .int i_checkedTxs])), (a_row, .inl (cy 0, 3000, .inl g_row)), (o_layout, .inr (4, [.ref a_row, .int e4, v_a_layout_txAt, v_a_layout_firstIn, v_a_layout_firstOut, v_a_layout_inAt, v_a_layout_inScript, v_a_layout_inEnd, v_a_layout_outAt, v_a_layout_outScript, v_a_layout_outEnd, .int e5, .int e6, .int e7, .int e8]))] := hD
      refine lv_istore_n (lv' := [(2, .int v3), (1, .int u0), (0, .ref o)]) hx hb d_K_submit_50 rfl hl (by decide) rfl (fun ls hl => ?_)
      refine lv_iload_n hx hb d_K_submit_51 rfl (lv_at hl 0 rfl) ?_
      refine lv_if_eq (tgt := 57) hx hb d_K_submit_52 (by decide) (fun cx => ?_) (fun cx => ?_)
      · have hf := ifp cx hf
        refine lv_aload_n hx hb d_K_submit_57 rfl (lv_at hl 2 rfl) ?_
        refine lv_iload_n hx hb d_K_submit_58 rfl (lv_at hl 1 rfl) ?_
        exact nomatch hf
      · have hf := ifn cx hf
        refine lv_iload_n hx hb d_K_submit_55 rfl (lv_at hl 0 rfl) ?_
        obtain rfl := Option.some.inj hf
        exact q_ri hx hb hr hlocks hK (hP.sub [1, 2, 3, 0] rfl) (hD.sub [1, 2, 3, 0] (by decide) rfl) hS d_K_submit_56
    · have hf := ifn cx hf
      exact wb_K_submit_27 (fu := fu) F _ _ _ _ _ _ _ hf _ _ _ hP hD hS (lv_sub hl [] rfl)
theorem c_K_submit (l : Launch) (D : va_G) (cy : Nat → ClassId) (ad : Nat → Nat) (fu : Nat) (o : Nat) (v_a_id : Value) (v_o_sha : Value) (r_signatures : Value) (v_o_machine : Value) (v_o_ledger : Value) (r_spent : Value) (v_o_tip : Value) (a_row : Nat) (o_layout : Nat) (v_a_layout_txAt : Value) (v_a_layout_firstIn : Value) (v_a_layout_firstOut : Value) (v_a_layout_inAt : Value) (v_a_layout_inScript : Value) (v_a_layout_inEnd : Value) (v_a_layout_outAt : Value) (v_a_layout_outScript : Value) (v_a_layout_outEnd : Value) (o_blocks : Nat) (v_a_blocks_el : Value) (i_takenBytes : Int32) (i_checkedTxs : Int32) (g_row : Nat → Int32) (i_blocks_size : Int32) (i_blocks_modCount : Int32) (u0 : Int32) (u1 : Int32) (u2 : Int32) (u3 : Int32) (u4 : Int32) (u5 : Int32) (res : Int32 × Int32 × Int32 × Int32 × Int32 × Int32 × Int32) (hf : x_K_submit fu i_takenBytes i_checkedTxs g_row i_blocks_size i_blocks_modCount u0 u1 u2 u3 u4 u5 = some res) (sz : Nat) : Met l ({ cls := "CoinKeeper", name := "submit", desc := "()I" } : Jvm.MethodName) (.code ({ cls := "CoinKeeper", name := "submit", desc := "()I" } : Jvm.MethodName) b_K_submit 7 (some .int) :: gw) rm_K_submit (va_Pc [.ref o] (Pr D cy ad [(o, .inr (0, [.ref a_row, .int u0, v_a_id, v_o_sha, r_signatures, v_o_machine, .ref o_layout, v_o_ledger, .ref o_blocks, r_spent, v_o_tip, .int i_takenBytes, .int i_checkedTxs])), (a_row, .inl (cy 0, 3000, .inl g_row)), (o_layout, .inr (4, [.null, .int u1, v_a_layout_txAt, v_a_layout_firstIn, v_a_layout_firstOut, v_a_layout_inAt, v_a_layout_inScript, v_a_layout_inEnd, v_a_layout_outAt, v_a_layout_outScript, v_a_layout_outEnd, .int u2, .int u3, .int u4, .int u5])), (o_blocks, .inr (11, [v_a_blocks_el, .int i_blocks_size, .int i_blocks_modCount]))] sz)) (q_K_submit D cy (va_A [(o, .inr (0, [.ref a_row, .int u0, v_a_id, v_o_sha, r_signatures, v_o_machine, .ref o_layout, v_o_ledger, .ref o_blocks, r_spent, v_o_tip, .int i_takenBytes, .int i_checkedTxs])), (a_row, .inl (cy 0, 3000, .inl g_row)), (o_layout, .inr (4, [.null, .int u1, v_a_layout_txAt, v_a_layout_firstIn, v_a_layout_firstOut, v_a_layout_inAt, v_a_layout_inScript, v_a_layout_inEnd, v_a_layout_outAt, v_a_layout_outScript, v_a_layout_outEnd, .int u2, .int u3, .int u4, .int u5])), (o_blocks, .inr (11, [v_a_blocks_el, .int i_blocks_size, .int i_blocks_modCount]))] sz) o v_a_id v_o_sha r_signatures v_o_machine v_o_ledger r_spent v_o_tip a_row o_layout v_a_layout_txAt v_a_layout_firstIn v_a_layout_firstOut v_a_layout_inAt v_a_layout_inScript v_a_layout_inEnd v_a_layout_outAt v_a_layout_outScript v_a_layout_outEnd o_blocks v_a_blocks_el i_takenBytes i_checkedTxs g_row i_blocks_size i_blocks_modCount res) 0 0 (va_A [(o, .inr (0, [.ref a_row, .int u0, v_a_id, v_o_sha, r_signatures, v_o_machine, .ref o_layout, v_o_ledger, .ref o_blocks, r_spent, v_o_tip, .int i_takenBytes, .int i_checkedTxs])), (a_row, .inl (cy 0, 3000, .inl g_row)), (o_layout, .inr (4, [.null, .int u1, v_a_layout_txAt, v_a_layout_firstIn, v_a_layout_firstOut, v_a_layout_inAt, v_a_layout_inScript, v_a_layout_inEnd, v_a_layout_outAt, v_a_layout_outScript, v_a_layout_outEnd, .int u2, .int u3, .int u4, .int u5])), (o_blocks, .inr (11, [v_a_blocks_el, .int i_blocks_size, .int i_blocks_modCount]))] sz) :=
  q_met (Qc := fun A => q_K_submit D cy A o v_a_id v_o_sha r_signatures v_o_machine v_o_ledger r_spent v_o_tip a_row o_layout v_a_layout_txAt v_a_layout_firstIn v_a_layout_firstOut v_a_layout_inAt v_a_layout_inScript v_a_layout_inEnd v_a_layout_outAt v_a_layout_outScript v_a_layout_outEnd o_blocks v_a_blocks_el i_takenBytes i_checkedTxs g_row i_blocks_size i_blocks_modCount res) (by decide) rfl rfl (Nat.le_of_ble_eq_true rfl) (fun p e s m below meth c ls F hP hD hS hl => we_K_submit (fu := fu) F u0 u1 u2 u3 u4 u5 res hf _ _ _ hP hD hS hl) sz
abbrev b_Ma_load : ByteArray := prog_7_method_2_code
theorem d_Ma_load_0 : decode b_Ma_load 0 = .ok (.bipush 64, 2) := by decide +kernel
theorem d_Ma_load_2 : decode b_Ma_load 2 = .ok (.iload_n 1, 1) := by decide +kernel
theorem d_Ma_load_3 : decode b_Ma_load 3 = .ok (.sipush 1000, 3) := by decide +kernel
theorem d_Ma_load_6 : decode b_Ma_load 6 = .ok (.imul, 1) := by decide +kernel
theorem d_Ma_load_7 : decode b_Ma_load 7 = .ok (.iadd, 1) := by decide +kernel
theorem d_Ma_load_8 : decode b_Ma_load 8 = .ok (.istore 5, 2) := by decide +kernel
theorem d_Ma_load_10 : decode b_Ma_load 10 = .ok (.aload_n 2, 1) := by decide +kernel
theorem d_Ma_load_11 : decode b_Ma_load 11 = .ok (.iload_n 3, 1) := by decide +kernel
theorem d_Ma_load_12 : decode b_Ma_load 12 = .ok (.aload_n 0, 1) := by decide +kernel
theorem d_Ma_load_13 : decode b_Ma_load 13 = .ok (.getfield 18, 3) := by decide +kernel
theorem d_Ma_load_16 : decode b_Ma_load 16 = .ok (.iload 5, 2) := by decide +kernel
theorem d_Ma_load_18 : decode b_Ma_load 18 = .ok (.iload 4, 2) := by decide +kernel
theorem d_Ma_load_20 : decode b_Ma_load 20 = .ok (.iload_n 3, 1) := by decide +kernel
theorem d_Ma_load_21 : decode b_Ma_load 21 = .ok (.isub, 1) := by decide +kernel
theorem d_Ma_load_22 : decode b_Ma_load 22 = .ok (.invokestatic 44, 3) := by decide +kernel
theorem d_Ma_load_25 : decode b_Ma_load 25 = .ok (.aload_n 0, 1) := by decide +kernel
theorem d_Ma_load_26 : decode b_Ma_load 26 = .ok (.getfield 22, 3) := by decide +kernel
theorem d_Ma_load_29 : decode b_Ma_load 29 = .ok (.iload_n 1, 1) := by decide +kernel
theorem d_Ma_load_30 : decode b_Ma_load 30 = .ok (.iload 5, 2) := by decide +kernel
theorem d_Ma_load_32 : decode b_Ma_load 32 = .ok (.iload 4, 2) := by decide +kernel
theorem d_Ma_load_34 : decode b_Ma_load 34 = .ok (.iadd, 1) := by decide +kernel
theorem d_Ma_load_35 : decode b_Ma_load 35 = .ok (.iload_n 3, 1) := by decide +kernel
theorem d_Ma_load_36 : decode b_Ma_load 36 = .ok (.isub, 1) := by decide +kernel
theorem d_Ma_load_37 : decode b_Ma_load 37 = .ok (.iastore, 1) := by decide +kernel
theorem d_Ma_load_38 : decode b_Ma_load 38 = .ok (.return_, 1) := by decide +kernel
abbrev rm_Ma_load : Room := { frames := 1, cells := 0, slots := 0, locals := 26 }
abbrev q_Ma_load (D : va_G) (cy : Nat → ClassId) (A : Nat → Prop) (o : Nat) (v_o_sha : Value) (r_signatures : Value) (v_o_ripemd : Value) (v_a_main : Value) (v_a_other : Value) (v_a_taken : Value) (r_layout : Value) (r_coin : Value) (a_data : Nat) (a_scriptEnd : Nat) (b2 : Nat) (i_height : Int32) (i_otherHeight : Int32) (i_ops : Int32) (i_ifs : Int32) (i_ifsNotTaken : Int32) (i_free : Int32) (i_tx : Int32) (i_in : Int32) (i_messageIsThere : Int32) (n2 : Nat) (h2 : Nat → Int32) (res : (Nat → Int32) × (Nat → Int32)) : Array Value → State → Outcome → State → Prop := va_Qv (fun (_ : Unit) => True) (fun _ t => Po D cy A [(o, .inr (6, [v_o_sha, r_signatures, v_o_ripemd, .ref a_data, .ref a_scriptEnd, v_a_main, v_a_other, v_a_taken, .int i_height, .int i_otherHeight, .int i_ops, .int i_ifs, .int i_ifsNotTaken, .int i_free, r_layout, .int i_tx, .int i_in, r_coin, .int i_messageIsThere])), (a_data, .inl (cy 0, 14928, .inl res.1)), (a_scriptEnd, .inl (cy 1, 2, .inl res.2)), (b2, .inl (cy 0, n2, .inl h2))] t) A
def I_Ma_load_e (p : Program) (l : Launch) (e : Env) (s : State) (m : MethodId) (args : Array Value) (below : List Frame) (meth : Method) (c : Code) (D : va_G) (cy : Nat → ClassId) (A : Nat → Prop) (ad : Nat → Nat) (o : Nat) (v_o_sha : Value) (r_signatures : Value) (v_o_ripemd : Value) (v_a_main : Value) (v_a_other : Value) (v_a_taken : Value) (r_layout : Value) (r_coin : Value) (a_data : Nat) (a_scriptEnd : Nat) (b2 : Nat) (i_height : Int32) (i_otherHeight : Int32) (i_ops : Int32) (i_ifs : Int32) (i_ifsNotTaken : Int32) (i_free : Int32) (i_tx : Int32) (i_in : Int32) (i_messageIsThere : Int32) (n2 : Nat) (h2 : Nat → Int32) (k : Int32 → Int32 → Int32 → (Nat → Int32) → (Nat → Int32) → Option ((Nat → Int32) × (Nat → Int32))) : Prop :=
  ∀ (a1 : Int32) (a3 : Int32) (a4 : Int32) (u0 : Nat → Int32) (u1 : Nat → Int32) (res : (Nat → Int32) × (Nat → Int32)), k a1 a3 a4 u0 u1 = some res → ∀ (H : Heap) (locs : List Loc) (ls : Array Slot), va_P D classes [(o, .inr (6, [v_o_sha, r_signatures, v_o_ripemd, .ref a_data, .ref a_scriptEnd, v_a_main, v_a_other, v_a_taken, .int i_height, .int i_otherHeight, .int i_ops, .int i_ifs, .int i_ifsNotTaken, .int i_free, r_layout, .int i_tx, .int i_in, r_coin, .int i_messageIsThere])), (a_data, .inl (cy 0, 14928, .inl u0)), (a_scriptEnd, .inl (cy 1, 2, .inl u1)), (b2, .inl (cy 0, n2, .inl h2))] H → va_D A [(o, .inr (6, [v_o_sha, r_signatures, v_o_ripemd, .ref a_data, .ref a_scriptEnd, v_a_main, v_a_other, v_a_taken, .int i_height, .int i_otherHeight, .int i_ops, .int i_ifs, .int i_ifsNotTaken, .int i_free, r_layout, .int i_tx, .int i_in, r_coin, .int i_messageIsThere])), (a_data, .inl (cy 0, 14928, .inl u0)), (a_scriptEnd, .inl (cy 1, 2, .inl u1)), (b2, .inl (cy 0, n2, .inl h2))] → va_S A s.heap H locs → lv_has ls 6 [(0, .ref o), (1, .int a1), (2, .ref b2), (3, .int a3), (4, .int a4)] → W p l e rm_Ma_load s m args below meth c H locs 0 0 (MQ below (q_Ma_load D cy A o v_o_sha r_signatures v_o_ripemd v_a_main v_a_other v_a_taken r_layout r_coin a_data a_scriptEnd b2 i_height i_otherHeight i_ops i_ifs i_ifsNotTaken i_free i_tx i_in i_messageIsThere n2 h2 res) args s 0 0 A) (F0 m 0 ls [])
def x_Ma_load (fu : Nat) (i_height : Int32) (i_otherHeight : Int32) (i_ops : Int32) (i_ifs : Int32) (i_ifsNotTaken : Int32) (i_free : Int32) (i_tx : Int32) (i_in : Int32) (i_messageIsThere : Int32) (n2 : Nat) (h2 : Nat → Int32) (a1 : Int32) (a3 : Int32) (a4 : Int32) (u0 : Nat → Int32) (u1 : Nat → Int32) : Option ((Nat → Int32) × (Nat → Int32)) :=
  bnd ((64 : Int32) + (a1 * (1000 : Int32))) fun v1 => bnd (a4 - a3) fun v2 => gd (cpk a3 v1 v2 n2 14928) <| gd (bfit h2 a3 v2) <| bnd (va_cpy h2 u0 a3.toNatClampNeg v1.toNatClampNeg v2.toNatClampNeg) fun f3 => bnd (v1 + a4) fun v4 => bnd (v4 - a3) fun v5 => gd (inb a1 2) <| bnd (upd u1 a1.toNatClampNeg v5) fun f6 => some (f3, f6)
set_option maxHeartbeats 8000000 in
set_option maxRecDepth 100000 in
theorem we_Ma_load {p : Program} {l : Launch} {e : Env} {s : State} {m : MethodId} {args : Array Value} {below : List Frame} {meth : Method} {c : Code} {D : va_G} {cy : Nat → ClassId} {A : Nat → Prop} {ad : Nat → Nat} {o : Nat} {v_o_sha : Value} {r_signatures : Value} {v_o_ripemd : Value} {v_a_main : Value} {v_a_other : Value} {v_a_taken : Value} {r_layout : Value} {r_coin : Value} {a_data : Nat} {a_scriptEnd : Nat} {b2 : Nat} {i_height : Int32} {i_otherHeight : Int32} {i_ops : Int32} {i_ifs : Int32} {i_ifsNotTaken : Int32} {i_free : Int32} {i_tx : Int32} {i_in : Int32} {i_messageIsThere : Int32} {n2 : Nat} {h2 : Nat → Int32} {fu : Nat} (F : Fx p s m args meth c b_Ma_load 6 "CoinKeeper$Machine" "load" none D cy ad A) : I_Ma_load_e p l e s m args below meth c D cy A ad o v_o_sha r_signatures v_o_ripemd v_a_main v_a_other v_a_taken r_layout r_coin a_data a_scriptEnd b2 i_height i_otherHeight i_ops i_ifs i_ifsNotTaken i_free i_tx i_in i_messageIsThere n2 h2 (x_Ma_load fu i_height i_otherHeight i_ops i_ifs i_ifsNotTaken i_free i_tx i_in i_messageIsThere n2 h2) := by
  obtain ⟨hx, hb, hr, hml, hown, hts, hlocks, hK, hA, hSt, hnm, hex⟩ := id F
  intro a1 a3 a4 u0 u1 res hf H locs ls hP hD hS hl
  unfold x_Ma_load at hf
  refine lv_bipush (v := 64) hx hb d_Ma_load_0 (by decide) ?_
  refine lv_iload_n hx hb d_Ma_load_2 rfl (lv_at hl 1 rfl) ?_
  refine lv_sipush (v := 1000) hx hb d_Ma_load_3 (by decide) ?_
  refine lv_imul hx hb d_Ma_load_6 ?_
  refine lv_iadd hx hb d_Ma_load_7 ?_
  refine lv_topi (fun v1 ev => ?_)
  have hf := bn ev hf
  clear ev
  refine lv_istore (lv' := [(5, .int v1), (0, .ref o), (1, .int a1), (2, .ref b2), (3, .int a3), (4, .int a4)]) hx hb d_Ma_load_8 hl (by decide) rfl (fun ls hl => ?_)
  refine lv_aload_n hx hb d_Ma_load_10 rfl (lv_at hl 3 rfl) ?_
  refine lv_iload_n hx hb d_Ma_load_11 rfl (lv_at hl 4 rfl) ?_
  refine lv_aload_n hx hb d_Ma_load_12 rfl (lv_at hl 1 rfl) ?_
  refine va_get (D := D) (ci := 6) (v := .ref a_data) (C := "CoinKeeper$Machine") (T := F_6) (N := 19) hx hb hts i_6 hown hK hP 0 rfl rfl 3 (by decide) (hts _ gw_207) (fun _ h9 => h9) rfl d_Ma_load_13 ?_
  refine lv_iload hx hb d_Ma_load_16 (lv_at hl 0 rfl) ?_
  refine lv_iload hx hb d_Ma_load_18 (lv_at hl 5 rfl) ?_
  refine lv_iload_n hx hb d_Ma_load_20 rfl (lv_at hl 4 rfl) ?_
  refine lv_isub hx hb d_Ma_load_21 ?_
  refine lv_topi (fun v2 ev => ?_)
  have hf := bn ev hf
  clear ev
  obtain ⟨hg, hf⟩ := gdp hf
  obtain ⟨hg2, hf⟩ := gdp hf
  refine va_copyi (rest := []) hx hb (hml.trans hl.1.symm) hown (hts _ gw_976) (hts _ gw_497) (hts _ gw_496) (hts _ gw_17) hK hP hD hS 3 1 0 0 rfl rfl rfl rfl rfl (cpk_p hg).1 (cpk_p hg).2.1 (cpk_p hg).2.2.1 (cpk_p hg).2.2.2.1 (cpk_p hg).2.2.2.2 (bfit_p hg2) (by decide) (by decide) d_Ma_load_22 (fun H locs hP hD hS => ?_)
  obtain ⟨f3, ev, hf⟩ := bne hf
  have hP : va_P D classes [(o, .inr (6, [v_o_sha, r_signatures, v_o_ripemd, .ref a_data, .ref a_scriptEnd, v_a_main, v_a_other, v_a_taken, .int i_height, .int i_otherHeight, .int i_ops, .int i_ifs, .int i_ifsNotTaken, .int i_free, r_layout, .int i_tx, .int i_in, r_coin, .int i_messageIsThere])), (a_data, .inl (cy 0, 14928, .inl f3)), (a_scriptEnd, .inl (cy 1, 2, .inl u1)), (b2, .inl (cy 0, n2, .inl h2))] H := by rw [ev]; exact hP
  have hD : va_D A [(o, .inr (6, [v_o_sha, r_signatures, v_o_ripemd, .ref a_data, .ref a_scriptEnd, v_a_main, v_a_other, v_a_taken, .int i_height, .int i_otherHeight, .int i_ops, .int i_ifs, .int i_ifsNotTaken, .int i_free, r_layout, .int i_tx, .int i_in, r_coin, .int i_messageIsThere])), (a_data, .inl (cy 0, 14928, .inl f3)), (a_scriptEnd, .inl (cy 1, 2, .inl u1)), (b2, .inl (cy 0, n2, .inl h2))] := by rw [ev]; exact hD
  clear ev
  refine lv_aload_n hx hb d_Ma_load_25 rfl (lv_at hl 1 rfl) ?_
  refine va_get (D := D) (ci := 6) (v := .ref a_scriptEnd) (C := "CoinKeeper$Machine") (T := F_6) (N := 19) hx hb hts i_6 hown hK hP 0 rfl rfl 4 (by decide) (hts _ gw_208) (fun _ h9 => h9) rfl d_Ma_load_26 ?_
  refine lv_iload_n hx hb d_Ma_load_29 rfl (lv_at hl 2 rfl) ?_
  refine lv_iload hx hb d_Ma_load_30 (lv_at hl 0 rfl) ?_
  refine lv_iload hx hb d_Ma_load_32 (lv_at hl 5 rfl) ?_
  refine lv_iadd hx hb d_Ma_load_34 ?_
  refine lv_topi (fun v4 ev => ?_)
  have hf := bn ev hf
  clear ev
  refine lv_iload_n hx hb d_Ma_load_35 rfl (lv_at hl 4 rfl) ?_
  refine lv_isub hx hb d_Ma_load_36 ?_
  refine lv_topi (fun v5 ev => ?_)
  have hf := bn ev hf
  clear ev
  obtain ⟨hg, hf⟩ := gdp hf
  refine va_iast hx hb hK hP hD hS 2 1 rfl rfl (inb_in hg) d_Ma_load_37 (fun H locs hP hD hS => ?_)
  obtain ⟨f6, ev, hf⟩ := bne hf
  have hP : va_P D classes [(o, .inr (6, [v_o_sha, r_signatures, v_o_ripemd, .ref a_data, .ref a_scriptEnd, v_a_main, v_a_other, v_a_taken, .int i_height, .int i_otherHeight, .int i_ops, .int i_ifs, .int i_ifsNotTaken, .int i_free, r_layout, .int i_tx, .int i_in, r_coin, .int i_messageIsThere])), (a_data, .inl (cy 0, 14928, .inl f3)), (a_scriptEnd, .inl (cy 1, 2, .inl f6)), (b2, .inl (cy 0, n2, .inl h2))] H := by rw [ev]; exact hP
  have hD : va_D A [(o, .inr (6, [v_o_sha, r_signatures, v_o_ripemd, .ref a_data, .ref a_scriptEnd, v_a_main, v_a_other, v_a_taken, .int i_height, .int i_otherHeight, .int i_ops, .int i_ifs, .int i_ifsNotTaken, .int i_free, r_layout, .int i_tx, .int i_in, r_coin, .int i_messageIsThere])), (a_data, .inl (cy 0, 14928, .inl f3)), (a_scriptEnd, .inl (cy 1, 2, .inl f6)), (b2, .inl (cy 0, n2, .inl h2))] := by rw [ev]; exact hD
  clear ev
  obtain rfl := Option.some.inj hf
  exact q_rv hx hb hr hlocks hK hP hD hS d_Ma_load_38
theorem c_Ma_load (l : Launch) (D : va_G) (cy : Nat → ClassId) (ad : Nat → Nat) (fu : Nat) (o : Nat) (v_o_sha : Value) (r_signatures : Value) (v_o_ripemd : Value) (v_a_main : Value) (v_a_other : Value) (v_a_taken : Value) (r_layout : Value) (r_coin : Value) (a_data : Nat) (a_scriptEnd : Nat) (b2 : Nat) (i_height : Int32) (i_otherHeight : Int32) (i_ops : Int32) (i_ifs : Int32) (i_ifsNotTaken : Int32) (i_free : Int32) (i_tx : Int32) (i_in : Int32) (i_messageIsThere : Int32) (n2 : Nat) (h2 : Nat → Int32) (a1 : Int32) (a3 : Int32) (a4 : Int32) (u0 : Nat → Int32) (u1 : Nat → Int32) (res : (Nat → Int32) × (Nat → Int32)) (hf : x_Ma_load fu i_height i_otherHeight i_ops i_ifs i_ifsNotTaken i_free i_tx i_in i_messageIsThere n2 h2 a1 a3 a4 u0 u1 = some res) (sz : Nat) : Met l ({ cls := "CoinKeeper$Machine", name := "load", desc := "(I[BII)V" } : Jvm.MethodName) (.code ({ cls := "CoinKeeper$Machine", name := "load", desc := "(I[BII)V" } : Jvm.MethodName) b_Ma_load 6 none :: gw) rm_Ma_load (va_Pc [.ref o, .int a1, .ref b2, .int a3, .int a4] (Pr D cy ad [(o, .inr (6, [v_o_sha, r_signatures, v_o_ripemd, .ref a_data, .ref a_scriptEnd, v_a_main, v_a_other, v_a_taken, .int i_height, .int i_otherHeight, .int i_ops, .int i_ifs, .int i_ifsNotTaken, .int i_free, r_layout, .int i_tx, .int i_in, r_coin, .int i_messageIsThere])), (a_data, .inl (cy 0, 14928, .inl u0)), (a_scriptEnd, .inl (cy 1, 2, .inl u1)), (b2, .inl (cy 0, n2, .inl h2))] sz)) (q_Ma_load D cy (va_A [(o, .inr (6, [v_o_sha, r_signatures, v_o_ripemd, .ref a_data, .ref a_scriptEnd, v_a_main, v_a_other, v_a_taken, .int i_height, .int i_otherHeight, .int i_ops, .int i_ifs, .int i_ifsNotTaken, .int i_free, r_layout, .int i_tx, .int i_in, r_coin, .int i_messageIsThere])), (a_data, .inl (cy 0, 14928, .inl u0)), (a_scriptEnd, .inl (cy 1, 2, .inl u1)), (b2, .inl (cy 0, n2, .inl h2))] sz) o v_o_sha r_signatures v_o_ripemd v_a_main v_a_other v_a_taken r_layout r_coin a_data a_scriptEnd b2 i_height i_otherHeight i_ops i_ifs i_ifsNotTaken i_free i_tx i_in i_messageIsThere n2 h2 res) 0 0 (va_A [(o, .inr (6, [v_o_sha, r_signatures, v_o_ripemd, .ref a_data, .ref a_scriptEnd, v_a_main, v_a_other, v_a_taken, .int i_height, .int i_otherHeight, .int i_ops, .int i_ifs, .int i_ifsNotTaken, .int i_free, r_layout, .int i_tx, .int i_in, r_coin, .int i_messageIsThere])), (a_data, .inl (cy 0, 14928, .inl u0)), (a_scriptEnd, .inl (cy 1, 2, .inl u1)), (b2, .inl (cy 0, n2, .inl h2))] sz) :=
  q_met (Qc := fun A => q_Ma_load D cy A o v_o_sha r_signatures v_o_ripemd v_a_main v_a_other v_a_taken r_layout r_coin a_data a_scriptEnd b2 i_height i_otherHeight i_ops i_ifs i_ifsNotTaken i_free i_tx i_in i_messageIsThere n2 h2 res) (by decide) rfl rfl (Nat.le_of_ble_eq_true rfl) (fun p e s m below meth c ls F hP hD hS hl => we_Ma_load (fu := fu) F a1 a3 a4 u0 u1 res hf _ _ _ hP hD hS hl) sz
abbrev b_Ma_spend : ByteArray := prog_7_method_4_code
theorem d_Ma_spend_0 : decode b_Ma_spend 0 = .ok (.aload_n 0, 1) := by decide +kernel
theorem d_Ma_spend_1 : decode b_Ma_spend 1 = .ok (.aload_n 1, 1) := by decide +kernel
theorem d_Ma_spend_2 : decode b_Ma_spend 2 = .ok (.putfield 54, 3) := by decide +kernel
theorem d_Ma_spend_5 : decode b_Ma_spend 5 = .ok (.aload_n 0, 1) := by decide +kernel
theorem d_Ma_spend_6 : decode b_Ma_spend 6 = .ok (.iload_n 2, 1) := by decide +kernel
theorem d_Ma_spend_7 : decode b_Ma_spend 7 = .ok (.putfield 58, 3) := by decide +kernel
theorem d_Ma_spend_10 : decode b_Ma_spend 10 = .ok (.aload_n 0, 1) := by decide +kernel
theorem d_Ma_spend_11 : decode b_Ma_spend 11 = .ok (.iload_n 3, 1) := by decide +kernel
theorem d_Ma_spend_12 : decode b_Ma_spend 12 = .ok (.putfield 62, 3) := by decide +kernel
theorem d_Ma_spend_15 : decode b_Ma_spend 15 = .ok (.aload_n 0, 1) := by decide +kernel
theorem d_Ma_spend_16 : decode b_Ma_spend 16 = .ok (.aload 4, 2) := by decide +kernel
theorem d_Ma_spend_18 : decode b_Ma_spend 18 = .ok (.putfield 65, 3) := by decide +kernel
theorem d_Ma_spend_21 : decode b_Ma_spend 21 = .ok (.aload_n 0, 1) := by decide +kernel
theorem d_Ma_spend_22 : decode b_Ma_spend 22 = .ok (.iconst 0, 1) := by decide +kernel
theorem d_Ma_spend_23 : decode b_Ma_spend 23 = .ok (.putfield 69, 3) := by decide +kernel
theorem d_Ma_spend_26 : decode b_Ma_spend 26 = .ok (.aload_n 0, 1) := by decide +kernel
theorem d_Ma_spend_27 : decode b_Ma_spend 27 = .ok (.iconst 0, 1) := by decide +kernel
theorem d_Ma_spend_28 : decode b_Ma_spend 28 = .ok (.putfield 73, 3) := by decide +kernel
theorem d_Ma_spend_31 : decode b_Ma_spend 31 = .ok (.aload_n 0, 1) := by decide +kernel
theorem d_Ma_spend_32 : decode b_Ma_spend 32 = .ok (.sipush 2064, 3) := by decide +kernel
theorem d_Ma_spend_35 : decode b_Ma_spend 35 = .ok (.putfield 76, 3) := by decide +kernel
theorem d_Ma_spend_38 : decode b_Ma_spend 38 = .ok (.return_, 1) := by decide +kernel
abbrev rm_Ma_spend_z1z4 : Room := { frames := 0, cells := 0, slots := 0, locals := 0 }
abbrev q_Ma_spend_z1z4 (D : va_G) (cy : Nat → ClassId) (A : Nat → Prop) (o : Nat) (v_o_sha : Value) (r_signatures : Value) (v_o_ripemd : Value) (v_a_data : Value) (v_a_scriptEnd : Value) (v_a_main : Value) (v_a_other : Value) (v_a_taken : Value) (r_layout : Value) (r_coin : Value) (i_otherHeight : Int32) (i_ops : Int32) (i_ifs : Int32) (i_ifsNotTaken : Int32) (res : Int32 × Int32 × Int32 × Int32 × Int32) : Array Value → State → Outcome → State → Prop := va_Qv (fun (_ : Unit) => True) (fun _ t => Po D cy A [(o, .inr (6, [v_o_sha, r_signatures, v_o_ripemd, v_a_data, v_a_scriptEnd, v_a_main, v_a_other, v_a_taken, .int res.1, .int i_otherHeight, .int i_ops, .int i_ifs, .int i_ifsNotTaken, .int res.2.1, .null, .int res.2.2.1, .int res.2.2.2.1, .null, .int res.2.2.2.2]))] t) A
def I_Ma_spend_z1z4_e (p : Program) (l : Launch) (e : Env) (s : State) (m : MethodId) (args : Array Value) (below : List Frame) (meth : Method) (c : Code) (D : va_G) (cy : Nat → ClassId) (A : Nat → Prop) (ad : Nat → Nat) (o : Nat) (v_o_sha : Value) (r_signatures : Value) (v_o_ripemd : Value) (v_a_data : Value) (v_a_scriptEnd : Value) (v_a_main : Value) (v_a_other : Value) (v_a_taken : Value) (r_layout : Value) (r_coin : Value) (i_otherHeight : Int32) (i_ops : Int32) (i_ifs : Int32) (i_ifsNotTaken : Int32) (k : Int32 → Int32 → Int32 → Int32 → Int32 → Int32 → Int32 → Option (Int32 × Int32 × Int32 × Int32 × Int32)) : Prop :=
  ∀ (a2 : Int32) (a3 : Int32) (u0 : Int32) (u1 : Int32) (u2 : Int32) (u3 : Int32) (u4 : Int32) (res : Int32 × Int32 × Int32 × Int32 × Int32), k a2 a3 u0 u1 u2 u3 u4 = some res → ∀ (H : Heap) (locs : List Loc) (ls : Array Slot), va_P D classes [(o, .inr (6, [v_o_sha, r_signatures, v_o_ripemd, v_a_data, v_a_scriptEnd, v_a_main, v_a_other, v_a_taken, .int u0, .int i_otherHeight, .int i_ops, .int i_ifs, .int i_ifsNotTaken, .int u1, r_layout, .int u2, .int u3, r_coin, .int u4]))] H → va_D A [(o, .inr (6, [v_o_sha, r_signatures, v_o_ripemd, v_a_data, v_a_scriptEnd, v_a_main, v_a_other, v_a_taken, .int u0, .int i_otherHeight, .int i_ops, .int i_ifs, .int i_ifsNotTaken, .int u1, r_layout, .int u2, .int u3, r_coin, .int u4]))] → va_S A s.heap H locs → lv_has ls 5 [(0, .ref o), (1, .null), (2, .int a2), (3, .int a3), (4, .null)] → W p l e rm_Ma_spend_z1z4 s m args below meth c H locs 0 0 (MQ below (q_Ma_spend_z1z4 D cy A o v_o_sha r_signatures v_o_ripemd v_a_data v_a_scriptEnd v_a_main v_a_other v_a_taken r_layout r_coin i_otherHeight i_ops i_ifs i_ifsNotTaken res) args s 0 0 A) (F0 m 0 ls [])
def x_Ma_spend_z1z4 (fu : Nat) (i_otherHeight : Int32) (i_ops : Int32) (i_ifs : Int32) (i_ifsNotTaken : Int32) (a2 : Int32) (a3 : Int32) (u0 : Int32) (u1 : Int32) (u2 : Int32) (u3 : Int32) (u4 : Int32) : Option (Int32 × Int32 × Int32 × Int32 × Int32) :=
  some ((0 : Int32), (2064 : Int32), a2, a3, (0 : Int32))
set_option maxHeartbeats 8000000 in
set_option maxRecDepth 100000 in
theorem we_Ma_spend_z1z4 {p : Program} {l : Launch} {e : Env} {s : State} {m : MethodId} {args : Array Value} {below : List Frame} {meth : Method} {c : Code} {D : va_G} {cy : Nat → ClassId} {A : Nat → Prop} {ad : Nat → Nat} {o : Nat} {v_o_sha : Value} {r_signatures : Value} {v_o_ripemd : Value} {v_a_data : Value} {v_a_scriptEnd : Value} {v_a_main : Value} {v_a_other : Value} {v_a_taken : Value} {r_layout : Value} {r_coin : Value} {i_otherHeight : Int32} {i_ops : Int32} {i_ifs : Int32} {i_ifsNotTaken : Int32} {fu : Nat} (F : Fx p s m args meth c b_Ma_spend 5 "CoinKeeper$Machine" "spend" none D cy ad A) : I_Ma_spend_z1z4_e p l e s m args below meth c D cy A ad o v_o_sha r_signatures v_o_ripemd v_a_data v_a_scriptEnd v_a_main v_a_other v_a_taken r_layout r_coin i_otherHeight i_ops i_ifs i_ifsNotTaken (x_Ma_spend_z1z4 fu i_otherHeight i_ops i_ifs i_ifsNotTaken) := by
  obtain ⟨hx, hb, hr, hml, hown, hts, hlocks, hK, hA, hSt, hnm, hex⟩ := id F
  intro a2 a3 u0 u1 u2 u3 u4 res hf H locs ls hP hD hS hl
  unfold x_Ma_spend_z1z4 at hf
  refine lv_aload_n hx hb d_Ma_spend_0 rfl (lv_at hl 0 rfl) ?_
  refine lv_aload_nN hx hb d_Ma_spend_1 rfl (lv_at hl 1 rfl) ?_
  refine va_put (D := D) (ci := 6) (v := .null) (ty := .object "CoinKeeper$Layout") (C := "CoinKeeper$Machine") (T := F_6) (N := 19) hx hb hts i_6 t_6 t_6_ok n_6 hown hK hP hD hS 0 rfl rfl 14 (by decide) (hts _ gw_218) (fun _ h9 => h9) rfl (by decide +kernel) rfl rfl (Nat.le_of_ble_eq_true rfl) d_Ma_spend_2 (fun H locs hP hD hS => ?_)
  have hP : va_P D classes [(o, .inr (6, [v_o_sha, r_signatures, v_o_ripemd, v_a_data, v_a_scriptEnd, v_a_main, v_a_other, v_a_taken, .int u0, .int i_otherHeight, .int i_ops, .int i_ifs, .int i_ifsNotTaken, .int u1, .null, .int u2, .int u3, r_coin, .int u4]))] H := hP
  have hD : va_D A [(o, .inr (6, [v_o_sha, r_signatures, v_o_ripemd, v_a_data, v_a_scriptEnd, v_a_main, v_a_other, v_a_taken, .int u0, .int i_otherHeight, .int i_ops, .int i_ifs, .int i_ifsNotTaken, .int u1, .null, .int u2, .int u3, r_coin, .int u4]))] := hD
  refine lv_aload_n hx hb d_Ma_spend_5 rfl (lv_at hl 0 rfl) ?_
  refine lv_iload_n hx hb d_Ma_spend_6 rfl (lv_at hl 2 rfl) ?_
  refine va_put (D := D) (ci := 6) (v := .int a2) (ty := .int) (C := "CoinKeeper$Machine") (T := F_6) (N := 19) hx hb hts i_6 t_6 t_6_ok n_6 hown hK hP hD hS 0 rfl rfl 15 (by decide) (hts _ gw_219) (fun _ h9 => h9) rfl (by decide +kernel) rfl rfl (Nat.le_of_ble_eq_true rfl) d_Ma_spend_7 (fun H locs hP hD hS => ?_)
  have hP : va_P D classes [(o, .inr (6, [v_o_sha, r_signatures, v_o_ripemd, v_a_data, v_a_scriptEnd, v_a_main, v_a_other, v_a_taken, .int u0, .int i_otherHeight, .int i_ops, .int i_ifs, .int i_ifsNotTaken, .int u1, .null, .int a2, .int u3, r_coin, .int u4]))] H := hP
  have hD : va_D A [(o, .inr (6, [v_o_sha, r_signatures, v_o_ripemd, v_a_data, v_a_scriptEnd, v_a_main, v_a_other, v_a_taken, .int u0, .int i_otherHeight, .int i_ops, .int i_ifs, .int i_ifsNotTaken, .int u1, .null, .int a2, .int u3, r_coin, .int u4]))] := hD
  refine lv_aload_n hx hb d_Ma_spend_10 rfl (lv_at hl 0 rfl) ?_
  refine lv_iload_n hx hb d_Ma_spend_11 rfl (lv_at hl 3 rfl) ?_
  refine va_put (D := D) (ci := 6) (v := .int a3) (ty := .int) (C := "CoinKeeper$Machine") (T := F_6) (N := 19) hx hb hts i_6 t_6 t_6_ok n_6 hown hK hP hD hS 0 rfl rfl 16 (by decide) (hts _ gw_220) (fun _ h9 => h9) rfl (by decide +kernel) rfl rfl (Nat.le_of_ble_eq_true rfl) d_Ma_spend_12 (fun H locs hP hD hS => ?_)
  have hP : va_P D classes [(o, .inr (6, [v_o_sha, r_signatures, v_o_ripemd, v_a_data, v_a_scriptEnd, v_a_main, v_a_other, v_a_taken, .int u0, .int i_otherHeight, .int i_ops, .int i_ifs, .int i_ifsNotTaken, .int u1, .null, .int a2, .int a3, r_coin, .int u4]))] H := hP
  have hD : va_D A [(o, .inr (6, [v_o_sha, r_signatures, v_o_ripemd, v_a_data, v_a_scriptEnd, v_a_main, v_a_other, v_a_taken, .int u0, .int i_otherHeight, .int i_ops, .int i_ifs, .int i_ifsNotTaken, .int u1, .null, .int a2, .int a3, r_coin, .int u4]))] := hD
  refine lv_aload_n hx hb d_Ma_spend_15 rfl (lv_at hl 0 rfl) ?_
  refine lv_aloadN hx hb d_Ma_spend_16 (lv_at hl 4 rfl) ?_
  refine va_put (D := D) (ci := 6) (v := .null) (ty := .object "CoinKeeper$Coin") (C := "CoinKeeper$Machine") (T := F_6) (N := 19) hx hb hts i_6 t_6 t_6_ok n_6 hown hK hP hD hS 0 rfl rfl 17 (by decide) (hts _ gw_221) (fun _ h9 => h9) rfl (by decide +kernel) rfl rfl (Nat.le_of_ble_eq_true rfl) d_Ma_spend_18 (fun H locs hP hD hS => ?_)
  have hP : va_P D classes [(o, .inr (6, [v_o_sha, r_signatures, v_o_ripemd, v_a_data, v_a_scriptEnd, v_a_main, v_a_other, v_a_taken, .int u0, .int i_otherHeight, .int i_ops, .int i_ifs, .int i_ifsNotTaken, .int u1, .null, .int a2, .int a3, .null, .int u4]))] H := hP
  have hD : va_D A [(o, .inr (6, [v_o_sha, r_signatures, v_o_ripemd, v_a_data, v_a_scriptEnd, v_a_main, v_a_other, v_a_taken, .int u0, .int i_otherHeight, .int i_ops, .int i_ifs, .int i_ifsNotTaken, .int u1, .null, .int a2, .int a3, .null, .int u4]))] := hD
  refine lv_aload_n hx hb d_Ma_spend_21 rfl (lv_at hl 0 rfl) ?_
  refine lv_iconst (v := 0) hx hb d_Ma_spend_22 (by decide) ?_
  refine va_put (D := D) (ci := 6) (v := .int (0 : Int32)) (ty := .boolean) (C := "CoinKeeper$Machine") (T := F_6) (N := 19) hx hb hts i_6 t_6 t_6_ok n_6 hown hK hP hD hS 0 rfl rfl 18 (by decide) (hts _ gw_222) (fun _ h9 => h9) rfl (by decide +kernel) (isb_n (v := 0) (by decide)) (isb_f (v := 0) (by decide)) (Nat.le_of_ble_eq_true rfl) d_Ma_spend_23 (fun H locs hP hD hS => ?_)
  have hP : va_P D classes [(o, .inr (6, [v_o_sha, r_signatures, v_o_ripemd, v_a_data, v_a_scriptEnd, v_a_main, v_a_other, v_a_taken, .int u0, .int i_otherHeight, .int i_ops, .int i_ifs, .int i_ifsNotTaken, .int u1, .null, .int a2, .int a3, .null, .int (0 : Int32)]))] H := hP
  have hD : va_D A [(o, .inr (6, [v_o_sha, r_signatures, v_o_ripemd, v_a_data, v_a_scriptEnd, v_a_main, v_a_other, v_a_taken, .int u0, .int i_otherHeight, .int i_ops, .int i_ifs, .int i_ifsNotTaken, .int u1, .null, .int a2, .int a3, .null, .int (0 : Int32)]))] := hD
  refine lv_aload_n hx hb d_Ma_spend_26 rfl (lv_at hl 0 rfl) ?_
  refine lv_iconst (v := 0) hx hb d_Ma_spend_27 (by decide) ?_
  refine va_put (D := D) (ci := 6) (v := .int (0 : Int32)) (ty := .int) (C := "CoinKeeper$Machine") (T := F_6) (N := 19) hx hb hts i_6 t_6 t_6_ok n_6 hown hK hP hD hS 0 rfl rfl 8 (by decide) (hts _ gw_212) (fun _ h9 => h9) rfl (by decide +kernel) rfl rfl (Nat.le_of_ble_eq_true rfl) d_Ma_spend_28 (fun H locs hP hD hS => ?_)
  have hP : va_P D classes [(o, .inr (6, [v_o_sha, r_signatures, v_o_ripemd, v_a_data, v_a_scriptEnd, v_a_main, v_a_other, v_a_taken, .int (0 : Int32), .int i_otherHeight, .int i_ops, .int i_ifs, .int i_ifsNotTaken, .int u1, .null, .int a2, .int a3, .null, .int (0 : Int32)]))] H := hP
  have hD : va_D A [(o, .inr (6, [v_o_sha, r_signatures, v_o_ripemd, v_a_data, v_a_scriptEnd, v_a_main, v_a_other, v_a_taken, .int (0 : Int32), .int i_otherHeight, .int i_ops, .int i_ifs, .int i_ifsNotTaken, .int u1, .null, .int a2, .int a3, .null, .int (0 : Int32)]))] := hD
  refine lv_aload_n hx hb d_Ma_spend_31 rfl (lv_at hl 0 rfl) ?_
  refine lv_sipush (v := 2064) hx hb d_Ma_spend_32 (by decide) ?_
  refine va_put (D := D) (ci := 6) (v := .int (2064 : Int32)) (ty := .int) (C := "CoinKeeper$Machine") (T := F_6) (N := 19) hx hb hts i_6 t_6 t_6_ok n_6 hown hK hP hD hS 0 rfl rfl 13 (by decide) (hts _ gw_217) (fun _ h9 => h9) rfl (by decide +kernel) rfl rfl (Nat.le_of_ble_eq_true rfl) d_Ma_spend_35 (fun H locs hP hD hS => ?_)
  have hP : va_P D classes [(o, .inr (6, [v_o_sha, r_signatures, v_o_ripemd, v_a_data, v_a_scriptEnd, v_a_main, v_a_other, v_a_taken, .int (0 : Int32), .int i_otherHeight, .int i_ops, .int i_ifs, .int i_ifsNotTaken, .int (2064 : Int32), .null, .int a2, .int a3, .null, .int (0 : Int32)]))] H := hP
  have hD : va_D A [(o, .inr (6, [v_o_sha, r_signatures, v_o_ripemd, v_a_data, v_a_scriptEnd, v_a_main, v_a_other, v_a_taken, .int (0 : Int32), .int i_otherHeight, .int i_ops, .int i_ifs, .int i_ifsNotTaken, .int (2064 : Int32), .null, .int a2, .int a3, .null, .int (0 : Int32)]))] := hD
  obtain rfl := Option.some.inj hf
  exact q_rv hx hb hr hlocks hK hP hD hS d_Ma_spend_38
theorem c_Ma_spend_z1z4 (l : Launch) (D : va_G) (cy : Nat → ClassId) (ad : Nat → Nat) (fu : Nat) (o : Nat) (v_o_sha : Value) (r_signatures : Value) (v_o_ripemd : Value) (v_a_data : Value) (v_a_scriptEnd : Value) (v_a_main : Value) (v_a_other : Value) (v_a_taken : Value) (r_layout : Value) (r_coin : Value) (i_otherHeight : Int32) (i_ops : Int32) (i_ifs : Int32) (i_ifsNotTaken : Int32) (a2 : Int32) (a3 : Int32) (u0 : Int32) (u1 : Int32) (u2 : Int32) (u3 : Int32) (u4 : Int32) (res : Int32 × Int32 × Int32 × Int32 × Int32) (hf : x_Ma_spend_z1z4 fu i_otherHeight i_ops i_ifs i_ifsNotTaken a2 a3 u0 u1 u2 u3 u4 = some res) (sz : Nat) : Met l ({ cls := "CoinKeeper$Machine", name := "spend", desc := "(LCoinKeeper$Layout;IILCoinKeeper$Coin;)V" } : Jvm.MethodName) (.code ({ cls := "CoinKeeper$Machine", name := "spend", desc := "(LCoinKeeper$Layout;IILCoinKeeper$Coin;)V" } : Jvm.MethodName) b_Ma_spend 5 none :: gw) rm_Ma_spend_z1z4 (va_Pc [.ref o, .null, .int a2, .int a3, .null] (Pr D cy ad [(o, .inr (6, [v_o_sha, r_signatures, v_o_ripemd, v_a_data, v_a_scriptEnd, v_a_main, v_a_other, v_a_taken, .int u0, .int i_otherHeight, .int i_ops, .int i_ifs, .int i_ifsNotTaken, .int u1, r_layout, .int u2, .int u3, r_coin, .int u4]))] sz)) (q_Ma_spend_z1z4 D cy (va_A [(o, .inr (6, [v_o_sha, r_signatures, v_o_ripemd, v_a_data, v_a_scriptEnd, v_a_main, v_a_other, v_a_taken, .int u0, .int i_otherHeight, .int i_ops, .int i_ifs, .int i_ifsNotTaken, .int u1, r_layout, .int u2, .int u3, r_coin, .int u4]))] sz) o v_o_sha r_signatures v_o_ripemd v_a_data v_a_scriptEnd v_a_main v_a_other v_a_taken r_layout r_coin i_otherHeight i_ops i_ifs i_ifsNotTaken res) 0 0 (va_A [(o, .inr (6, [v_o_sha, r_signatures, v_o_ripemd, v_a_data, v_a_scriptEnd, v_a_main, v_a_other, v_a_taken, .int u0, .int i_otherHeight, .int i_ops, .int i_ifs, .int i_ifsNotTaken, .int u1, r_layout, .int u2, .int u3, r_coin, .int u4]))] sz) :=
  q_met (Qc := fun A => q_Ma_spend_z1z4 D cy A o v_o_sha r_signatures v_o_ripemd v_a_data v_a_scriptEnd v_a_main v_a_other v_a_taken r_layout r_coin i_otherHeight i_ops i_ifs i_ifsNotTaken res) (by decide) rfl rfl (Nat.le_of_ble_eq_true rfl) (fun p e s m below meth c ls F hP hD hS hl => we_Ma_spend_z1z4 (fu := fu) F a2 a3 u0 u1 u2 u3 u4 res hf _ _ _ hP hD hS hl) sz
abbrev b_Ma_spendNothing : ByteArray := prog_7_method_3_code
theorem d_Ma_spendNothing_0 : decode b_Ma_spendNothing 0 = .ok (.aload_n 0, 1) := by decide +kernel
theorem d_Ma_spendNothing_1 : decode b_Ma_spendNothing 1 = .ok (.aconst_null, 1) := by decide +kernel
theorem d_Ma_spendNothing_2 : decode b_Ma_spendNothing 2 = .ok (.iconst 0, 1) := by decide +kernel
theorem d_Ma_spendNothing_3 : decode b_Ma_spendNothing 3 = .ok (.iconst 0, 1) := by decide +kernel
theorem d_Ma_spendNothing_4 : decode b_Ma_spendNothing 4 = .ok (.aconst_null, 1) := by decide +kernel
theorem d_Ma_spendNothing_5 : decode b_Ma_spendNothing 5 = .ok (.invokevirtual 50, 3) := by decide +kernel
theorem d_Ma_spendNothing_8 : decode b_Ma_spendNothing 8 = .ok (.return_, 1) := by decide +kernel
abbrev rm_Ma_spendNothing : Room := { frames := 1, cells := 0, slots := 0, locals := 24 }
abbrev q_Ma_spendNothing (D : va_G) (cy : Nat → ClassId) (A : Nat → Prop) (o : Nat) (v_o_sha : Value) (r_signatures : Value) (v_o_ripemd : Value) (v_a_data : Value) (v_a_scriptEnd : Value) (v_a_main : Value) (v_a_other : Value) (v_a_taken : Value) (r_layout : Value) (r_coin : Value) (i_otherHeight : Int32) (i_ops : Int32) (i_ifs : Int32) (i_ifsNotTaken : Int32) (res : Int32 × Int32 × Int32 × Int32 × Int32) : Array Value → State → Outcome → State → Prop := va_Qv (fun (_ : Unit) => True) (fun _ t => Po D cy A [(o, .inr (6, [v_o_sha, r_signatures, v_o_ripemd, v_a_data, v_a_scriptEnd, v_a_main, v_a_other, v_a_taken, .int res.1, .int i_otherHeight, .int i_ops, .int i_ifs, .int i_ifsNotTaken, .int res.2.1, .null, .int res.2.2.1, .int res.2.2.2.1, .null, .int res.2.2.2.2]))] t) A
def I_Ma_spendNothing_e (p : Program) (l : Launch) (e : Env) (s : State) (m : MethodId) (args : Array Value) (below : List Frame) (meth : Method) (c : Code) (D : va_G) (cy : Nat → ClassId) (A : Nat → Prop) (ad : Nat → Nat) (o : Nat) (v_o_sha : Value) (r_signatures : Value) (v_o_ripemd : Value) (v_a_data : Value) (v_a_scriptEnd : Value) (v_a_main : Value) (v_a_other : Value) (v_a_taken : Value) (r_layout : Value) (r_coin : Value) (i_otherHeight : Int32) (i_ops : Int32) (i_ifs : Int32) (i_ifsNotTaken : Int32) (k : Int32 → Int32 → Int32 → Int32 → Int32 → Option (Int32 × Int32 × Int32 × Int32 × Int32)) : Prop :=
  ∀ (u0 : Int32) (u1 : Int32) (u2 : Int32) (u3 : Int32) (u4 : Int32) (res : Int32 × Int32 × Int32 × Int32 × Int32), k u0 u1 u2 u3 u4 = some res → ∀ (H : Heap) (locs : List Loc) (ls : Array Slot), va_P D classes [(o, .inr (6, [v_o_sha, r_signatures, v_o_ripemd, v_a_data, v_a_scriptEnd, v_a_main, v_a_other, v_a_taken, .int u0, .int i_otherHeight, .int i_ops, .int i_ifs, .int i_ifsNotTaken, .int u1, r_layout, .int u2, .int u3, r_coin, .int u4]))] H → va_D A [(o, .inr (6, [v_o_sha, r_signatures, v_o_ripemd, v_a_data, v_a_scriptEnd, v_a_main, v_a_other, v_a_taken, .int u0, .int i_otherHeight, .int i_ops, .int i_ifs, .int i_ifsNotTaken, .int u1, r_layout, .int u2, .int u3, r_coin, .int u4]))] → va_S A s.heap H locs → lv_has ls 1 [(0, .ref o)] → W p l e rm_Ma_spendNothing s m args below meth c H locs 0 0 (MQ below (q_Ma_spendNothing D cy A o v_o_sha r_signatures v_o_ripemd v_a_data v_a_scriptEnd v_a_main v_a_other v_a_taken r_layout r_coin i_otherHeight i_ops i_ifs i_ifsNotTaken res) args s 0 0 A) (F0 m 0 ls [])
theorem hdf_55 : ({ cls := "CoinKeeper$Machine", name := "spend", desc := "(LCoinKeeper$Layout;IILCoinKeeper$Coin;)V" } : Jvm.MethodName).cls ≠ "java/lang/invoke/MethodHandle" ∧ ({ cls := "CoinKeeper$Machine", name := "spend", desc := "(LCoinKeeper$Layout;IILCoinKeeper$Coin;)V" } : Jvm.MethodName).cls ≠ "java/lang/invoke/VarHandle" ∧ (parseMethodDescriptor ({ cls := "CoinKeeper$Machine", name := "spend", desc := "(LCoinKeeper$Layout;IILCoinKeeper$Coin;)V" } : Jvm.MethodName).desc).map (fun d => d.parameters.length) = some 4 := by decide +kernel
def x_Ma_spendNothing (fu : Nat) (i_otherHeight : Int32) (i_ops : Int32) (i_ifs : Int32) (i_ifsNotTaken : Int32) (u0 : Int32) (u1 : Int32) (u2 : Int32) (u3 : Int32) (u4 : Int32) : Option (Int32 × Int32 × Int32 × Int32 × Int32) :=
  bd5 (x_Ma_spend_z1z4 fu i_otherHeight i_ops i_ifs i_ifsNotTaken (0 : Int32) (0 : Int32) u0 u1 u2 u3 u4) fun e1 e2 e3 e4 e5 => some (e1, e2, e3, e4, e5)
set_option maxHeartbeats 8000000 in
set_option maxRecDepth 100000 in
theorem we_Ma_spendNothing {p : Program} {l : Launch} {e : Env} {s : State} {m : MethodId} {args : Array Value} {below : List Frame} {meth : Method} {c : Code} {D : va_G} {cy : Nat → ClassId} {A : Nat → Prop} {ad : Nat → Nat} {o : Nat} {v_o_sha : Value} {r_signatures : Value} {v_o_ripemd : Value} {v_a_data : Value} {v_a_scriptEnd : Value} {v_a_main : Value} {v_a_other : Value} {v_a_taken : Value} {r_layout : Value} {r_coin : Value} {i_otherHeight : Int32} {i_ops : Int32} {i_ifs : Int32} {i_ifsNotTaken : Int32} {fu : Nat} (F : Fx p s m args meth c b_Ma_spendNothing 1 "CoinKeeper$Machine" "spendNothing" none D cy ad A) : I_Ma_spendNothing_e p l e s m args below meth c D cy A ad o v_o_sha r_signatures v_o_ripemd v_a_data v_a_scriptEnd v_a_main v_a_other v_a_taken r_layout r_coin i_otherHeight i_ops i_ifs i_ifsNotTaken (x_Ma_spendNothing fu i_otherHeight i_ops i_ifs i_ifsNotTaken) := by
  obtain ⟨hx, hb, hr, hml, hown, hts, hlocks, hK, hA, hSt, hnm, hex⟩ := id F
  intro u0 u1 u2 u3 u4 res hf H locs ls hP hD hS hl
  unfold x_Ma_spendNothing at hf
  refine lv_aload_n hx hb d_Ma_spendNothing_0 rfl (lv_at hl 0 rfl) ?_
  refine lv_null hx hb d_Ma_spendNothing_1 ?_
  refine lv_iconst (v := 0) hx hb d_Ma_spendNothing_2 (by decide) ?_
  refine lv_iconst (v := 0) hx hb d_Ma_spendNothing_3 (by decide) ?_
  refine lv_null hx hb d_Ma_spendNothing_4 ?_
  obtain ⟨e1, e2, e3, e4, e5, hc, hf⟩ := bdp5 hf
  refine q_av (wr := []) (va_runV (C := "CoinKeeper$Machine") (As := [.null, .int (0 : Int32), .int (0 : Int32), .null]) (rest := []) ⟨hx, hb, hml, hown, hts⟩ (c_Ma_spend_z1z4 l D cy ad fu o v_o_sha r_signatures v_o_ripemd v_a_data v_a_scriptEnd v_a_main v_a_other v_a_taken r_layout r_coin i_otherHeight i_ops i_ifs i_ifsNotTaken (0 : Int32) (0 : Int32) u0 u1 u2 u3 u4 _ hc H.size) ⟨q_cB hts gw_980 gw_6 gw_1291 hdf_55 ⟨by decide, by decide⟩, hts _ gw_978, hts _ gw_979⟩ (q_preV (q_pre (hP.sub [0] rfl) (hD.sub [0] (by decide) rfl) hK hSt hS (va_free hD hS hA [0] rfl) _) (va_recv hK (hP.sub [0] rfl) (ci := 6) (q0 := 0) rfl rfl)) rfl rfl hl.1 rfl (lv_room (Nat.le_of_ble_eq_true rfl)) d_Ma_spendNothing_5 ⟨Nat.le_of_ble_eq_true rfl, Nat.le_of_ble_eq_true rfl⟩) hP hD hS hA [0] [] rfl rfl (by decide) (by decide) (fun H locs hP hD hS => ?_)
  clear hc
  have hP : va_P D classes [(o, .inr (6, [v_o_sha, r_signatures, v_o_ripemd, v_a_data, v_a_scriptEnd, v_a_main, v_a_other, v_a_taken, .int e1, .int i_otherHeight, .int i_ops, .int i_ifs, .int i_ifsNotTaken, .int e2, .null, .int e3, .int e4, .null, .int e5]))] H := hP
  have hD : va_D A [(o, .inr (6, [v_o_sha, r_signatures, v_o_ripemd, v_a_data, v_a_scriptEnd, v_a_main, v_a_other, v_a_taken, .int e1, .int i_otherHeight, .int i_ops, .int i_ifs, .int i_ifsNotTaken, .int e2, .null, .int e3, .int e4, .null, .int e5]))] := hD
  obtain rfl := Option.some.inj hf
  exact q_rv hx hb hr hlocks hK hP hD hS d_Ma_spendNothing_8
theorem c_Ma_spendNothing (l : Launch) (D : va_G) (cy : Nat → ClassId) (ad : Nat → Nat) (fu : Nat) (o : Nat) (v_o_sha : Value) (r_signatures : Value) (v_o_ripemd : Value) (v_a_data : Value) (v_a_scriptEnd : Value) (v_a_main : Value) (v_a_other : Value) (v_a_taken : Value) (r_layout : Value) (r_coin : Value) (i_otherHeight : Int32) (i_ops : Int32) (i_ifs : Int32) (i_ifsNotTaken : Int32) (u0 : Int32) (u1 : Int32) (u2 : Int32) (u3 : Int32) (u4 : Int32) (res : Int32 × Int32 × Int32 × Int32 × Int32) (hf : x_Ma_spendNothing fu i_otherHeight i_ops i_ifs i_ifsNotTaken u0 u1 u2 u3 u4 = some res) (sz : Nat) : Met l ({ cls := "CoinKeeper$Machine", name := "spendNothing", desc := "()V" } : Jvm.MethodName) (.code ({ cls := "CoinKeeper$Machine", name := "spendNothing", desc := "()V" } : Jvm.MethodName) b_Ma_spendNothing 1 none :: gw) rm_Ma_spendNothing (va_Pc [.ref o] (Pr D cy ad [(o, .inr (6, [v_o_sha, r_signatures, v_o_ripemd, v_a_data, v_a_scriptEnd, v_a_main, v_a_other, v_a_taken, .int u0, .int i_otherHeight, .int i_ops, .int i_ifs, .int i_ifsNotTaken, .int u1, r_layout, .int u2, .int u3, r_coin, .int u4]))] sz)) (q_Ma_spendNothing D cy (va_A [(o, .inr (6, [v_o_sha, r_signatures, v_o_ripemd, v_a_data, v_a_scriptEnd, v_a_main, v_a_other, v_a_taken, .int u0, .int i_otherHeight, .int i_ops, .int i_ifs, .int i_ifsNotTaken, .int u1, r_layout, .int u2, .int u3, r_coin, .int u4]))] sz) o v_o_sha r_signatures v_o_ripemd v_a_data v_a_scriptEnd v_a_main v_a_other v_a_taken r_layout r_coin i_otherHeight i_ops i_ifs i_ifsNotTaken res) 0 0 (va_A [(o, .inr (6, [v_o_sha, r_signatures, v_o_ripemd, v_a_data, v_a_scriptEnd, v_a_main, v_a_other, v_a_taken, .int u0, .int i_otherHeight, .int i_ops, .int i_ifs, .int i_ifsNotTaken, .int u1, r_layout, .int u2, .int u3, r_coin, .int u4]))] sz) :=
  q_met (Qc := fun A => q_Ma_spendNothing D cy A o v_o_sha r_signatures v_o_ripemd v_a_data v_a_scriptEnd v_a_main v_a_other v_a_taken r_layout r_coin i_otherHeight i_ops i_ifs i_ifsNotTaken res) (by decide) rfl rfl (Nat.le_of_ble_eq_true rfl) (fun p e s m below meth c ls F hP hD hS hl => we_Ma_spendNothing (fu := fu) F u0 u1 u2 u3 u4 res hf _ _ _ hP hD hS hl) sz
