abbrev b_K_word : ByteArray := prog_1_method_24_code
theorem d_K_word_0 : decode b_K_word 0 = .ok (.aload_n 0, 1) := by decide +kernel
theorem d_K_word_1 : decode b_K_word 1 = .ok (.iload_n 1, 1) := by decide +kernel
theorem d_K_word_2 : decode b_K_word 2 = .ok (.baload, 1) := by decide +kernel
theorem d_K_word_3 : decode b_K_word 3 = .ok (.sipush 255, 3) := by decide +kernel
theorem d_K_word_6 : decode b_K_word 6 = .ok (.iand, 1) := by decide +kernel
theorem d_K_word_7 : decode b_K_word 7 = .ok (.aload_n 0, 1) := by decide +kernel
theorem d_K_word_8 : decode b_K_word 8 = .ok (.iload_n 1, 1) := by decide +kernel
theorem d_K_word_9 : decode b_K_word 9 = .ok (.iconst 1, 1) := by decide +kernel
theorem d_K_word_10 : decode b_K_word 10 = .ok (.iadd, 1) := by decide +kernel
theorem d_K_word_11 : decode b_K_word 11 = .ok (.baload, 1) := by decide +kernel
theorem d_K_word_12 : decode b_K_word 12 = .ok (.sipush 255, 3) := by decide +kernel
theorem d_K_word_15 : decode b_K_word 15 = .ok (.iand, 1) := by decide +kernel
theorem d_K_word_16 : decode b_K_word 16 = .ok (.bipush 8, 2) := by decide +kernel
theorem d_K_word_18 : decode b_K_word 18 = .ok (.ishl, 1) := by decide +kernel
theorem d_K_word_19 : decode b_K_word 19 = .ok (.ior, 1) := by decide +kernel
theorem d_K_word_20 : decode b_K_word 20 = .ok (.aload_n 0, 1) := by decide +kernel
theorem d_K_word_21 : decode b_K_word 21 = .ok (.iload_n 1, 1) := by decide +kernel
theorem d_K_word_22 : decode b_K_word 22 = .ok (.iconst 2, 1) := by decide +kernel
theorem d_K_word_23 : decode b_K_word 23 = .ok (.iadd, 1) := by decide +kernel
theorem d_K_word_24 : decode b_K_word 24 = .ok (.baload, 1) := by decide +kernel
theorem d_K_word_25 : decode b_K_word 25 = .ok (.sipush 255, 3) := by decide +kernel
theorem d_K_word_28 : decode b_K_word 28 = .ok (.iand, 1) := by decide +kernel
theorem d_K_word_29 : decode b_K_word 29 = .ok (.bipush 16, 2) := by decide +kernel
theorem d_K_word_31 : decode b_K_word 31 = .ok (.ishl, 1) := by decide +kernel
theorem d_K_word_32 : decode b_K_word 32 = .ok (.ior, 1) := by decide +kernel
theorem d_K_word_33 : decode b_K_word 33 = .ok (.aload_n 0, 1) := by decide +kernel
theorem d_K_word_34 : decode b_K_word 34 = .ok (.iload_n 1, 1) := by decide +kernel
theorem d_K_word_35 : decode b_K_word 35 = .ok (.iconst 3, 1) := by decide +kernel
theorem d_K_word_36 : decode b_K_word 36 = .ok (.iadd, 1) := by decide +kernel
theorem d_K_word_37 : decode b_K_word 37 = .ok (.baload, 1) := by decide +kernel
theorem d_K_word_38 : decode b_K_word 38 = .ok (.bipush 24, 2) := by decide +kernel
theorem d_K_word_40 : decode b_K_word 40 = .ok (.ishl, 1) := by decide +kernel
theorem d_K_word_41 : decode b_K_word 41 = .ok (.ior, 1) := by decide +kernel
theorem d_K_word_42 : decode b_K_word 42 = .ok (.ireturn, 1) := by decide +kernel
abbrev rm_K_word : Room := { frames := 0, cells := 0, slots := 0, locals := 0 }
abbrev q_K_word (D : va_G) (cy : Nat → ClassId) (A : Nat → Prop) (b0 : Nat) (n0 : Nat) (h0 : Nat → Int32) (res : Int32) : Array Value → State → Outcome → State → Prop := va_Qi (fun r' (_ : Unit) => r' = res) (fun _ t => Po D cy A [(b0, .inl (cy 0, n0, .inl h0))] t) A
def I_K_word_e (p : Program) (l : Launch) (e : Env) (s : State) (m : MethodId) (args : Array Value) (below : List Frame) (meth : Method) (c : Code) (D : va_G) (cy : Nat → ClassId) (A : Nat → Prop) (ad : Nat → Nat) (b0 : Nat) (n0 : Nat) (h0 : Nat → Int32) (k : Int32 → Option (Int32)) : Prop :=
  ∀ (a1 : Int32) (res : Int32), k a1 = some res → ∀ (H : Heap) (locs : List Loc) (ls : Array Slot), va_P D classes [(b0, .inl (cy 0, n0, .inl h0))] H → va_D A [(b0, .inl (cy 0, n0, .inl h0))] → va_S A s.heap H locs → lv_has ls 2 [(0, .ref b0), (1, .int a1)] → W p l e rm_K_word s m args below meth c H locs 0 0 (MQ below (q_K_word D cy A b0 n0 h0 res) args s 0 0 A) (F0 m 0 ls [])
set_option maxHeartbeats 8000000 in
set_option maxRecDepth 100000 in
theorem we_K_word {p : Program} {l : Launch} {e : Env} {s : State} {m : MethodId} {args : Array Value} {below : List Frame} {meth : Method} {c : Code} {D : va_G} {cy : Nat → ClassId} {A : Nat → Prop} {ad : Nat → Nat} {b0 : Nat} {n0 : Nat} {h0 : Nat → Int32} {fu : Nat} (F : Fx p s m args meth c b_K_word 2 "CoinKeeper" "word" (some .int) D cy ad A) : I_K_word_e p l e s m args below meth c D cy A ad b0 n0 h0 (x_K_word fu n0 h0) := by
  obtain ⟨hx, hb, hr, hml, hown, hts, hlocks, hK, hA, hSt, hnm, hex⟩ := id F
  intro a1 res hf H locs ls hP hD hS hl
  unfold x_K_word at hf
  refine lv_aload_n hx hb d_K_word_0 rfl (lv_at hl 0 rfl) ?_
  refine lv_iload_n hx hb d_K_word_1 rfl (lv_at hl 1 rfl) ?_
  obtain ⟨hg, hf⟩ := gdp hf
  refine va_bald hx hb hK hP 0 0 rfl rfl (inb_in hg) d_K_word_2 ?_
  refine lv_topi (fun v1 ev => ?_)
  have hf := bn ev hf
  clear ev
  refine lv_sipush (v := 255) hx hb d_K_word_3 (by decide) ?_
  refine lv_iand hx hb d_K_word_6 ?_
  refine lv_topi (fun v2 ev => ?_)
  have hf := bn ev hf
  clear ev
  refine lv_aload_n hx hb d_K_word_7 rfl (lv_at hl 0 rfl) ?_
  refine lv_iload_n hx hb d_K_word_8 rfl (lv_at hl 1 rfl) ?_
  refine lv_iconst (v := 1) hx hb d_K_word_9 (by decide) ?_
  refine lv_iadd hx hb d_K_word_10 ?_
  refine lv_topi (fun v3 ev => ?_)
  have hf := bn ev hf
  clear ev
  obtain ⟨hg, hf⟩ := gdp hf
  refine va_bald hx hb hK hP 0 0 rfl rfl (inb_in hg) d_K_word_11 ?_
  refine lv_topi (fun v4 ev => ?_)
  have hf := bn ev hf
  clear ev
  refine lv_sipush (v := 255) hx hb d_K_word_12 (by decide) ?_
  refine lv_iand hx hb d_K_word_15 ?_
  refine lv_topi (fun v5 ev => ?_)
  have hf := bn ev hf
  clear ev
  refine lv_bipush (v := 8) hx hb d_K_word_16 (by decide) ?_
  refine lv_ishl hx hb d_K_word_18 ?_
  refine lv_ior hx hb d_K_word_19 ?_
  refine lv_topi (fun v6 ev => ?_)
  have hf := bn ev hf
  clear ev
  refine lv_aload_n hx hb d_K_word_20 rfl (lv_at hl 0 rfl) ?_
  refine lv_iload_n hx hb d_K_word_21 rfl (lv_at hl 1 rfl) ?_
  refine lv_iconst (v := 2) hx hb d_K_word_22 (by decide) ?_
  refine lv_iadd hx hb d_K_word_23 ?_
  refine lv_topi (fun v7 ev => ?_)
  have hf := bn ev hf
  clear ev
  obtain ⟨hg, hf⟩ := gdp hf
  refine va_bald hx hb hK hP 0 0 rfl rfl (inb_in hg) d_K_word_24 ?_
  refine lv_topi (fun v8 ev => ?_)
  have hf := bn ev hf
  clear ev
  refine lv_sipush (v := 255) hx hb d_K_word_25 (by decide) ?_
  refine lv_iand hx hb d_K_word_28 ?_
  refine lv_topi (fun v9 ev => ?_)
  have hf := bn ev hf
  clear ev
  refine lv_bipush (v := 16) hx hb d_K_word_29 (by decide) ?_
  refine lv_ishl hx hb d_K_word_31 ?_
  refine lv_ior hx hb d_K_word_32 ?_
  refine lv_topi (fun v10 ev => ?_)
  have hf := bn ev hf
  clear ev
  refine lv_aload_n hx hb d_K_word_33 rfl (lv_at hl 0 rfl) ?_
  refine lv_iload_n hx hb d_K_word_34 rfl (lv_at hl 1 rfl) ?_
  refine lv_iconst (v := 3) hx hb d_K_word_35 (by decide) ?_
  refine lv_iadd hx hb d_K_word_36 ?_
  refine lv_topi (fun v11 ev => ?_)
  have hf := bn ev hf
  clear ev
  obtain ⟨hg, hf⟩ := gdp hf
  refine va_bald hx hb hK hP 0 0 rfl rfl (inb_in hg) d_K_word_37 ?_
  refine lv_topi (fun v12 ev => ?_)
  have hf := bn ev hf
  clear ev
  refine lv_bipush (v := 24) hx hb d_K_word_38 (by decide) ?_
  refine lv_ishl hx hb d_K_word_40 ?_
  refine lv_ior hx hb d_K_word_41 ?_
  refine lv_topi (fun v13 ev => ?_)
  have hf := bn ev hf
  clear ev
  obtain rfl := Option.some.inj hf
  exact q_ri hx hb hr hlocks hK hP hD hS d_K_word_42
theorem c_K_word (l : Launch) (D : va_G) (cy : Nat → ClassId) (ad : Nat → Nat) (fu : Nat) (b0 : Nat) (n0 : Nat) (h0 : Nat → Int32) (a1 : Int32) (res : Int32) (hf : x_K_word fu n0 h0 a1 = some res) (sz : Nat) : Met l ({ cls := "CoinKeeper", name := "word", desc := "([BI)I" } : Jvm.MethodName) (.code ({ cls := "CoinKeeper", name := "word", desc := "([BI)I" } : Jvm.MethodName) b_K_word 2 (some .int) :: gw) rm_K_word (va_Pc [.ref b0, .int a1] (Pr D cy ad [(b0, .inl (cy 0, n0, .inl h0))] sz)) (q_K_word D cy (va_A [(b0, .inl (cy 0, n0, .inl h0))] sz) b0 n0 h0 res) 0 0 (va_A [(b0, .inl (cy 0, n0, .inl h0))] sz) :=
  q_met (Qc := fun A => q_K_word D cy A b0 n0 h0 res) (by decide) rfl rfl (Nat.le_of_ble_eq_true rfl) (fun p e s m below meth c ls F hP hD hS hl => we_K_word (fu := fu) F a1 res hf _ _ _ hP hD hS hl) sz
abbrev b_K_same : ByteArray := prog_1_method_25_code
theorem d_K_same_0 : decode b_K_same 0 = .ok (.iconst 0, 1) := by decide +kernel
theorem d_K_same_1 : decode b_K_same 1 = .ok (.istore 5, 2) := by decide +kernel
theorem d_K_same_3 : decode b_K_same 3 = .ok (.iload 5, 2) := by decide +kernel
theorem d_K_same_5 : decode b_K_same 5 = .ok (.iload 4, 2) := by decide +kernel
theorem d_K_same_7 : decode b_K_same 7 = .ok (.if_icmp .ge 26, 3) := by decide +kernel
theorem d_K_same_10 : decode b_K_same 10 = .ok (.aload_n 0, 1) := by decide +kernel
theorem d_K_same_11 : decode b_K_same 11 = .ok (.iload_n 1, 1) := by decide +kernel
theorem d_K_same_12 : decode b_K_same 12 = .ok (.iload 5, 2) := by decide +kernel
theorem d_K_same_14 : decode b_K_same 14 = .ok (.iadd, 1) := by decide +kernel
theorem d_K_same_15 : decode b_K_same 15 = .ok (.baload, 1) := by decide +kernel
theorem d_K_same_16 : decode b_K_same 16 = .ok (.aload_n 2, 1) := by decide +kernel
theorem d_K_same_17 : decode b_K_same 17 = .ok (.iload_n 3, 1) := by decide +kernel
theorem d_K_same_18 : decode b_K_same 18 = .ok (.iload 5, 2) := by decide +kernel
theorem d_K_same_20 : decode b_K_same 20 = .ok (.iadd, 1) := by decide +kernel
theorem d_K_same_21 : decode b_K_same 21 = .ok (.baload, 1) := by decide +kernel
theorem d_K_same_22 : decode b_K_same 22 = .ok (.if_icmp .eq 5, 3) := by decide +kernel
theorem d_K_same_25 : decode b_K_same 25 = .ok (.iconst 0, 1) := by decide +kernel
theorem d_K_same_26 : decode b_K_same 26 = .ok (.ireturn, 1) := by decide +kernel
theorem d_K_same_27 : decode b_K_same 27 = .ok (.iinc 5 1, 3) := by decide +kernel
theorem d_K_same_30 : decode b_K_same 30 = .ok (.goto (-27), 3) := by decide +kernel
theorem d_K_same_33 : decode b_K_same 33 = .ok (.iconst 1, 1) := by decide +kernel
theorem d_K_same_34 : decode b_K_same 34 = .ok (.ireturn, 1) := by decide +kernel
abbrev rm_K_same : Room := { frames := 0, cells := 0, slots := 0, locals := 0 }
abbrev q_K_same (D : va_G) (cy : Nat → ClassId) (A : Nat → Prop) (b0 : Nat) (b2 : Nat) (n0 : Nat) (h0 : Nat → Int32) (n2 : Nat) (h2 : Nat → Int32) (res : Int32) : Array Value → State → Outcome → State → Prop := va_Qi (fun r' (_ : Unit) => r' = res) (fun _ t => Po D cy A [(b0, .inl (cy 0, n0, .inl h0)), (b2, .inl (cy 0, n2, .inl h2))] t) A
def I_K_same_3 (p : Program) (l : Launch) (e : Env) (s : State) (m : MethodId) (args : Array Value) (below : List Frame) (meth : Method) (c : Code) (D : va_G) (cy : Nat → ClassId) (A : Nat → Prop) (ad : Nat → Nat) (b0 : Nat) (b2 : Nat) (n0 : Nat) (h0 : Nat → Int32) (n2 : Nat) (h2 : Nat → Int32) (k : Int32 → Int32 → Int32 → Int32 → Option (Int32)) : Prop :=
  ∀ (x1 : Int32) (x3 : Int32) (x4 : Int32) (x5 : Int32) (res : Int32), k x1 x3 x4 x5 = some res → ∀ (H : Heap) (locs : List Loc) (ls : Array Slot), va_P D classes [(b0, .inl (cy 0, n0, .inl h0)), (b2, .inl (cy 0, n2, .inl h2))] H → va_D A [(b0, .inl (cy 0, n0, .inl h0)), (b2, .inl (cy 0, n2, .inl h2))] → va_S A s.heap H locs → lv_has ls 6 [(0, .ref b0), (1, .int x1), (2, .ref b2), (3, .int x3), (4, .int x4), (5, .int x5)] → W p l e rm_K_same s m args below meth c H locs 0 0 (MQ below (q_K_same D cy A b0 b2 n0 h0 n2 h2 res) args s 0 0 A) (F0 m 3 ls [])
def I_K_same_e (p : Program) (l : Launch) (e : Env) (s : State) (m : MethodId) (args : Array Value) (below : List Frame) (meth : Method) (c : Code) (D : va_G) (cy : Nat → ClassId) (A : Nat → Prop) (ad : Nat → Nat) (b0 : Nat) (b2 : Nat) (n0 : Nat) (h0 : Nat → Int32) (n2 : Nat) (h2 : Nat → Int32) (k : Int32 → Int32 → Int32 → Option (Int32)) : Prop :=
  ∀ (a1 : Int32) (a3 : Int32) (a4 : Int32) (res : Int32), k a1 a3 a4 = some res → ∀ (H : Heap) (locs : List Loc) (ls : Array Slot), va_P D classes [(b0, .inl (cy 0, n0, .inl h0)), (b2, .inl (cy 0, n2, .inl h2))] H → va_D A [(b0, .inl (cy 0, n0, .inl h0)), (b2, .inl (cy 0, n2, .inl h2))] → va_S A s.heap H locs → lv_has ls 6 [(0, .ref b0), (1, .int a1), (2, .ref b2), (3, .int a3), (4, .int a4)] → W p l e rm_K_same s m args below meth c H locs 0 0 (MQ below (q_K_same D cy A b0 b2 n0 h0 n2 h2 res) args s 0 0 A) (F0 m 0 ls [])
set_option maxHeartbeats 8000000 in
set_option maxRecDepth 100000 in
theorem wb_K_same_3 {p : Program} {l : Launch} {e : Env} {s : State} {m : MethodId} {args : Array Value} {below : List Frame} {meth : Method} {c : Code} {D : va_G} {cy : Nat → ClassId} {A : Nat → Prop} {ad : Nat → Nat} {b0 : Nat} {b2 : Nat} {n0 : Nat} {h0 : Nat → Int32} {n2 : Nat} {h2 : Nat → Int32} {fu : Nat} {k_3 : Int32 → Int32 → Int32 → Int32 → Option (Int32)} (F : Fx p s m args meth c b_K_same 6 "CoinKeeper" "same" (some .boolean) D cy ad A) (hk_3 : I_K_same_3 p l e s m args below meth c D cy A ad b0 b2 n0 h0 n2 h2 k_3) : I_K_same_3 p l e s m args below meth c D cy A ad b0 b2 n0 h0 n2 h2 (xb_K_same_3 fu n0 h0 n2 h2 k_3) := by
  obtain ⟨hx, hb, hr, hml, hown, hts, hlocks, hK, hA, hSt, hnm, hex⟩ := id F
  intro x1 x3 x4 x5 res hf H locs ls hP hD hS hl
  unfold xb_K_same_3 at hf
  refine lv_iload hx hb d_K_same_3 (lv_at hl 5 rfl) ?_
  refine lv_iload hx hb d_K_same_5 (lv_at hl 4 rfl) ?_
  refine lv_icmp_ge (tgt := 33) hx hb d_K_same_7 (by decide) (fun cx => ?_) (fun cx => ?_)
  · have hf := ifp cx hf
    refine lv_iconst (v := 1) hx hb d_K_same_33 (by decide) ?_
    obtain rfl := Option.some.inj hf
    exact q_rz hx hb hr hlocks hK hP hD hS (isb_n (v := 1) (by decide)) d_K_same_34
  · have hf := ifn cx hf
    refine lv_aload_n hx hb d_K_same_10 rfl (lv_at hl 0 rfl) ?_
    refine lv_iload_n hx hb d_K_same_11 rfl (lv_at hl 1 rfl) ?_
    refine lv_iload hx hb d_K_same_12 (lv_at hl 5 rfl) ?_
    refine lv_iadd hx hb d_K_same_14 ?_
    refine lv_topi (fun v1 ev => ?_)
    have hf := bn ev hf
    clear ev
    obtain ⟨hg, hf⟩ := gdp hf
    refine va_bald hx hb hK hP 0 0 rfl rfl (inb_in hg) d_K_same_15 ?_
    refine lv_topi (fun v2 ev => ?_)
    have hf := bn ev hf
    clear ev
    refine lv_aload_n hx hb d_K_same_16 rfl (lv_at hl 2 rfl) ?_
    refine lv_iload_n hx hb d_K_same_17 rfl (lv_at hl 3 rfl) ?_
    refine lv_iload hx hb d_K_same_18 (lv_at hl 5 rfl) ?_
    refine lv_iadd hx hb d_K_same_20 ?_
    refine lv_topi (fun v3 ev => ?_)
    have hf := bn ev hf
    clear ev
    obtain ⟨hg, hf⟩ := gdp hf
    refine va_bald hx hb hK hP 1 0 rfl rfl (inb_in hg) d_K_same_21 ?_
    refine lv_topi (fun v4 ev => ?_)
    have hf := bn ev hf
    clear ev
    refine lv_icmp_eq (tgt := 27) hx hb d_K_same_22 (by decide) (fun cx => ?_) (fun cx => ?_)
    · have hf := ifp cx hf
      obtain ⟨v5, ev, hf⟩ := bne hf
      refine lv_iinc (v := v5) (lv' := [(5, .int v5), (0, .ref b0), (1, .int x1), (2, .ref b2), (3, .int x3), (4, .int x4)]) hx hb d_K_same_27 hl (k := 5) rfl (by rw [ev]; rfl) (by decide) rfl (fun ls hl => ?_)
      clear ev
      refine lv_goto (tgt := 3) hx hb d_K_same_30 (by decide) ?_
      exact hk_3 _ _ _ _ _ hf _ _ _ hP hD hS (lv_sub hl [1, 2, 3, 4, 5, 0] rfl)
    · have hf := ifn cx hf
      refine lv_iconst (v := 0) hx hb d_K_same_25 (by decide) ?_
      obtain rfl := Option.some.inj hf
      exact q_rz hx hb hr hlocks hK hP hD hS (isb_n (v := 0) (by decide)) d_K_same_26
theorem w_K_same_3 {p : Program} {l : Launch} {e : Env} {s : State} {m : MethodId} {args : Array Value} {below : List Frame} {meth : Method} {c : Code} {D : va_G} {cy : Nat → ClassId} {A : Nat → Prop} {ad : Nat → Nat} {b0 : Nat} {b2 : Nat} {n0 : Nat} {h0 : Nat → Int32} {n2 : Nat} {h2 : Nat → Int32} {fu : Nat} (F : Fx p s m args meth c b_K_same 6 "CoinKeeper" "same" (some .boolean) D cy ad A) : ∀ n : Nat, I_K_same_3 p l e s m args below meth c D cy A ad b0 b2 n0 h0 n2 h2 (x_K_same_3 fu n0 h0 n2 h2 n)
  | 0 => fun _ _ _ _ _ hf => nomatch (show (none : Option (Int32)) = some _ from hf)
  | n + 1 => wb_K_same_3 F (w_K_same_3 F n)
set_option maxHeartbeats 8000000 in
set_option maxRecDepth 100000 in
theorem we_K_same {p : Program} {l : Launch} {e : Env} {s : State} {m : MethodId} {args : Array Value} {below : List Frame} {meth : Method} {c : Code} {D : va_G} {cy : Nat → ClassId} {A : Nat → Prop} {ad : Nat → Nat} {b0 : Nat} {b2 : Nat} {n0 : Nat} {h0 : Nat → Int32} {n2 : Nat} {h2 : Nat → Int32} {fu : Nat} (F : Fx p s m args meth c b_K_same 6 "CoinKeeper" "same" (some .boolean) D cy ad A) : I_K_same_e p l e s m args below meth c D cy A ad b0 b2 n0 h0 n2 h2 (x_K_same fu n0 h0 n2 h2) := by
  obtain ⟨hx, hb, hr, hml, hown, hts, hlocks, hK, hA, hSt, hnm, hex⟩ := id F
  intro a1 a3 a4 res hf H locs ls hP hD hS hl
  unfold x_K_same at hf
  refine lv_iconst (v := 0) hx hb d_K_same_0 (by decide) ?_
  refine lv_istore (lv' := [(5, .int (0 : Int32)), (0, .ref b0), (1, .int a1), (2, .ref b2), (3, .int a3), (4, .int a4)]) hx hb d_K_same_1 hl (by decide) rfl (fun ls hl => ?_)
  exact w_K_same_3 F fu _ _ _ _ _ hf _ _ _ hP hD hS (lv_sub hl [1, 2, 3, 4, 5, 0] rfl)
theorem c_K_same (l : Launch) (D : va_G) (cy : Nat → ClassId) (ad : Nat → Nat) (fu : Nat) (b0 : Nat) (b2 : Nat) (n0 : Nat) (h0 : Nat → Int32) (n2 : Nat) (h2 : Nat → Int32) (a1 : Int32) (a3 : Int32) (a4 : Int32) (res : Int32) (hf : x_K_same fu n0 h0 n2 h2 a1 a3 a4 = some res) (sz : Nat) : Met l ({ cls := "CoinKeeper", name := "same", desc := "([BI[BII)Z" } : Jvm.MethodName) (.code ({ cls := "CoinKeeper", name := "same", desc := "([BI[BII)Z" } : Jvm.MethodName) b_K_same 6 (some .boolean) :: gw) rm_K_same (va_Pc [.ref b0, .int a1, .ref b2, .int a3, .int a4] (Pr D cy ad [(b0, .inl (cy 0, n0, .inl h0)), (b2, .inl (cy 0, n2, .inl h2))] sz)) (q_K_same D cy (va_A [(b0, .inl (cy 0, n0, .inl h0)), (b2, .inl (cy 0, n2, .inl h2))] sz) b0 b2 n0 h0 n2 h2 res) 0 0 (va_A [(b0, .inl (cy 0, n0, .inl h0)), (b2, .inl (cy 0, n2, .inl h2))] sz) :=
  q_met (Qc := fun A => q_K_same D cy A b0 b2 n0 h0 n2 h2 res) (by decide) rfl rfl (Nat.le_of_ble_eq_true rfl) (fun p e s m below meth c ls F hP hD hS hl => we_K_same (fu := fu) F a1 a3 a4 res hf _ _ _ hP hD hS hl) sz
abbrev rm_K_same_e20 : Room := { frames := 0, cells := 0, slots := 0, locals := 0 }
abbrev q_K_same_e20 (D : va_G) (cy : Nat → ClassId) (A : Nat → Prop) (b0 : Nat) (n0 : Nat) (h0 : Nat → Int32) (res : Int32) : Array Value → State → Outcome → State → Prop := va_Qi (fun r' (_ : Unit) => r' = res) (fun _ t => Po D cy A [(b0, .inl (cy 0, n0, .inl h0))] t) A
def I_K_same_e20_3 (p : Program) (l : Launch) (e : Env) (s : State) (m : MethodId) (args : Array Value) (below : List Frame) (meth : Method) (c : Code) (D : va_G) (cy : Nat → ClassId) (A : Nat → Prop) (ad : Nat → Nat) (b0 : Nat) (n0 : Nat) (h0 : Nat → Int32) (k : Int32 → Int32 → Int32 → Int32 → Option (Int32)) : Prop :=
  ∀ (x1 : Int32) (x3 : Int32) (x4 : Int32) (x5 : Int32) (res : Int32), k x1 x3 x4 x5 = some res → ∀ (H : Heap) (locs : List Loc) (ls : Array Slot), va_P D classes [(b0, .inl (cy 0, n0, .inl h0))] H → va_D A [(b0, .inl (cy 0, n0, .inl h0))] → va_S A s.heap H locs → lv_has ls 6 [(0, .ref b0), (1, .int x1), (2, .ref b0), (3, .int x3), (4, .int x4), (5, .int x5)] → W p l e rm_K_same_e20 s m args below meth c H locs 0 0 (MQ below (q_K_same_e20 D cy A b0 n0 h0 res) args s 0 0 A) (F0 m 3 ls [])
def I_K_same_e20_e (p : Program) (l : Launch) (e : Env) (s : State) (m : MethodId) (args : Array Value) (below : List Frame) (meth : Method) (c : Code) (D : va_G) (cy : Nat → ClassId) (A : Nat → Prop) (ad : Nat → Nat) (b0 : Nat) (n0 : Nat) (h0 : Nat → Int32) (k : Int32 → Int32 → Int32 → Option (Int32)) : Prop :=
  ∀ (a1 : Int32) (a3 : Int32) (a4 : Int32) (res : Int32), k a1 a3 a4 = some res → ∀ (H : Heap) (locs : List Loc) (ls : Array Slot), va_P D classes [(b0, .inl (cy 0, n0, .inl h0))] H → va_D A [(b0, .inl (cy 0, n0, .inl h0))] → va_S A s.heap H locs → lv_has ls 6 [(0, .ref b0), (1, .int a1), (2, .ref b0), (3, .int a3), (4, .int a4)] → W p l e rm_K_same_e20 s m args below meth c H locs 0 0 (MQ below (q_K_same_e20 D cy A b0 n0 h0 res) args s 0 0 A) (F0 m 0 ls [])
set_option maxHeartbeats 8000000 in
set_option maxRecDepth 100000 in
theorem wb_K_same_e20_3 {p : Program} {l : Launch} {e : Env} {s : State} {m : MethodId} {args : Array Value} {below : List Frame} {meth : Method} {c : Code} {D : va_G} {cy : Nat → ClassId} {A : Nat → Prop} {ad : Nat → Nat} {b0 : Nat} {n0 : Nat} {h0 : Nat → Int32} {fu : Nat} {k_3 : Int32 → Int32 → Int32 → Int32 → Option (Int32)} (F : Fx p s m args meth c b_K_same 6 "CoinKeeper" "same" (some .boolean) D cy ad A) (hk_3 : I_K_same_e20_3 p l e s m args below meth c D cy A ad b0 n0 h0 k_3) : I_K_same_e20_3 p l e s m args below meth c D cy A ad b0 n0 h0 (xb_K_same_e20_3 fu n0 h0 k_3) := by
  obtain ⟨hx, hb, hr, hml, hown, hts, hlocks, hK, hA, hSt, hnm, hex⟩ := id F
  intro x1 x3 x4 x5 res hf H locs ls hP hD hS hl
  unfold xb_K_same_e20_3 at hf
  refine lv_iload hx hb d_K_same_3 (lv_at hl 5 rfl) ?_
  refine lv_iload hx hb d_K_same_5 (lv_at hl 4 rfl) ?_
  refine lv_icmp_ge (tgt := 33) hx hb d_K_same_7 (by decide) (fun cx => ?_) (fun cx => ?_)
  · have hf := ifp cx hf
    refine lv_iconst (v := 1) hx hb d_K_same_33 (by decide) ?_
    obtain rfl := Option.some.inj hf
    exact q_rz hx hb hr hlocks hK hP hD hS (isb_n (v := 1) (by decide)) d_K_same_34
  · have hf := ifn cx hf
    refine lv_aload_n hx hb d_K_same_10 rfl (lv_at hl 0 rfl) ?_
    refine lv_iload_n hx hb d_K_same_11 rfl (lv_at hl 1 rfl) ?_
    refine lv_iload hx hb d_K_same_12 (lv_at hl 5 rfl) ?_
    refine lv_iadd hx hb d_K_same_14 ?_
    refine lv_topi (fun v1 ev => ?_)
    have hf := bn ev hf
    clear ev
    obtain ⟨hg, hf⟩ := gdp hf
    refine va_bald hx hb hK hP 0 0 rfl rfl (inb_in hg) d_K_same_15 ?_
    refine lv_topi (fun v2 ev => ?_)
    have hf := bn ev hf
    clear ev
    refine lv_aload_n hx hb d_K_same_16 rfl (lv_at hl 2 rfl) ?_
    refine lv_iload_n hx hb d_K_same_17 rfl (lv_at hl 3 rfl) ?_
    refine lv_iload hx hb d_K_same_18 (lv_at hl 5 rfl) ?_
    refine lv_iadd hx hb d_K_same_20 ?_
    refine lv_topi (fun v3 ev => ?_)
    have hf := bn ev hf
    clear ev
    obtain ⟨hg, hf⟩ := gdp hf
    refine va_bald hx hb hK hP 0 0 rfl rfl (inb_in hg) d_K_same_21 ?_
    refine lv_topi (fun v4 ev => ?_)
    have hf := bn ev hf
    clear ev
    refine lv_icmp_eq (tgt := 27) hx hb d_K_same_22 (by decide) (fun cx => ?_) (fun cx => ?_)
    · have hf := ifp cx hf
      obtain ⟨v5, ev, hf⟩ := bne hf
      refine lv_iinc (v := v5) (lv' := [(5, .int v5), (0, .ref b0), (1, .int x1), (2, .ref b0), (3, .int x3), (4, .int x4)]) hx hb d_K_same_27 hl (k := 5) rfl (by rw [ev]; rfl) (by decide) rfl (fun ls hl => ?_)
      clear ev
      refine lv_goto (tgt := 3) hx hb d_K_same_30 (by decide) ?_
      exact hk_3 _ _ _ _ _ hf _ _ _ hP hD hS (lv_sub hl [1, 2, 3, 4, 5, 0] rfl)
    · have hf := ifn cx hf
      refine lv_iconst (v := 0) hx hb d_K_same_25 (by decide) ?_
      obtain rfl := Option.some.inj hf
      exact q_rz hx hb hr hlocks hK hP hD hS (isb_n (v := 0) (by decide)) d_K_same_26
theorem w_K_same_e20_3 {p : Program} {l : Launch} {e : Env} {s : State} {m : MethodId} {args : Array Value} {below : List Frame} {meth : Method} {c : Code} {D : va_G} {cy : Nat → ClassId} {A : Nat → Prop} {ad : Nat → Nat} {b0 : Nat} {n0 : Nat} {h0 : Nat → Int32} {fu : Nat} (F : Fx p s m args meth c b_K_same 6 "CoinKeeper" "same" (some .boolean) D cy ad A) : ∀ n : Nat, I_K_same_e20_3 p l e s m args below meth c D cy A ad b0 n0 h0 (x_K_same_e20_3 fu n0 h0 n)
  | 0 => fun _ _ _ _ _ hf => nomatch (show (none : Option (Int32)) = some _ from hf)
  | n + 1 => wb_K_same_e20_3 F (w_K_same_e20_3 F n)
set_option maxHeartbeats 8000000 in
set_option maxRecDepth 100000 in
theorem we_K_same_e20 {p : Program} {l : Launch} {e : Env} {s : State} {m : MethodId} {args : Array Value} {below : List Frame} {meth : Method} {c : Code} {D : va_G} {cy : Nat → ClassId} {A : Nat → Prop} {ad : Nat → Nat} {b0 : Nat} {n0 : Nat} {h0 : Nat → Int32} {fu : Nat} (F : Fx p s m args meth c b_K_same 6 "CoinKeeper" "same" (some .boolean) D cy ad A) : I_K_same_e20_e p l e s m args below meth c D cy A ad b0 n0 h0 (x_K_same_e20 fu n0 h0) := by
  obtain ⟨hx, hb, hr, hml, hown, hts, hlocks, hK, hA, hSt, hnm, hex⟩ := id F
  intro a1 a3 a4 res hf H locs ls hP hD hS hl
  unfold x_K_same_e20 at hf
  refine lv_iconst (v := 0) hx hb d_K_same_0 (by decide) ?_
  refine lv_istore (lv' := [(5, .int (0 : Int32)), (0, .ref b0), (1, .int a1), (2, .ref b0), (3, .int a3), (4, .int a4)]) hx hb d_K_same_1 hl (by decide) rfl (fun ls hl => ?_)
  exact w_K_same_e20_3 F fu _ _ _ _ _ hf _ _ _ hP hD hS (lv_sub hl [1, 2, 3, 4, 5, 0] rfl)
theorem c_K_same_e20 (l : Launch) (D : va_G) (cy : Nat → ClassId) (ad : Nat → Nat) (fu : Nat) (b0 : Nat) (n0 : Nat) (h0 : Nat → Int32) (a1 : Int32) (a3 : Int32) (a4 : Int32) (res : Int32) (hf : x_K_same_e20 fu n0 h0 a1 a3 a4 = some res) (sz : Nat) : Met l ({ cls := "CoinKeeper", name := "same", desc := "([BI[BII)Z" } : Jvm.MethodName) (.code ({ cls := "CoinKeeper", name := "same", desc := "([BI[BII)Z" } : Jvm.MethodName) b_K_same 6 (some .boolean) :: gw) rm_K_same_e20 (va_Pc [.ref b0, .int a1, .ref b0, .int a3, .int a4] (Pr D cy ad [(b0, .inl (cy 0, n0, .inl h0))] sz)) (q_K_same_e20 D cy (va_A [(b0, .inl (cy 0, n0, .inl h0))] sz) b0 n0 h0 res) 0 0 (va_A [(b0, .inl (cy 0, n0, .inl h0))] sz) :=
  q_met (Qc := fun A => q_K_same_e20 D cy A b0 n0 h0 res) (by decide) rfl rfl (Nat.le_of_ble_eq_true rfl) (fun p e s m below meth c ls F hP hD hS hl => we_K_same_e20 (fu := fu) F a1 a3 a4 res hf _ _ _ hP hD hS hl) sz
abbrev b_Sc_load : ByteArray := prog_10_method_2_code
theorem d_Sc_load_0 : decode b_Sc_load 0 = .ok (.lconst 0, 1) := by decide +kernel
theorem d_Sc_load_1 : decode b_Sc_load 1 = .ok (.lstore 4, 2) := by decide +kernel
theorem d_Sc_load_3 : decode b_Sc_load 3 = .ok (.iconst 0, 1) := by decide +kernel
theorem d_Sc_load_4 : decode b_Sc_load 4 = .ok (.istore 6, 2) := by decide +kernel
theorem d_Sc_load_6 : decode b_Sc_load 6 = .ok (.iconst 0, 1) := by decide +kernel
theorem d_Sc_load_7 : decode b_Sc_load 7 = .ok (.istore 7, 2) := by decide +kernel
theorem d_Sc_load_9 : decode b_Sc_load 9 = .ok (.iload_n 2, 1) := by decide +kernel
theorem d_Sc_load_10 : decode b_Sc_load 10 = .ok (.iconst 1, 1) := by decide +kernel
theorem d_Sc_load_11 : decode b_Sc_load 11 = .ok (.isub, 1) := by decide +kernel
theorem d_Sc_load_12 : decode b_Sc_load 12 = .ok (.istore 8, 2) := by decide +kernel
theorem d_Sc_load_14 : decode b_Sc_load 14 = .ok (.iload 8, 2) := by decide +kernel
theorem d_Sc_load_16 : decode b_Sc_load 16 = .ok (.ifCond .lt 61, 3) := by decide +kernel
theorem d_Sc_load_19 : decode b_Sc_load 19 = .ok (.lload 4, 2) := by decide +kernel
theorem d_Sc_load_21 : decode b_Sc_load 21 = .ok (.aload_n 0, 1) := by decide +kernel
theorem d_Sc_load_22 : decode b_Sc_load 22 = .ok (.iload_n 1, 1) := by decide +kernel
theorem d_Sc_load_23 : decode b_Sc_load 23 = .ok (.iload 8, 2) := by decide +kernel
theorem d_Sc_load_25 : decode b_Sc_load 25 = .ok (.iadd, 1) := by decide +kernel
theorem d_Sc_load_26 : decode b_Sc_load 26 = .ok (.baload, 1) := by decide +kernel
theorem d_Sc_load_27 : decode b_Sc_load 27 = .ok (.i2l, 1) := by decide +kernel
theorem d_Sc_load_28 : decode b_Sc_load 28 = .ok (.ldc2_w 7, 3) := by decide +kernel
theorem d_Sc_load_31 : decode b_Sc_load 31 = .ok (.land, 1) := by decide +kernel
theorem d_Sc_load_32 : decode b_Sc_load 32 = .ok (.iload 6, 2) := by decide +kernel
theorem d_Sc_load_34 : decode b_Sc_load 34 = .ok (.lshl, 1) := by decide +kernel
theorem d_Sc_load_35 : decode b_Sc_load 35 = .ok (.lor, 1) := by decide +kernel
theorem d_Sc_load_36 : decode b_Sc_load 36 = .ok (.lstore 4, 2) := by decide +kernel
theorem d_Sc_load_38 : decode b_Sc_load 38 = .ok (.iinc 6 8, 3) := by decide +kernel
theorem d_Sc_load_41 : decode b_Sc_load 41 = .ok (.iload 6, 2) := by decide +kernel
theorem d_Sc_load_43 : decode b_Sc_load 43 = .ok (.bipush 52, 2) := by decide +kernel
theorem d_Sc_load_45 : decode b_Sc_load 45 = .ok (.if_icmp .lt 26, 3) := by decide +kernel
theorem d_Sc_load_48 : decode b_Sc_load 48 = .ok (.aload_n 3, 1) := by decide +kernel
theorem d_Sc_load_49 : decode b_Sc_load 49 = .ok (.iload 7, 2) := by decide +kernel
theorem d_Sc_load_51 : decode b_Sc_load 51 = .ok (.lload 4, 2) := by decide +kernel
theorem d_Sc_load_53 : decode b_Sc_load 53 = .ok (.ldc2_w 11, 3) := by decide +kernel
theorem d_Sc_load_56 : decode b_Sc_load 56 = .ok (.land, 1) := by decide +kernel
theorem d_Sc_load_57 : decode b_Sc_load 57 = .ok (.lastore, 1) := by decide +kernel
theorem d_Sc_load_58 : decode b_Sc_load 58 = .ok (.iinc 7 1, 3) := by decide +kernel
theorem d_Sc_load_61 : decode b_Sc_load 61 = .ok (.lload 4, 2) := by decide +kernel
theorem d_Sc_load_63 : decode b_Sc_load 63 = .ok (.bipush 52, 2) := by decide +kernel
theorem d_Sc_load_65 : decode b_Sc_load 65 = .ok (.lshr, 1) := by decide +kernel
theorem d_Sc_load_66 : decode b_Sc_load 66 = .ok (.lstore 4, 2) := by decide +kernel
theorem d_Sc_load_68 : decode b_Sc_load 68 = .ok (.iinc 6 (-52), 3) := by decide +kernel
theorem d_Sc_load_71 : decode b_Sc_load 71 = .ok (.iinc 8 (-1), 3) := by decide +kernel
theorem d_Sc_load_74 : decode b_Sc_load 74 = .ok (.goto (-60), 3) := by decide +kernel
theorem d_Sc_load_77 : decode b_Sc_load 77 = .ok (.iload 7, 2) := by decide +kernel
theorem d_Sc_load_79 : decode b_Sc_load 79 = .ok (.iconst 5, 1) := by decide +kernel
theorem d_Sc_load_80 : decode b_Sc_load 80 = .ok (.if_icmp .ge 18, 3) := by decide +kernel
theorem d_Sc_load_83 : decode b_Sc_load 83 = .ok (.aload_n 3, 1) := by decide +kernel
theorem d_Sc_load_84 : decode b_Sc_load 84 = .ok (.iload 7, 2) := by decide +kernel
theorem d_Sc_load_86 : decode b_Sc_load 86 = .ok (.lload 4, 2) := by decide +kernel
theorem d_Sc_load_88 : decode b_Sc_load 88 = .ok (.lastore, 1) := by decide +kernel
theorem d_Sc_load_89 : decode b_Sc_load 89 = .ok (.lconst 0, 1) := by decide +kernel
theorem d_Sc_load_90 : decode b_Sc_load 90 = .ok (.lstore 4, 2) := by decide +kernel
theorem d_Sc_load_92 : decode b_Sc_load 92 = .ok (.iinc 7 1, 3) := by decide +kernel
theorem d_Sc_load_95 : decode b_Sc_load 95 = .ok (.goto (-18), 3) := by decide +kernel
theorem d_Sc_load_98 : decode b_Sc_load 98 = .ok (.return_, 1) := by decide +kernel
abbrev rm_Sc_load : Room := { frames := 0, cells := 0, slots := 0, locals := 0 }
abbrev q_Sc_load (D : va_G) (cy : Nat → ClassId) (A : Nat → Prop) (b0 : Nat) (b3 : Nat) (n0 : Nat) (h0 : Nat → Int32) (res : (Nat → Int64)) : Array Value → State → Outcome → State → Prop := va_Qv (fun (_ : Unit) => True) (fun _ t => Po D cy A [(b0, .inl (cy 0, n0, .inl h0)), (b3, .inl (cy 2, 5, .inr (.inl res)))] t) A
def I_Sc_load_77 (p : Program) (l : Launch) (e : Env) (s : State) (m : MethodId) (args : Array Value) (below : List Frame) (meth : Method) (c : Code) (D : va_G) (cy : Nat → ClassId) (A : Nat → Prop) (ad : Nat → Nat) (b0 : Nat) (b3 : Nat) (n0 : Nat) (h0 : Nat → Int32) (k : Int64 → Int32 → (Nat → Int64) → Option ((Nat → Int64))) : Prop :=
  ∀ (x4 : Int64) (x7 : Int32) (u0 : Nat → Int64) (res : (Nat → Int64)), k x4 x7 u0 = some res → ∀ (H : Heap) (locs : List Loc) (ls : Array Slot), va_P D classes [(b0, .inl (cy 0, n0, .inl h0)), (b3, .inl (cy 2, 5, .inr (.inl u0)))] H → va_D A [(b0, .inl (cy 0, n0, .inl h0)), (b3, .inl (cy 2, 5, .inr (.inl u0)))] → va_S A s.heap H locs → lv_has ls 9 [(3, .ref b3), (4, .long x4), (7, .int x7)] → W p l e rm_Sc_load s m args below meth c H locs 0 0 (MQ below (q_Sc_load D cy A b0 b3 n0 h0 res) args s 0 0 A) (F0 m 77 ls [])
def I_Sc_load_71 (p : Program) (l : Launch) (e : Env) (s : State) (m : MethodId) (args : Array Value) (below : List Frame) (meth : Method) (c : Code) (D : va_G) (cy : Nat → ClassId) (A : Nat → Prop) (ad : Nat → Nat) (b0 : Nat) (b3 : Nat) (n0 : Nat) (h0 : Nat → Int32) (k : Int32 → Int64 → Int32 → Int32 → Int32 → (Nat → Int64) → Option ((Nat → Int64))) : Prop :=
  ∀ (x1 : Int32) (x4 : Int64) (x6 : Int32) (x7 : Int32) (x8 : Int32) (u0 : Nat → Int64) (res : (Nat → Int64)), k x1 x4 x6 x7 x8 u0 = some res → ∀ (H : Heap) (locs : List Loc) (ls : Array Slot), va_P D classes [(b0, .inl (cy 0, n0, .inl h0)), (b3, .inl (cy 2, 5, .inr (.inl u0)))] H → va_D A [(b0, .inl (cy 0, n0, .inl h0)), (b3, .inl (cy 2, 5, .inr (.inl u0)))] → va_S A s.heap H locs → lv_has ls 9 [(0, .ref b0), (1, .int x1), (3, .ref b3), (4, .long x4), (6, .int x6), (7, .int x7), (8, .int x8)] → W p l e rm_Sc_load s m args below meth c H locs 0 0 (MQ below (q_Sc_load D cy A b0 b3 n0 h0 res) args s 0 0 A) (F0 m 71 ls [])
def I_Sc_load_14 (p : Program) (l : Launch) (e : Env) (s : State) (m : MethodId) (args : Array Value) (below : List Frame) (meth : Method) (c : Code) (D : va_G) (cy : Nat → ClassId) (A : Nat → Prop) (ad : Nat → Nat) (b0 : Nat) (b3 : Nat) (n0 : Nat) (h0 : Nat → Int32) (k : Int32 → Int64 → Int32 → Int32 → Int32 → (Nat → Int64) → Option ((Nat → Int64))) : Prop :=
  ∀ (x1 : Int32) (x4 : Int64) (x6 : Int32) (x7 : Int32) (x8 : Int32) (u0 : Nat → Int64) (res : (Nat → Int64)), k x1 x4 x6 x7 x8 u0 = some res → ∀ (H : Heap) (locs : List Loc) (ls : Array Slot), va_P D classes [(b0, .inl (cy 0, n0, .inl h0)), (b3, .inl (cy 2, 5, .inr (.inl u0)))] H → va_D A [(b0, .inl (cy 0, n0, .inl h0)), (b3, .inl (cy 2, 5, .inr (.inl u0)))] → va_S A s.heap H locs → lv_has ls 9 [(0, .ref b0), (1, .int x1), (3, .ref b3), (4, .long x4), (6, .int x6), (7, .int x7), (8, .int x8)] → W p l e rm_Sc_load s m args below meth c H locs 0 0 (MQ below (q_Sc_load D cy A b0 b3 n0 h0 res) args s 0 0 A) (F0 m 14 ls [])
def I_Sc_load_e (p : Program) (l : Launch) (e : Env) (s : State) (m : MethodId) (args : Array Value) (below : List Frame) (meth : Method) (c : Code) (D : va_G) (cy : Nat → ClassId) (A : Nat → Prop) (ad : Nat → Nat) (b0 : Nat) (b3 : Nat) (n0 : Nat) (h0 : Nat → Int32) (k : Int32 → Int32 → (Nat → Int64) → Option ((Nat → Int64))) : Prop :=
  ∀ (a1 : Int32) (a2 : Int32) (u0 : Nat → Int64) (res : (Nat → Int64)), k a1 a2 u0 = some res → ∀ (H : Heap) (locs : List Loc) (ls : Array Slot), va_P D classes [(b0, .inl (cy 0, n0, .inl h0)), (b3, .inl (cy 2, 5, .inr (.inl u0)))] H → va_D A [(b0, .inl (cy 0, n0, .inl h0)), (b3, .inl (cy 2, 5, .inr (.inl u0)))] → va_S A s.heap H locs → lv_has ls 9 [(0, .ref b0), (1, .int a1), (2, .int a2), (3, .ref b3)] → W p l e rm_Sc_load s m args below meth c H locs 0 0 (MQ below (q_Sc_load D cy A b0 b3 n0 h0 res) args s 0 0 A) (F0 m 0 ls [])
set_option maxHeartbeats 8000000 in
set_option maxRecDepth 100000 in
theorem wb_Sc_load_77 {p : Program} {l : Launch} {e : Env} {s : State} {m : MethodId} {args : Array Value} {below : List Frame} {meth : Method} {c : Code} {D : va_G} {cy : Nat → ClassId} {A : Nat → Prop} {ad : Nat → Nat} {b0 : Nat} {b3 : Nat} {n0 : Nat} {h0 : Nat → Int32} {fu : Nat} {k_77 : Int64 → Int32 → (Nat → Int64) → Option ((Nat → Int64))} (F : Fx p s m args meth c b_Sc_load 9 "CoinKeeper$Scalar" "load" none D cy ad A) (hk_77 : I_Sc_load_77 p l e s m args below meth c D cy A ad b0 b3 n0 h0 k_77) : I_Sc_load_77 p l e s m args below meth c D cy A ad b0 b3 n0 h0 (xb_Sc_load_77 fu n0 h0 k_77) := by
  obtain ⟨hx, hb, hr, hml, hown, hts, hlocks, hK, hA, hSt, hnm, hex⟩ := id F
  intro x4 x7 u0 res hf H locs ls hP hD hS hl
  unfold xb_Sc_load_77 at hf
  refine lv_iload hx hb d_Sc_load_77 (lv_at hl 2 rfl) ?_
  refine lv_iconst (v := 5) hx hb d_Sc_load_79 (by decide) ?_
  refine lv_icmp_ge (tgt := 98) hx hb d_Sc_load_80 (by decide) (fun cx => ?_) (fun cx => ?_)
  · have hf := ifp cx hf
    obtain rfl := Option.some.inj hf
    exact q_rv hx hb hr hlocks hK hP hD hS d_Sc_load_98
  · have hf := ifn cx hf
    refine lv_aload_n hx hb d_Sc_load_83 rfl (lv_at hl 0 rfl) ?_
    refine lv_iload hx hb d_Sc_load_84 (lv_at hl 2 rfl) ?_
    refine lv_lload hx hb d_Sc_load_86 (lv_at hl 1 rfl) ?_
    obtain ⟨hg, hf⟩ := gdp hf
    refine va_last hx hb hK hP hD hS 1 2 rfl rfl (inb_in hg) d_Sc_load_88 (fun H locs hP hD hS => ?_)
    obtain ⟨f1, ev, hf⟩ := bne hf
    have hP : va_P D classes [(b0, .inl (cy 0, n0, .inl h0)), (b3, .inl (cy 2, 5, .inr (.inl f1)))] H := by rw [ev]; exact hP
    have hD : va_D A [(b0, .inl (cy 0, n0, .inl h0)), (b3, .inl (cy 2, 5, .inr (.inl f1)))] := by rw [ev]; exact hD
    clear ev
    refine lv_lconst (v := 0) hx hb d_Sc_load_89 (by decide) ?_
    refine lv_lstore (lv' := [(4, .long (0 : Int64)), (3, .ref b3), (7, .int x7)]) hx hb d_Sc_load_90 hl (by decide) rfl (fun ls hl => ?_)
    obtain ⟨v2, ev, hf⟩ := bne hf
    refine lv_iinc (v := v2) (lv' := [(7, .int v2), (4, .long (0 : Int64)), (3, .ref b3)]) hx hb d_Sc_load_92 hl (k := 2) rfl (by rw [ev]; rfl) (by decide) rfl (fun ls hl => ?_)
    clear ev
    refine lv_goto (tgt := 77) hx hb d_Sc_load_95 (by decide) ?_
    exact hk_77 _ _ _ _ hf _ _ _ hP hD hS (lv_sub hl [2, 1, 0] rfl)
theorem w_Sc_load_77 {p : Program} {l : Launch} {e : Env} {s : State} {m : MethodId} {args : Array Value} {below : List Frame} {meth : Method} {c : Code} {D : va_G} {cy : Nat → ClassId} {A : Nat → Prop} {ad : Nat → Nat} {b0 : Nat} {b3 : Nat} {n0 : Nat} {h0 : Nat → Int32} {fu : Nat} (F : Fx p s m args meth c b_Sc_load 9 "CoinKeeper$Scalar" "load" none D cy ad A) : ∀ n : Nat, I_Sc_load_77 p l e s m args below meth c D cy A ad b0 b3 n0 h0 (x_Sc_load_77 fu n0 h0 n)
  | 0 => fun _ _ _ _ hf => nomatch (show (none : Option ((Nat → Int64))) = some _ from hf)
  | n + 1 => wb_Sc_load_77 F (w_Sc_load_77 F n)
set_option maxHeartbeats 8000000 in
set_option maxRecDepth 100000 in
theorem wb_Sc_load_71 {p : Program} {l : Launch} {e : Env} {s : State} {m : MethodId} {args : Array Value} {below : List Frame} {meth : Method} {c : Code} {D : va_G} {cy : Nat → ClassId} {A : Nat → Prop} {ad : Nat → Nat} {b0 : Nat} {b3 : Nat} {n0 : Nat} {h0 : Nat → Int32} {fu : Nat} {k_14 : Int32 → Int64 → Int32 → Int32 → Int32 → (Nat → Int64) → Option ((Nat → Int64))} (F : Fx p s m args meth c b_Sc_load 9 "CoinKeeper$Scalar" "load" none D cy ad A) (hk_14 : I_Sc_load_14 p l e s m args below meth c D cy A ad b0 b3 n0 h0 k_14) : I_Sc_load_71 p l e s m args below meth c D cy A ad b0 b3 n0 h0 (xb_Sc_load_71 fu n0 h0 k_14) := by
  obtain ⟨hx, hb, hr, hml, hown, hts, hlocks, hK, hA, hSt, hnm, hex⟩ := id F
  intro x1 x4 x6 x7 x8 u0 res hf H locs ls hP hD hS hl
  unfold xb_Sc_load_71 at hf
  obtain ⟨v1, ev, hf⟩ := bne hf
  refine lv_iinc (v := v1) (lv' := [(8, .int v1), (0, .ref b0), (1, .int x1), (3, .ref b3), (4, .long x4), (6, .int x6), (7, .int x7)]) hx hb d_Sc_load_71 hl (k := 6) rfl (by rw [ev]; rfl) (by decide) rfl (fun ls hl => ?_)
  clear ev
  refine lv_goto (tgt := 14) hx hb d_Sc_load_74 (by decide) ?_
  exact hk_14 _ _ _ _ _ _ _ hf _ _ _ hP hD hS (lv_sub hl [1, 2, 3, 4, 5, 6, 0] rfl)
set_option maxHeartbeats 8000000 in
set_option maxRecDepth 100000 in
theorem wb_Sc_load_14 {p : Program} {l : Launch} {e : Env} {s : State} {m : MethodId} {args : Array Value} {below : List Frame} {meth : Method} {c : Code} {D : va_G} {cy : Nat → ClassId} {A : Nat → Prop} {ad : Nat → Nat} {b0 : Nat} {b3 : Nat} {n0 : Nat} {h0 : Nat → Int32} {fu : Nat} {k_14 : Int32 → Int64 → Int32 → Int32 → Int32 → (Nat → Int64) → Option ((Nat → Int64))} (F : Fx p s m args meth c b_Sc_load 9 "CoinKeeper$Scalar" "load" none D cy ad A) (hk_14 : I_Sc_load_14 p l e s m args below meth c D cy A ad b0 b3 n0 h0 k_14) : I_Sc_load_14 p l e s m args below meth c D cy A ad b0 b3 n0 h0 (xb_Sc_load_14 fu n0 h0 k_14) := by
  obtain ⟨hx, hb, hr, hml, hown, hts, hlocks, hK, hA, hSt, hnm, hex⟩ := id F
  intro x1 x4 x6 x7 x8 u0 res hf H locs ls hP hD hS hl
  unfold xb_Sc_load_14 at hf
  refine lv_iload hx hb d_Sc_load_14 (lv_at hl 6 rfl) ?_
  refine lv_if_lt (tgt := 77) hx hb d_Sc_load_16 (by decide) (fun cx => ?_) (fun cx => ?_)
  · have hf := ifp cx hf
    exact w_Sc_load_77 F fu _ _ _ _ hf _ _ _ hP hD hS (lv_sub hl [2, 3, 5] rfl)
  · have hf := ifn cx hf
    refine lv_lload hx hb d_Sc_load_19 (lv_at hl 3 rfl) ?_
    refine lv_aload_n hx hb d_Sc_load_21 rfl (lv_at hl 0 rfl) ?_
    refine lv_iload_n hx hb d_Sc_load_22 rfl (lv_at hl 1 rfl) ?_
    refine lv_iload hx hb d_Sc_load_23 (lv_at hl 6 rfl) ?_
    refine lv_iadd hx hb d_Sc_load_25 ?_
    refine lv_topi (fun v1 ev => ?_)
    have hf := bn ev hf
    clear ev
    obtain ⟨hg, hf⟩ := gdp hf
    refine va_bald hx hb hK hP 0 0 rfl rfl (inb_in hg) d_Sc_load_26 ?_
    refine lv_topi (fun v2 ev => ?_)
    have hf := bn ev hf
    clear ev
    refine lv_i2l hx hb d_Sc_load_27 rfl ?_
    refine lv_topl (fun v3 ev => ?_)
    have hf := bn ev hf
    clear ev
    refine lv_ldc2 (v := 255) hx hb hown (hts _ gw_1050) d_Sc_load_28 ?_
    refine lv_land hx hb d_Sc_load_31 ?_
    refine lv_topl (fun v4 ev => ?_)
    have hf := bn ev hf
    clear ev
    refine lv_iload hx hb d_Sc_load_32 (lv_at hl 4 rfl) ?_
    refine lv_lshl hx hb d_Sc_load_34 rfl ?_
    refine lv_lor hx hb d_Sc_load_35 ?_
    refine lv_topl (fun v5 ev => ?_)
    have hf := bn ev hf
    clear ev
    refine lv_lstore (lv' := [(4, .long v5), (0, .ref b0), (1, .int x1), (3, .ref b3), (6, .int x6), (7, .int x7), (8, .int x8)]) hx hb d_Sc_load_36 hl (by decide) rfl (fun ls hl => ?_)
    obtain ⟨v6, ev, hf⟩ := bne hf
    refine lv_iinc (v := v6) (lv' := [(6, .int v6), (4, .long v5), (0, .ref b0), (1, .int x1), (3, .ref b3), (7, .int x7), (8, .int x8)]) hx hb d_Sc_load_38 hl (k := 4) rfl (by rw [ev]; rfl) (by decide) rfl (fun ls hl => ?_)
    clear ev
    refine lv_iload hx hb d_Sc_load_41 (lv_at hl 0 rfl) ?_
    refine lv_bipush (v := 52) hx hb d_Sc_load_43 (by decide) ?_
    refine lv_icmp_lt (tgt := 71) hx hb d_Sc_load_45 (by decide) (fun cx => ?_) (fun cx => ?_)
    · have hf := ifp cx hf
      exact wb_Sc_load_71 (fu := fu) F hk_14 _ _ _ _ _ _ _ hf _ _ _ hP hD hS (lv_sub hl [2, 3, 4, 1, 0, 5, 6] rfl)
    · have hf := ifn cx hf
      refine lv_aload_n hx hb d_Sc_load_48 rfl (lv_at hl 4 rfl) ?_
      refine lv_iload hx hb d_Sc_load_49 (lv_at hl 5 rfl) ?_
      refine lv_lload hx hb d_Sc_load_51 (lv_at hl 1 rfl) ?_
      refine lv_ldc2 (v := 4503599627370495) hx hb hown (hts _ gw_1051) d_Sc_load_53 ?_
      refine lv_land hx hb d_Sc_load_56 ?_
      refine lv_topl (fun v7 ev => ?_)
      have hf := bn ev hf
      clear ev
      obtain ⟨hg, hf⟩ := gdp hf
      refine va_last hx hb hK hP hD hS 1 2 rfl rfl (inb_in hg) d_Sc_load_57 (fun H locs hP hD hS => ?_)
      obtain ⟨f8, ev, hf⟩ := bne hf
      have hP : va_P D classes [(b0, .inl (cy 0, n0, .inl h0)), (b3, .inl (cy 2, 5, .inr (.inl f8)))] H := by rw [ev]; exact hP
      have hD : va_D A [(b0, .inl (cy 0, n0, .inl h0)), (b3, .inl (cy 2, 5, .inr (.inl f8)))] := by rw [ev]; exact hD
      clear ev
      obtain ⟨v9, ev, hf⟩ := bne hf
      refine lv_iinc (v := v9) (lv' := [(7, .int v9), (6, .int v6), (4, .long v5), (0, .ref b0), (1, .int x1), (3, .ref b3), (8, .int x8)]) hx hb d_Sc_load_58 hl (k := 5) rfl (by rw [ev]; rfl) (by decide) rfl (fun ls hl => ?_)
      clear ev
      refine lv_lload hx hb d_Sc_load_61 (lv_at hl 2 rfl) ?_
      refine lv_bipush (v := 52) hx hb d_Sc_load_63 (by decide) ?_
      refine lv_lshr hx hb d_Sc_load_65 rfl ?_
      refine lv_topl (fun v10 ev => ?_)
      have hf := bn ev hf
      clear ev
      refine lv_lstore (lv' := [(4, .long v10), (7, .int v9), (6, .int v6), (0, .ref b0), (1, .int x1), (3, .ref b3), (8, .int x8)]) hx hb d_Sc_load_66 hl (by decide) rfl (fun ls hl => ?_)
      obtain ⟨v11, ev, hf⟩ := bne hf
      refine lv_iinc (v := v11) (lv' := [(6, .int v11), (4, .long v10), (7, .int v9), (0, .ref b0), (1, .int x1), (3, .ref b3), (8, .int x8)]) hx hb d_Sc_load_68 hl (k := 2) rfl (by rw [ev]; rfl) (by decide) rfl (fun ls hl => ?_)
      clear ev
      exact wb_Sc_load_71 (fu := fu) F hk_14 _ _ _ _ _ _ _ hf _ _ _ hP hD hS (lv_sub hl [3, 4, 5, 1, 0, 2, 6] rfl)
theorem w_Sc_load_14 {p : Program} {l : Launch} {e : Env} {s : State} {m : MethodId} {args : Array Value} {below : List Frame} {meth : Method} {c : Code} {D : va_G} {cy : Nat → ClassId} {A : Nat → Prop} {ad : Nat → Nat} {b0 : Nat} {b3 : Nat} {n0 : Nat} {h0 : Nat → Int32} {fu : Nat} (F : Fx p s m args meth c b_Sc_load 9 "CoinKeeper$Scalar" "load" none D cy ad A) : ∀ n : Nat, I_Sc_load_14 p l e s m args below meth c D cy A ad b0 b3 n0 h0 (x_Sc_load_14 fu n0 h0 n)
  | 0 => fun _ _ _ _ _ _ _ hf => nomatch (show (none : Option ((Nat → Int64))) = some _ from hf)
  | n + 1 => wb_Sc_load_14 F (w_Sc_load_14 F n)
set_option maxHeartbeats 8000000 in
set_option maxRecDepth 100000 in
theorem we_Sc_load {p : Program} {l : Launch} {e : Env} {s : State} {m : MethodId} {args : Array Value} {below : List Frame} {meth : Method} {c : Code} {D : va_G} {cy : Nat → ClassId} {A : Nat → Prop} {ad : Nat → Nat} {b0 : Nat} {b3 : Nat} {n0 : Nat} {h0 : Nat → Int32} {fu : Nat} (F : Fx p s m args meth c b_Sc_load 9 "CoinKeeper$Scalar" "load" none D cy ad A) : I_Sc_load_e p l e s m args below meth c D cy A ad b0 b3 n0 h0 (x_Sc_load fu n0 h0) := by
  obtain ⟨hx, hb, hr, hml, hown, hts, hlocks, hK, hA, hSt, hnm, hex⟩ := id F
  intro a1 a2 u0 res hf H locs ls hP hD hS hl
  unfold x_Sc_load at hf
  refine lv_lconst (v := 0) hx hb d_Sc_load_0 (by decide) ?_
  refine lv_lstore (lv' := [(4, .long (0 : Int64)), (0, .ref b0), (1, .int a1), (2, .int a2), (3, .ref b3)]) hx hb d_Sc_load_1 hl (by decide) rfl (fun ls hl => ?_)
  refine lv_iconst (v := 0) hx hb d_Sc_load_3 (by decide) ?_
  refine lv_istore (lv' := [(6, .int (0 : Int32)), (4, .long (0 : Int64)), (0, .ref b0), (1, .int a1), (2, .int a2), (3, .ref b3)]) hx hb d_Sc_load_4 hl (by decide) rfl (fun ls hl => ?_)
  refine lv_iconst (v := 0) hx hb d_Sc_load_6 (by decide) ?_
  refine lv_istore (lv' := [(7, .int (0 : Int32)), (6, .int (0 : Int32)), (4, .long (0 : Int64)), (0, .ref b0), (1, .int a1), (2, .int a2), (3, .ref b3)]) hx hb d_Sc_load_7 hl (by decide) rfl (fun ls hl => ?_)
  refine lv_iload_n hx hb d_Sc_load_9 rfl (lv_at hl 5 rfl) ?_
  refine lv_iconst (v := 1) hx hb d_Sc_load_10 (by decide) ?_
  refine lv_isub hx hb d_Sc_load_11 ?_
  refine lv_topi (fun v1 ev => ?_)
  have hf := bn ev hf
  clear ev
  refine lv_istore (lv' := [(8, .int v1), (7, .int (0 : Int32)), (6, .int (0 : Int32)), (4, .long (0 : Int64)), (0, .ref b0), (1, .int a1), (2, .int a2), (3, .ref b3)]) hx hb d_Sc_load_12 hl (by decide) rfl (fun ls hl => ?_)
  exact w_Sc_load_14 F fu _ _ _ _ _ _ _ hf _ _ _ hP hD hS (lv_sub hl [4, 5, 7, 3, 2, 1, 0] rfl)
theorem c_Sc_load (l : Launch) (D : va_G) (cy : Nat → ClassId) (ad : Nat → Nat) (fu : Nat) (b0 : Nat) (b3 : Nat) (n0 : Nat) (h0 : Nat → Int32) (a1 : Int32) (a2 : Int32) (u0 : Nat → Int64) (res : (Nat → Int64)) (hf : x_Sc_load fu n0 h0 a1 a2 u0 = some res) (sz : Nat) : Met l ({ cls := "CoinKeeper$Scalar", name := "load", desc := "([BII[J)V" } : Jvm.MethodName) (.code ({ cls := "CoinKeeper$Scalar", name := "load", desc := "([BII[J)V" } : Jvm.MethodName) b_Sc_load 9 none :: gw) rm_Sc_load (va_Pc [.ref b0, .int a1, .int a2, .ref b3] (Pr D cy ad [(b0, .inl (cy 0, n0, .inl h0)), (b3, .inl (cy 2, 5, .inr (.inl u0)))] sz)) (q_Sc_load D cy (va_A [(b0, .inl (cy 0, n0, .inl h0)), (b3, .inl (cy 2, 5, .inr (.inl u0)))] sz) b0 b3 n0 h0 res) 0 0 (va_A [(b0, .inl (cy 0, n0, .inl h0)), (b3, .inl (cy 2, 5, .inr (.inl u0)))] sz) :=
  q_met (Qc := fun A => q_Sc_load D cy A b0 b3 n0 h0 res) (by decide) rfl rfl (Nat.le_of_ble_eq_true rfl) (fun p e s m below meth c ls F hP hD hS hl => we_Sc_load (fu := fu) F a1 a2 u0 res hf _ _ _ hP hD hS hl) sz
abbrev b_Sc_compare : ByteArray := prog_10_method_3_code
theorem d_Sc_compare_0 : decode b_Sc_compare 0 = .ok (.iconst 4, 1) := by decide +kernel
theorem d_Sc_compare_1 : decode b_Sc_compare 1 = .ok (.istore_n 2, 1) := by decide +kernel
theorem d_Sc_compare_2 : decode b_Sc_compare 2 = .ok (.iload_n 2, 1) := by decide +kernel
theorem d_Sc_compare_3 : decode b_Sc_compare 3 = .ok (.ifCond .lt 35, 3) := by decide +kernel
theorem d_Sc_compare_6 : decode b_Sc_compare 6 = .ok (.aload_n 0, 1) := by decide +kernel
theorem d_Sc_compare_7 : decode b_Sc_compare 7 = .ok (.iload_n 2, 1) := by decide +kernel
theorem d_Sc_compare_8 : decode b_Sc_compare 8 = .ok (.laload, 1) := by decide +kernel
theorem d_Sc_compare_9 : decode b_Sc_compare 9 = .ok (.aload_n 1, 1) := by decide +kernel
theorem d_Sc_compare_10 : decode b_Sc_compare 10 = .ok (.iload_n 2, 1) := by decide +kernel
theorem d_Sc_compare_11 : decode b_Sc_compare 11 = .ok (.laload, 1) := by decide +kernel
theorem d_Sc_compare_12 : decode b_Sc_compare 12 = .ok (.lcmp, 1) := by decide +kernel
theorem d_Sc_compare_13 : decode b_Sc_compare 13 = .ok (.ifCond .eq 19, 3) := by decide +kernel
theorem d_Sc_compare_16 : decode b_Sc_compare 16 = .ok (.aload_n 0, 1) := by decide +kernel
theorem d_Sc_compare_17 : decode b_Sc_compare 17 = .ok (.iload_n 2, 1) := by decide +kernel
theorem d_Sc_compare_18 : decode b_Sc_compare 18 = .ok (.laload, 1) := by decide +kernel
theorem d_Sc_compare_19 : decode b_Sc_compare 19 = .ok (.aload_n 1, 1) := by decide +kernel
theorem d_Sc_compare_20 : decode b_Sc_compare 20 = .ok (.iload_n 2, 1) := by decide +kernel
theorem d_Sc_compare_21 : decode b_Sc_compare 21 = .ok (.laload, 1) := by decide +kernel
theorem d_Sc_compare_22 : decode b_Sc_compare 22 = .ok (.lcmp, 1) := by decide +kernel
theorem d_Sc_compare_23 : decode b_Sc_compare 23 = .ok (.ifCond .ge 7, 3) := by decide +kernel
theorem d_Sc_compare_26 : decode b_Sc_compare 26 = .ok (.iconst (-1), 1) := by decide +kernel
theorem d_Sc_compare_27 : decode b_Sc_compare 27 = .ok (.goto 4, 3) := by decide +kernel
theorem d_Sc_compare_30 : decode b_Sc_compare 30 = .ok (.iconst 1, 1) := by decide +kernel
theorem d_Sc_compare_31 : decode b_Sc_compare 31 = .ok (.ireturn, 1) := by decide +kernel
theorem d_Sc_compare_32 : decode b_Sc_compare 32 = .ok (.iinc 2 (-1), 3) := by decide +kernel
theorem d_Sc_compare_35 : decode b_Sc_compare 35 = .ok (.goto (-33), 3) := by decide +kernel
theorem d_Sc_compare_38 : decode b_Sc_compare 38 = .ok (.iconst 0, 1) := by decide +kernel
theorem d_Sc_compare_39 : decode b_Sc_compare 39 = .ok (.ireturn, 1) := by decide +kernel
abbrev rm_Sc_compare : Room := { frames := 0, cells := 0, slots := 0, locals := 0 }
abbrev q_Sc_compare (D : va_G) (cy : Nat → ClassId) (A : Nat → Prop) (b0 : Nat) (b1 : Nat) (h0 : Nat → Int64) (h1 : Nat → Int64) (res : Int32) : Array Value → State → Outcome → State → Prop := va_Qi (fun r' (_ : Unit) => r' = res) (fun _ t => Po D cy A [(b0, .inl (cy 2, 5, .inr (.inl h0))), (b1, .inl (cy 2, 5, .inr (.inl h1)))] t) A
def I_Sc_compare_2 (p : Program) (l : Launch) (e : Env) (s : State) (m : MethodId) (args : Array Value) (below : List Frame) (meth : Method) (c : Code) (D : va_G) (cy : Nat → ClassId) (A : Nat → Prop) (ad : Nat → Nat) (b0 : Nat) (b1 : Nat) (h0 : Nat → Int64) (h1 : Nat → Int64) (k : Int32 → Option (Int32)) : Prop :=
  ∀ (x2 : Int32) (res : Int32), k x2 = some res → ∀ (H : Heap) (locs : List Loc) (ls : Array Slot), va_P D classes [(b0, .inl (cy 2, 5, .inr (.inl h0))), (b1, .inl (cy 2, 5, .inr (.inl h1)))] H → va_D A [(b0, .inl (cy 2, 5, .inr (.inl h0))), (b1, .inl (cy 2, 5, .inr (.inl h1)))] → va_S A s.heap H locs → lv_has ls 3 [(0, .ref b0), (1, .ref b1), (2, .int x2)] → W p l e rm_Sc_compare s m args below meth c H locs 0 0 (MQ below (q_Sc_compare D cy A b0 b1 h0 h1 res) args s 0 0 A) (F0 m 2 ls [])
def I_Sc_compare_e (p : Program) (l : Launch) (e : Env) (s : State) (m : MethodId) (args : Array Value) (below : List Frame) (meth : Method) (c : Code) (D : va_G) (cy : Nat → ClassId) (A : Nat → Prop) (ad : Nat → Nat) (b0 : Nat) (b1 : Nat) (h0 : Nat → Int64) (h1 : Nat → Int64) (k : Option (Int32)) : Prop :=
  ∀ (res : Int32), k  = some res → ∀ (H : Heap) (locs : List Loc) (ls : Array Slot), va_P D classes [(b0, .inl (cy 2, 5, .inr (.inl h0))), (b1, .inl (cy 2, 5, .inr (.inl h1)))] H → va_D A [(b0, .inl (cy 2, 5, .inr (.inl h0))), (b1, .inl (cy 2, 5, .inr (.inl h1)))] → va_S A s.heap H locs → lv_has ls 3 [(0, .ref b0), (1, .ref b1)] → W p l e rm_Sc_compare s m args below meth c H locs 0 0 (MQ below (q_Sc_compare D cy A b0 b1 h0 h1 res) args s 0 0 A) (F0 m 0 ls [])
set_option maxHeartbeats 8000000 in
set_option maxRecDepth 100000 in
theorem wb_Sc_compare_2 {p : Program} {l : Launch} {e : Env} {s : State} {m : MethodId} {args : Array Value} {below : List Frame} {meth : Method} {c : Code} {D : va_G} {cy : Nat → ClassId} {A : Nat → Prop} {ad : Nat → Nat} {b0 : Nat} {b1 : Nat} {h0 : Nat → Int64} {h1 : Nat → Int64} {fu : Nat} {k_2 : Int32 → Option (Int32)} (F : Fx p s m args meth c b_Sc_compare 3 "CoinKeeper$Scalar" "compare" (some .int) D cy ad A) (hk_2 : I_Sc_compare_2 p l e s m args below meth c D cy A ad b0 b1 h0 h1 k_2) : I_Sc_compare_2 p l e s m args below meth c D cy A ad b0 b1 h0 h1 (xb_Sc_compare_2 fu h0 h1 k_2) := by
  obtain ⟨hx, hb, hr, hml, hown, hts, hlocks, hK, hA, hSt, hnm, hex⟩ := id F
  intro x2 res hf H locs ls hP hD hS hl
  unfold xb_Sc_compare_2 at hf
  refine lv_iload_n hx hb d_Sc_compare_2 rfl (lv_at hl 2 rfl) ?_
  refine lv_if_lt (tgt := 38) hx hb d_Sc_compare_3 (by decide) (fun cx => ?_) (fun cx => ?_)
  · have hf := ifp cx hf
    refine lv_iconst (v := 0) hx hb d_Sc_compare_38 (by decide) ?_
    obtain rfl := Option.some.inj hf
    exact q_ri hx hb hr hlocks hK hP hD hS d_Sc_compare_39
  · have hf := ifn cx hf
    refine lv_aload_n hx hb d_Sc_compare_6 rfl (lv_at hl 0 rfl) ?_
    refine lv_iload_n hx hb d_Sc_compare_7 rfl (lv_at hl 2 rfl) ?_
    obtain ⟨hg, hf⟩ := gdp hf
    refine va_lald hx hb hK hP 0 2 rfl rfl (inb_in hg) d_Sc_compare_8 ?_
    refine lv_topl (fun v1 ev => ?_)
    have hf := bn ev hf
    clear ev
    refine lv_aload_n hx hb d_Sc_compare_9 rfl (lv_at hl 1 rfl) ?_
    refine lv_iload_n hx hb d_Sc_compare_10 rfl (lv_at hl 2 rfl) ?_
    obtain ⟨hg, hf⟩ := gdp hf
    refine va_lald hx hb hK hP 1 2 rfl rfl (inb_in hg) d_Sc_compare_11 ?_
    refine lv_topl (fun v2 ev => ?_)
    have hf := bn ev hf
    clear ev
    refine W.lcmp hx hb d_Sc_compare_12 ?_
    refine lv_if_eq (tgt := 32) hx hb d_Sc_compare_13 (by decide) (fun cx => ?_) (fun cx => ?_)
    · have hf := ifp cx hf
      obtain ⟨v3, ev, hf⟩ := bne hf
      refine lv_iinc (v := v3) (lv' := [(2, .int v3), (0, .ref b0), (1, .ref b1)]) hx hb d_Sc_compare_32 hl (k := 2) rfl (by rw [ev]; rfl) (by decide) rfl (fun ls hl => ?_)
      clear ev
      refine lv_goto (tgt := 2) hx hb d_Sc_compare_35 (by decide) ?_
      exact hk_2 _ _ hf _ _ _ hP hD hS (lv_sub hl [1, 2, 0] rfl)
    · have hf := ifn cx hf
      refine lv_aload_n hx hb d_Sc_compare_16 rfl (lv_at hl 0 rfl) ?_
      refine lv_iload_n hx hb d_Sc_compare_17 rfl (lv_at hl 2 rfl) ?_
      obtain ⟨hg, hf⟩ := gdp hf
      refine va_lald hx hb hK hP 0 2 rfl rfl (inb_in hg) d_Sc_compare_18 ?_
      refine lv_topl (fun v4 ev => ?_)
      have hf := bn ev hf
      clear ev
      refine lv_aload_n hx hb d_Sc_compare_19 rfl (lv_at hl 1 rfl) ?_
      refine lv_iload_n hx hb d_Sc_compare_20 rfl (lv_at hl 2 rfl) ?_
      obtain ⟨hg, hf⟩ := gdp hf
      refine va_lald hx hb hK hP 1 2 rfl rfl (inb_in hg) d_Sc_compare_21 ?_
      refine lv_topl (fun v5 ev => ?_)
      have hf := bn ev hf
      clear ev
      refine W.lcmp hx hb d_Sc_compare_22 ?_
      refine lv_if_ge (tgt := 30) hx hb d_Sc_compare_23 (by decide) (fun cx => ?_) (fun cx => ?_)
      · have hf := ifp cx hf
        refine lv_iconst (v := 1) hx hb d_Sc_compare_30 (by decide) ?_
        obtain rfl := Option.some.inj hf
        exact q_ri hx hb hr hlocks hK hP hD hS d_Sc_compare_31
      · have hf := ifn cx hf
        refine lv_iconst (v := (-1)) hx hb d_Sc_compare_26 (by decide) ?_
        refine lv_goto (tgt := 31) hx hb d_Sc_compare_27 (by decide) ?_
        obtain rfl := Option.some.inj hf
        exact q_ri hx hb hr hlocks hK hP hD hS d_Sc_compare_31
theorem w_Sc_compare_2 {p : Program} {l : Launch} {e : Env} {s : State} {m : MethodId} {args : Array Value} {below : List Frame} {meth : Method} {c : Code} {D : va_G} {cy : Nat → ClassId} {A : Nat → Prop} {ad : Nat → Nat} {b0 : Nat} {b1 : Nat} {h0 : Nat → Int64} {h1 : Nat → Int64} {fu : Nat} (F : Fx p s m args meth c b_Sc_compare 3 "CoinKeeper$Scalar" "compare" (some .int) D cy ad A) : ∀ n : Nat, I_Sc_compare_2 p l e s m args below meth c D cy A ad b0 b1 h0 h1 (x_Sc_compare_2 fu h0 h1 n)
  | 0 => fun _ _ hf => nomatch (show (none : Option (Int32)) = some _ from hf)
  | n + 1 => wb_Sc_compare_2 F (w_Sc_compare_2 F n)
set_option maxHeartbeats 8000000 in
set_option maxRecDepth 100000 in
theorem we_Sc_compare {p : Program} {l : Launch} {e : Env} {s : State} {m : MethodId} {args : Array Value} {below : List Frame} {meth : Method} {c : Code} {D : va_G} {cy : Nat → ClassId} {A : Nat → Prop} {ad : Nat → Nat} {b0 : Nat} {b1 : Nat} {h0 : Nat → Int64} {h1 : Nat → Int64} {fu : Nat} (F : Fx p s m args meth c b_Sc_compare 3 "CoinKeeper$Scalar" "compare" (some .int) D cy ad A) : I_Sc_compare_e p l e s m args below meth c D cy A ad b0 b1 h0 h1 (x_Sc_compare fu h0 h1) := by
  obtain ⟨hx, hb, hr, hml, hown, hts, hlocks, hK, hA, hSt, hnm, hex⟩ := id F
  intro  res hf H locs ls hP hD hS hl
  unfold x_Sc_compare at hf
  refine lv_iconst (v := 4) hx hb d_Sc_compare_0 (by decide) ?_
  refine lv_istore_n (lv' := [(2, .int (4 : Int32)), (0, .ref b0), (1, .ref b1)]) hx hb d_Sc_compare_1 rfl hl (by decide) rfl (fun ls hl => ?_)
  exact w_Sc_compare_2 F fu _ _ hf _ _ _ hP hD hS (lv_sub hl [1, 2, 0] rfl)
theorem c_Sc_compare (l : Launch) (D : va_G) (cy : Nat → ClassId) (ad : Nat → Nat) (fu : Nat) (b0 : Nat) (b1 : Nat) (h0 : Nat → Int64) (h1 : Nat → Int64) (res : Int32) (hf : x_Sc_compare fu h0 h1 = some res) (sz : Nat) : Met l ({ cls := "CoinKeeper$Scalar", name := "compare", desc := "([J[J)I" } : Jvm.MethodName) (.code ({ cls := "CoinKeeper$Scalar", name := "compare", desc := "([J[J)I" } : Jvm.MethodName) b_Sc_compare 3 (some .int) :: gw) rm_Sc_compare (va_Pc [.ref b0, .ref b1] (Pr D cy ad [(b0, .inl (cy 2, 5, .inr (.inl h0))), (b1, .inl (cy 2, 5, .inr (.inl h1)))] sz)) (q_Sc_compare D cy (va_A [(b0, .inl (cy 2, 5, .inr (.inl h0))), (b1, .inl (cy 2, 5, .inr (.inl h1)))] sz) b0 b1 h0 h1 res) 0 0 (va_A [(b0, .inl (cy 2, 5, .inr (.inl h0))), (b1, .inl (cy 2, 5, .inr (.inl h1)))] sz) :=
  q_met (Qc := fun A => q_Sc_compare D cy A b0 b1 h0 h1 res) (by decide) rfl rfl (Nat.le_of_ble_eq_true rfl) (fun p e s m below meth c ls F hP hD hS hl => we_Sc_compare (fu := fu) F  res hf _ _ _ hP hD hS hl) sz
abbrev b_Sc_isZero : ByteArray := prog_10_method_4_code
theorem d_Sc_isZero_0 : decode b_Sc_isZero 0 = .ok (.aload_n 0, 1) := by decide +kernel
theorem d_Sc_isZero_1 : decode b_Sc_isZero 1 = .ok (.iconst 0, 1) := by decide +kernel
theorem d_Sc_isZero_2 : decode b_Sc_isZero 2 = .ok (.laload, 1) := by decide +kernel
theorem d_Sc_isZero_3 : decode b_Sc_isZero 3 = .ok (.aload_n 0, 1) := by decide +kernel
theorem d_Sc_isZero_4 : decode b_Sc_isZero 4 = .ok (.iconst 1, 1) := by decide +kernel
theorem d_Sc_isZero_5 : decode b_Sc_isZero 5 = .ok (.laload, 1) := by decide +kernel
theorem d_Sc_isZero_6 : decode b_Sc_isZero 6 = .ok (.lor, 1) := by decide +kernel
theorem d_Sc_isZero_7 : decode b_Sc_isZero 7 = .ok (.aload_n 0, 1) := by decide +kernel
theorem d_Sc_isZero_8 : decode b_Sc_isZero 8 = .ok (.iconst 2, 1) := by decide +kernel
theorem d_Sc_isZero_9 : decode b_Sc_isZero 9 = .ok (.laload, 1) := by decide +kernel
theorem d_Sc_isZero_10 : decode b_Sc_isZero 10 = .ok (.lor, 1) := by decide +kernel
theorem d_Sc_isZero_11 : decode b_Sc_isZero 11 = .ok (.aload_n 0, 1) := by decide +kernel
theorem d_Sc_isZero_12 : decode b_Sc_isZero 12 = .ok (.iconst 3, 1) := by decide +kernel
theorem d_Sc_isZero_13 : decode b_Sc_isZero 13 = .ok (.laload, 1) := by decide +kernel
theorem d_Sc_isZero_14 : decode b_Sc_isZero 14 = .ok (.lor, 1) := by decide +kernel
theorem d_Sc_isZero_15 : decode b_Sc_isZero 15 = .ok (.aload_n 0, 1) := by decide +kernel
theorem d_Sc_isZero_16 : decode b_Sc_isZero 16 = .ok (.iconst 4, 1) := by decide +kernel
theorem d_Sc_isZero_17 : decode b_Sc_isZero 17 = .ok (.laload, 1) := by decide +kernel
theorem d_Sc_isZero_18 : decode b_Sc_isZero 18 = .ok (.lor, 1) := by decide +kernel
theorem d_Sc_isZero_19 : decode b_Sc_isZero 19 = .ok (.lconst 0, 1) := by decide +kernel
theorem d_Sc_isZero_20 : decode b_Sc_isZero 20 = .ok (.lcmp, 1) := by decide +kernel
theorem d_Sc_isZero_21 : decode b_Sc_isZero 21 = .ok (.ifCond .ne 7, 3) := by decide +kernel
theorem d_Sc_isZero_24 : decode b_Sc_isZero 24 = .ok (.iconst 1, 1) := by decide +kernel
theorem d_Sc_isZero_25 : decode b_Sc_isZero 25 = .ok (.goto 4, 3) := by decide +kernel
theorem d_Sc_isZero_28 : decode b_Sc_isZero 28 = .ok (.iconst 0, 1) := by decide +kernel
theorem d_Sc_isZero_29 : decode b_Sc_isZero 29 = .ok (.ireturn, 1) := by decide +kernel
abbrev rm_Sc_isZero : Room := { frames := 0, cells := 0, slots := 0, locals := 0 }
abbrev q_Sc_isZero (D : va_G) (cy : Nat → ClassId) (A : Nat → Prop) (b0 : Nat) (h0 : Nat → Int64) (res : Int32) : Array Value → State → Outcome → State → Prop := va_Qi (fun r' (_ : Unit) => r' = res) (fun _ t => Po D cy A [(b0, .inl (cy 2, 5, .inr (.inl h0)))] t) A
def I_Sc_isZero_e (p : Program) (l : Launch) (e : Env) (s : State) (m : MethodId) (args : Array Value) (below : List Frame) (meth : Method) (c : Code) (D : va_G) (cy : Nat → ClassId) (A : Nat → Prop) (ad : Nat → Nat) (b0 : Nat) (h0 : Nat → Int64) (k : Option (Int32)) : Prop :=
  ∀ (res : Int32), k  = some res → ∀ (H : Heap) (locs : List Loc) (ls : Array Slot), va_P D classes [(b0, .inl (cy 2, 5, .inr (.inl h0)))] H → va_D A [(b0, .inl (cy 2, 5, .inr (.inl h0)))] → va_S A s.heap H locs → lv_has ls 1 [(0, .ref b0)] → W p l e rm_Sc_isZero s m args below meth c H locs 0 0 (MQ below (q_Sc_isZero D cy A b0 h0 res) args s 0 0 A) (F0 m 0 ls [])
set_option maxHeartbeats 8000000 in
set_option maxRecDepth 100000 in
theorem we_Sc_isZero {p : Program} {l : Launch} {e : Env} {s : State} {m : MethodId} {args : Array Value} {below : List Frame} {meth : Method} {c : Code} {D : va_G} {cy : Nat → ClassId} {A : Nat → Prop} {ad : Nat → Nat} {b0 : Nat} {h0 : Nat → Int64} {fu : Nat} (F : Fx p s m args meth c b_Sc_isZero 1 "CoinKeeper$Scalar" "isZero" (some .boolean) D cy ad A) : I_Sc_isZero_e p l e s m args below meth c D cy A ad b0 h0 (x_Sc_isZero fu h0) := by
  obtain ⟨hx, hb, hr, hml, hown, hts, hlocks, hK, hA, hSt, hnm, hex⟩ := id F
  intro  res hf H locs ls hP hD hS hl
  unfold x_Sc_isZero at hf
  refine lv_aload_n hx hb d_Sc_isZero_0 rfl (lv_at hl 0 rfl) ?_
  refine lv_iconst (v := 0) hx hb d_Sc_isZero_1 (by decide) ?_
  refine va_lald hx hb hK hP 0 2 rfl rfl (inb_in (by decide)) d_Sc_isZero_2 ?_
  refine lv_topl (fun v1 ev => ?_)
  have hf := bn ev hf
  clear ev
  refine lv_aload_n hx hb d_Sc_isZero_3 rfl (lv_at hl 0 rfl) ?_
  refine lv_iconst (v := 1) hx hb d_Sc_isZero_4 (by decide) ?_
  refine va_lald hx hb hK hP 0 2 rfl rfl (inb_in (by decide)) d_Sc_isZero_5 ?_
  refine lv_topl (fun v2 ev => ?_)
  have hf := bn ev hf
  clear ev
  refine lv_lor hx hb d_Sc_isZero_6 ?_
  refine lv_topl (fun v3 ev => ?_)
  have hf := bn ev hf
  clear ev
  refine lv_aload_n hx hb d_Sc_isZero_7 rfl (lv_at hl 0 rfl) ?_
  refine lv_iconst (v := 2) hx hb d_Sc_isZero_8 (by decide) ?_
  refine va_lald hx hb hK hP 0 2 rfl rfl (inb_in (by decide)) d_Sc_isZero_9 ?_
  refine lv_topl (fun v4 ev => ?_)
  have hf := bn ev hf
  clear ev
  refine lv_lor hx hb d_Sc_isZero_10 ?_
  refine lv_topl (fun v5 ev => ?_)
  have hf := bn ev hf
  clear ev
  refine lv_aload_n hx hb d_Sc_isZero_11 rfl (lv_at hl 0 rfl) ?_
  refine lv_iconst (v := 3) hx hb d_Sc_isZero_12 (by decide) ?_
  refine va_lald hx hb hK hP 0 2 rfl rfl (inb_in (by decide)) d_Sc_isZero_13 ?_
  refine lv_topl (fun v6 ev => ?_)
  have hf := bn ev hf
  clear ev
  refine lv_lor hx hb d_Sc_isZero_14 ?_
  refine lv_topl (fun v7 ev => ?_)
  have hf := bn ev hf
  clear ev
  refine lv_aload_n hx hb d_Sc_isZero_15 rfl (lv_at hl 0 rfl) ?_
  refine lv_iconst (v := 4) hx hb d_Sc_isZero_16 (by decide) ?_
  refine va_lald hx hb hK hP 0 2 rfl rfl (inb_in (by decide)) d_Sc_isZero_17 ?_
  refine lv_topl (fun v8 ev => ?_)
  have hf := bn ev hf
  clear ev
  refine lv_lor hx hb d_Sc_isZero_18 ?_
  refine lv_topl (fun v9 ev => ?_)
  have hf := bn ev hf
  clear ev
  refine lv_lconst (v := 0) hx hb d_Sc_isZero_19 (by decide) ?_
  refine W.lcmp hx hb d_Sc_isZero_20 ?_
  refine lv_if_ne (tgt := 28) hx hb d_Sc_isZero_21 (by decide) (fun cx => ?_) (fun cx => ?_)
  · have hf := ifn cx hf
    refine lv_iconst (v := 0) hx hb d_Sc_isZero_28 (by decide) ?_
    obtain rfl := Option.some.inj hf
    exact q_rz hx hb hr hlocks hK hP hD hS (isb_n (v := 0) (by decide)) d_Sc_isZero_29
  · have hf := ifp cx hf
    refine lv_iconst (v := 1) hx hb d_Sc_isZero_24 (by decide) ?_
    refine lv_goto (tgt := 29) hx hb d_Sc_isZero_25 (by decide) ?_
    obtain rfl := Option.some.inj hf
    exact q_rz hx hb hr hlocks hK hP hD hS (isb_n (v := 1) (by decide)) d_Sc_isZero_29
theorem c_Sc_isZero (l : Launch) (D : va_G) (cy : Nat → ClassId) (ad : Nat → Nat) (fu : Nat) (b0 : Nat) (h0 : Nat → Int64) (res : Int32) (hf : x_Sc_isZero fu h0 = some res) (sz : Nat) : Met l ({ cls := "CoinKeeper$Scalar", name := "isZero", desc := "([J)Z" } : Jvm.MethodName) (.code ({ cls := "CoinKeeper$Scalar", name := "isZero", desc := "([J)Z" } : Jvm.MethodName) b_Sc_isZero 1 (some .boolean) :: gw) rm_Sc_isZero (va_Pc [.ref b0] (Pr D cy ad [(b0, .inl (cy 2, 5, .inr (.inl h0)))] sz)) (q_Sc_isZero D cy (va_A [(b0, .inl (cy 2, 5, .inr (.inl h0)))] sz) b0 h0 res) 0 0 (va_A [(b0, .inl (cy 2, 5, .inr (.inl h0)))] sz) :=
  q_met (Qc := fun A => q_Sc_isZero D cy A b0 h0 res) (by decide) rfl rfl (Nat.le_of_ble_eq_true rfl) (fun p e s m below meth c ls F hP hD hS hl => we_Sc_isZero (fu := fu) F  res hf _ _ _ hP hD hS hl) sz
abbrev b_Sc_bits : ByteArray := prog_10_method_5_code
theorem d_Sc_bits_0 : decode b_Sc_bits 0 = .ok (.iload_n 1, 1) := by decide +kernel
theorem d_Sc_bits_1 : decode b_Sc_bits 1 = .ok (.bipush 52, 2) := by decide +kernel
theorem d_Sc_bits_3 : decode b_Sc_bits 3 = .ok (.idiv, 1) := by decide +kernel
theorem d_Sc_bits_4 : decode b_Sc_bits 4 = .ok (.istore_n 3, 1) := by decide +kernel
theorem d_Sc_bits_5 : decode b_Sc_bits 5 = .ok (.iload_n 1, 1) := by decide +kernel
theorem d_Sc_bits_6 : decode b_Sc_bits 6 = .ok (.bipush 52, 2) := by decide +kernel
theorem d_Sc_bits_8 : decode b_Sc_bits 8 = .ok (.irem, 1) := by decide +kernel
theorem d_Sc_bits_9 : decode b_Sc_bits 9 = .ok (.istore 4, 2) := by decide +kernel
theorem d_Sc_bits_11 : decode b_Sc_bits 11 = .ok (.iload_n 3, 1) := by decide +kernel
theorem d_Sc_bits_12 : decode b_Sc_bits 12 = .ok (.iconst 5, 1) := by decide +kernel
theorem d_Sc_bits_13 : decode b_Sc_bits 13 = .ok (.if_icmp .ge 12, 3) := by decide +kernel
theorem d_Sc_bits_16 : decode b_Sc_bits 16 = .ok (.aload_n 0, 1) := by decide +kernel
theorem d_Sc_bits_17 : decode b_Sc_bits 17 = .ok (.iload_n 3, 1) := by decide +kernel
theorem d_Sc_bits_18 : decode b_Sc_bits 18 = .ok (.laload, 1) := by decide +kernel
theorem d_Sc_bits_19 : decode b_Sc_bits 19 = .ok (.iload 4, 2) := by decide +kernel
theorem d_Sc_bits_21 : decode b_Sc_bits 21 = .ok (.lshr, 1) := by decide +kernel
theorem d_Sc_bits_22 : decode b_Sc_bits 22 = .ok (.goto 4, 3) := by decide +kernel
theorem d_Sc_bits_25 : decode b_Sc_bits 25 = .ok (.lconst 0, 1) := by decide +kernel
theorem d_Sc_bits_26 : decode b_Sc_bits 26 = .ok (.lstore 5, 2) := by decide +kernel
theorem d_Sc_bits_28 : decode b_Sc_bits 28 = .ok (.iload 4, 2) := by decide +kernel
theorem d_Sc_bits_30 : decode b_Sc_bits 30 = .ok (.iload_n 2, 1) := by decide +kernel
theorem d_Sc_bits_31 : decode b_Sc_bits 31 = .ok (.iadd, 1) := by decide +kernel
theorem d_Sc_bits_32 : decode b_Sc_bits 32 = .ok (.bipush 52, 2) := by decide +kernel
theorem d_Sc_bits_34 : decode b_Sc_bits 34 = .ok (.if_icmp .le 26, 3) := by decide +kernel
theorem d_Sc_bits_37 : decode b_Sc_bits 37 = .ok (.iload_n 3, 1) := by decide +kernel
theorem d_Sc_bits_38 : decode b_Sc_bits 38 = .ok (.iconst 1, 1) := by decide +kernel
theorem d_Sc_bits_39 : decode b_Sc_bits 39 = .ok (.iadd, 1) := by decide +kernel
theorem d_Sc_bits_40 : decode b_Sc_bits 40 = .ok (.iconst 5, 1) := by decide +kernel
theorem d_Sc_bits_41 : decode b_Sc_bits 41 = .ok (.if_icmp .ge 19, 3) := by decide +kernel
theorem d_Sc_bits_44 : decode b_Sc_bits 44 = .ok (.lload 5, 2) := by decide +kernel
theorem d_Sc_bits_46 : decode b_Sc_bits 46 = .ok (.aload_n 0, 1) := by decide +kernel
theorem d_Sc_bits_47 : decode b_Sc_bits 47 = .ok (.iload_n 3, 1) := by decide +kernel
theorem d_Sc_bits_48 : decode b_Sc_bits 48 = .ok (.iconst 1, 1) := by decide +kernel
theorem d_Sc_bits_49 : decode b_Sc_bits 49 = .ok (.iadd, 1) := by decide +kernel
theorem d_Sc_bits_50 : decode b_Sc_bits 50 = .ok (.laload, 1) := by decide +kernel
theorem d_Sc_bits_51 : decode b_Sc_bits 51 = .ok (.bipush 52, 2) := by decide +kernel
theorem d_Sc_bits_53 : decode b_Sc_bits 53 = .ok (.iload 4, 2) := by decide +kernel
theorem d_Sc_bits_55 : decode b_Sc_bits 55 = .ok (.isub, 1) := by decide +kernel
theorem d_Sc_bits_56 : decode b_Sc_bits 56 = .ok (.lshl, 1) := by decide +kernel
theorem d_Sc_bits_57 : decode b_Sc_bits 57 = .ok (.lor, 1) := by decide +kernel
theorem d_Sc_bits_58 : decode b_Sc_bits 58 = .ok (.lstore 5, 2) := by decide +kernel
theorem d_Sc_bits_60 : decode b_Sc_bits 60 = .ok (.lload 5, 2) := by decide +kernel
theorem d_Sc_bits_62 : decode b_Sc_bits 62 = .ok (.l2i, 1) := by decide +kernel
theorem d_Sc_bits_63 : decode b_Sc_bits 63 = .ok (.iconst 1, 1) := by decide +kernel
theorem d_Sc_bits_64 : decode b_Sc_bits 64 = .ok (.iload_n 2, 1) := by decide +kernel
theorem d_Sc_bits_65 : decode b_Sc_bits 65 = .ok (.ishl, 1) := by decide +kernel
theorem d_Sc_bits_66 : decode b_Sc_bits 66 = .ok (.iconst 1, 1) := by decide +kernel
theorem d_Sc_bits_67 : decode b_Sc_bits 67 = .ok (.isub, 1) := by decide +kernel
theorem d_Sc_bits_68 : decode b_Sc_bits 68 = .ok (.iand, 1) := by decide +kernel
theorem d_Sc_bits_69 : decode b_Sc_bits 69 = .ok (.ireturn, 1) := by decide +kernel
abbrev rm_Sc_bits : Room := { frames := 0, cells := 0, slots := 0, locals := 0 }
abbrev q_Sc_bits (D : va_G) (cy : Nat → ClassId) (A : Nat → Prop) (b0 : Nat) (h0 : Nat → Int64) (res : Int32) : Array Value → State → Outcome → State → Prop := va_Qi (fun r' (_ : Unit) => r' = res) (fun _ t => Po D cy A [(b0, .inl (cy 2, 5, .inr (.inl h0)))] t) A
def I_Sc_bits_60 (p : Program) (l : Launch) (e : Env) (s : State) (m : MethodId) (args : Array Value) (below : List Frame) (meth : Method) (c : Code) (D : va_G) (cy : Nat → ClassId) (A : Nat → Prop) (ad : Nat → Nat) (b0 : Nat) (h0 : Nat → Int64) (k : Int32 → Int64 → Option (Int32)) : Prop :=
  ∀ (x2 : Int32) (x5 : Int64) (res : Int32), k x2 x5 = some res → ∀ (H : Heap) (locs : List Loc) (ls : Array Slot), va_P D classes [(b0, .inl (cy 2, 5, .inr (.inl h0)))] H → va_D A [(b0, .inl (cy 2, 5, .inr (.inl h0)))] → va_S A s.heap H locs → lv_has ls 7 [(2, .int x2), (5, .long x5)] → W p l e rm_Sc_bits s m args below meth c H locs 0 0 (MQ below (q_Sc_bits D cy A b0 h0 res) args s 0 0 A) (F0 m 60 ls [])
def I_Sc_bits_26 (p : Program) (l : Launch) (e : Env) (s : State) (m : MethodId) (args : Array Value) (below : List Frame) (meth : Method) (c : Code) (D : va_G) (cy : Nat → ClassId) (A : Nat → Prop) (ad : Nat → Nat) (b0 : Nat) (h0 : Nat → Int64) (k : Int32 → Int32 → Int32 → Int64 → Option (Int32)) : Prop :=
  ∀ (x2 : Int32) (x3 : Int32) (x4 : Int32) (y0 : Int64) (res : Int32), k x2 x3 x4 y0 = some res → ∀ (H : Heap) (locs : List Loc) (ls : Array Slot), va_P D classes [(b0, .inl (cy 2, 5, .inr (.inl h0)))] H → va_D A [(b0, .inl (cy 2, 5, .inr (.inl h0)))] → va_S A s.heap H locs → lv_has ls 7 [(0, .ref b0), (2, .int x2), (3, .int x3), (4, .int x4)] → W p l e rm_Sc_bits s m args below meth c H locs 0 0 (MQ below (q_Sc_bits D cy A b0 h0 res) args s 0 0 A) (F0 m 26 ls [.long y0])
def I_Sc_bits_e (p : Program) (l : Launch) (e : Env) (s : State) (m : MethodId) (args : Array Value) (below : List Frame) (meth : Method) (c : Code) (D : va_G) (cy : Nat → ClassId) (A : Nat → Prop) (ad : Nat → Nat) (b0 : Nat) (h0 : Nat → Int64) (k : Int32 → Int32 → Option (Int32)) : Prop :=
  ∀ (a1 : Int32) (a2 : Int32) (res : Int32), k a1 a2 = some res → ∀ (H : Heap) (locs : List Loc) (ls : Array Slot), va_P D classes [(b0, .inl (cy 2, 5, .inr (.inl h0)))] H → va_D A [(b0, .inl (cy 2, 5, .inr (.inl h0)))] → va_S A s.heap H locs → lv_has ls 7 [(0, .ref b0), (1, .int a1), (2, .int a2)] → W p l e rm_Sc_bits s m args below meth c H locs 0 0 (MQ below (q_Sc_bits D cy A b0 h0 res) args s 0 0 A) (F0 m 0 ls [])
set_option maxHeartbeats 8000000 in
set_option maxRecDepth 100000 in
theorem wb_Sc_bits_60 {p : Program} {l : Launch} {e : Env} {s : State} {m : MethodId} {args : Array Value} {below : List Frame} {meth : Method} {c : Code} {D : va_G} {cy : Nat → ClassId} {A : Nat → Prop} {ad : Nat → Nat} {b0 : Nat} {h0 : Nat → Int64} {fu : Nat} (F : Fx p s m args meth c b_Sc_bits 7 "CoinKeeper$Scalar" "bits" (some .int) D cy ad A) : I_Sc_bits_60 p l e s m args below meth c D cy A ad b0 h0 (xb_Sc_bits_60 fu h0) := by
  obtain ⟨hx, hb, hr, hml, hown, hts, hlocks, hK, hA, hSt, hnm, hex⟩ := id F
  intro x2 x5 res hf H locs ls hP hD hS hl
  unfold xb_Sc_bits_60 at hf
  refine lv_lload hx hb d_Sc_bits_60 (lv_at hl 1 rfl) ?_
  refine lv_l2i hx hb d_Sc_bits_62 rfl ?_
  refine lv_topi (fun v1 ev => ?_)
  have hf := bn ev hf
  clear ev
  refine lv_iconst (v := 1) hx hb d_Sc_bits_63 (by decide) ?_
  refine lv_iload_n hx hb d_Sc_bits_64 rfl (lv_at hl 0 rfl) ?_
  refine lv_ishl hx hb d_Sc_bits_65 ?_
  refine lv_topi (fun v2 ev => ?_)
  have hf := bn ev hf
  clear ev
  refine lv_iconst (v := 1) hx hb d_Sc_bits_66 (by decide) ?_
  refine lv_isub hx hb d_Sc_bits_67 ?_
  refine lv_iand hx hb d_Sc_bits_68 ?_
  refine lv_topi (fun v3 ev => ?_)
  have hf := bn ev hf
  clear ev
  obtain rfl := Option.some.inj hf
  exact q_ri hx hb hr hlocks hK hP hD hS d_Sc_bits_69
set_option maxHeartbeats 8000000 in
set_option maxRecDepth 100000 in
theorem wb_Sc_bits_26 {p : Program} {l : Launch} {e : Env} {s : State} {m : MethodId} {args : Array Value} {below : List Frame} {meth : Method} {c : Code} {D : va_G} {cy : Nat → ClassId} {A : Nat → Prop} {ad : Nat → Nat} {b0 : Nat} {h0 : Nat → Int64} {fu : Nat} (F : Fx p s m args meth c b_Sc_bits 7 "CoinKeeper$Scalar" "bits" (some .int) D cy ad A) : I_Sc_bits_26 p l e s m args below meth c D cy A ad b0 h0 (xb_Sc_bits_26 fu h0) := by
  obtain ⟨hx, hb, hr, hml, hown, hts, hlocks, hK, hA, hSt, hnm, hex⟩ := id F
  intro x2 x3 x4 y0 res hf H locs ls hP hD hS hl
  unfold xb_Sc_bits_26 at hf
  refine lv_lstore (lv' := [(5, .long y0), (0, .ref b0), (2, .int x2), (3, .int x3), (4, .int x4)]) hx hb d_Sc_bits_26 hl (by decide) rfl (fun ls hl => ?_)
  refine lv_iload hx hb d_Sc_bits_28 (lv_at hl 4 rfl) ?_
  refine lv_iload_n hx hb d_Sc_bits_30 rfl (lv_at hl 2 rfl) ?_
  refine lv_iadd hx hb d_Sc_bits_31 ?_
  refine lv_topi (fun v1 ev => ?_)
  have hf := bn ev hf
  clear ev
  refine lv_bipush (v := 52) hx hb d_Sc_bits_32 (by decide) ?_
  refine lv_icmp_le (tgt := 60) hx hb d_Sc_bits_34 (by decide) (fun cx => ?_) (fun cx => ?_)
  · have hf := ifp cx hf
    exact wb_Sc_bits_60 (fu := fu) F _ _ _ hf _ _ _ hP hD hS (lv_sub hl [2, 0] rfl)
  · have hf := ifn cx hf
    refine lv_iload_n hx hb d_Sc_bits_37 rfl (lv_at hl 3 rfl) ?_
    refine lv_iconst (v := 1) hx hb d_Sc_bits_38 (by decide) ?_
    refine lv_iadd hx hb d_Sc_bits_39 ?_
    refine lv_topi (fun v2 ev => ?_)
    have hf := bn ev hf
    clear ev
    refine lv_iconst (v := 5) hx hb d_Sc_bits_40 (by decide) ?_
    refine lv_icmp_ge (tgt := 60) hx hb d_Sc_bits_41 (by decide) (fun cx => ?_) (fun cx => ?_)
    · have hf := ifp cx hf
      exact wb_Sc_bits_60 (fu := fu) F _ _ _ hf _ _ _ hP hD hS (lv_sub hl [2, 0] rfl)
    · have hf := ifn cx hf
      refine lv_lload hx hb d_Sc_bits_44 (lv_at hl 0 rfl) ?_
      refine lv_aload_n hx hb d_Sc_bits_46 rfl (lv_at hl 1 rfl) ?_
      refine lv_iload_n hx hb d_Sc_bits_47 rfl (lv_at hl 3 rfl) ?_
      refine lv_iconst (v := 1) hx hb d_Sc_bits_48 (by decide) ?_
      refine lv_iadd hx hb d_Sc_bits_49 ?_
      refine lv_topi (fun v3 ev => ?_)
      have hf := bn ev hf
      clear ev
      obtain ⟨hg, hf⟩ := gdp hf
      refine va_lald hx hb hK hP 0 2 rfl rfl (inb_in hg) d_Sc_bits_50 ?_
      refine lv_topl (fun v4 ev => ?_)
      have hf := bn ev hf
      clear ev
      refine lv_bipush (v := 52) hx hb d_Sc_bits_51 (by decide) ?_
      refine lv_iload hx hb d_Sc_bits_53 (lv_at hl 4 rfl) ?_
      refine lv_isub hx hb d_Sc_bits_55 ?_
      refine lv_lshl hx hb d_Sc_bits_56 rfl ?_
      refine lv_lor hx hb d_Sc_bits_57 ?_
      refine lv_topl (fun v5 ev => ?_)
      have hf := bn ev hf
      clear ev
      refine lv_lstore (lv' := [(5, .long v5), (0, .ref b0), (2, .int x2), (3, .int x3), (4, .int x4)]) hx hb d_Sc_bits_58 hl (by decide) rfl (fun ls hl => ?_)
      exact wb_Sc_bits_60 (fu := fu) F _ _ _ hf _ _ _ hP hD hS (lv_sub hl [2, 0] rfl)
set_option maxHeartbeats 8000000 in
set_option maxRecDepth 100000 in
theorem we_Sc_bits {p : Program} {l : Launch} {e : Env} {s : State} {m : MethodId} {args : Array Value} {below : List Frame} {meth : Method} {c : Code} {D : va_G} {cy : Nat → ClassId} {A : Nat → Prop} {ad : Nat → Nat} {b0 : Nat} {h0 : Nat → Int64} {fu : Nat} (F : Fx p s m args meth c b_Sc_bits 7 "CoinKeeper$Scalar" "bits" (some .int) D cy ad A) : I_Sc_bits_e p l e s m args below meth c D cy A ad b0 h0 (x_Sc_bits fu h0) := by
  obtain ⟨hx, hb, hr, hml, hown, hts, hlocks, hK, hA, hSt, hnm, hex⟩ := id F
  intro a1 a2 res hf H locs ls hP hD hS hl
  unfold x_Sc_bits at hf
  refine lv_iload_n hx hb d_Sc_bits_0 rfl (lv_at hl 1 rfl) ?_
  refine lv_bipush (v := 52) hx hb d_Sc_bits_1 (by decide) ?_
  refine lv_idiv hx hb d_Sc_bits_3 (by decide) ?_
  refine lv_topi (fun v1 ev => ?_)
  have hf := bn ev hf
  clear ev
  refine lv_istore_n (lv' := [(3, .int v1), (0, .ref b0), (1, .int a1), (2, .int a2)]) hx hb d_Sc_bits_4 rfl hl (by decide) rfl (fun ls hl => ?_)
  refine lv_iload_n hx hb d_Sc_bits_5 rfl (lv_at hl 2 rfl) ?_
  refine lv_bipush (v := 52) hx hb d_Sc_bits_6 (by decide) ?_
  refine lv_irem hx hb d_Sc_bits_8 (by decide) ?_
  refine lv_topi (fun v2 ev => ?_)
  have hf := bn ev hf
  clear ev
  refine lv_istore (lv' := [(4, .int v2), (3, .int v1), (0, .ref b0), (1, .int a1), (2, .int a2)]) hx hb d_Sc_bits_9 hl (by decide) rfl (fun ls hl => ?_)
  refine lv_iload_n hx hb d_Sc_bits_11 rfl (lv_at hl 1 rfl) ?_
  refine lv_iconst (v := 5) hx hb d_Sc_bits_12 (by decide) ?_
  refine lv_icmp_ge (tgt := 25) hx hb d_Sc_bits_13 (by decide) (fun cx => ?_) (fun cx => ?_)
  · have hf := ifp cx hf
    refine lv_lconst (v := 0) hx hb d_Sc_bits_25 (by decide) ?_
    exact wb_Sc_bits_26 (fu := fu) F _ _ _ _ _ hf _ _ _ hP hD hS (lv_sub hl [2, 4, 1, 0] rfl)
  · have hf := ifn cx hf
    refine lv_aload_n hx hb d_Sc_bits_16 rfl (lv_at hl 2 rfl) ?_
    refine lv_iload_n hx hb d_Sc_bits_17 rfl (lv_at hl 1 rfl) ?_
    obtain ⟨hg, hf⟩ := gdp hf
    refine va_lald hx hb hK hP 0 2 rfl rfl (inb_in hg) d_Sc_bits_18 ?_
    refine lv_topl (fun v3 ev => ?_)
    have hf := bn ev hf
    clear ev
    refine lv_iload hx hb d_Sc_bits_19 (lv_at hl 0 rfl) ?_
    refine lv_lshr hx hb d_Sc_bits_21 rfl ?_
    refine lv_goto (tgt := 26) hx hb d_Sc_bits_22 (by decide) ?_
    exact wb_Sc_bits_26 (fu := fu) F _ _ _ _ _ hf _ _ _ hP hD hS (lv_sub hl [2, 4, 1, 0] rfl)
theorem c_Sc_bits (l : Launch) (D : va_G) (cy : Nat → ClassId) (ad : Nat → Nat) (fu : Nat) (b0 : Nat) (h0 : Nat → Int64) (a1 : Int32) (a2 : Int32) (res : Int32) (hf : x_Sc_bits fu h0 a1 a2 = some res) (sz : Nat) : Met l ({ cls := "CoinKeeper$Scalar", name := "bits", desc := "([JII)I" } : Jvm.MethodName) (.code ({ cls := "CoinKeeper$Scalar", name := "bits", desc := "([JII)I" } : Jvm.MethodName) b_Sc_bits 7 (some .int) :: gw) rm_Sc_bits (va_Pc [.ref b0, .int a1, .int a2] (Pr D cy ad [(b0, .inl (cy 2, 5, .inr (.inl h0)))] sz)) (q_Sc_bits D cy (va_A [(b0, .inl (cy 2, 5, .inr (.inl h0)))] sz) b0 h0 res) 0 0 (va_A [(b0, .inl (cy 2, 5, .inr (.inl h0)))] sz) :=
  q_met (Qc := fun A => q_Sc_bits D cy A b0 h0 res) (by decide) rfl rfl (Nat.le_of_ble_eq_true rfl) (fun p e s m below meth c ls F hP hD hS hl => we_Sc_bits (fu := fu) F a1 a2 res hf _ _ _ hP hD hS hl) sz
abbrev b_Sc_add : ByteArray := prog_10_method_6_code
theorem d_Sc_add_0 : decode b_Sc_add 0 = .ok (.lconst 0, 1) := by decide +kernel
theorem d_Sc_add_1 : decode b_Sc_add 1 = .ok (.lstore_n 2, 1) := by decide +kernel
theorem d_Sc_add_2 : decode b_Sc_add 2 = .ok (.iconst 0, 1) := by decide +kernel
theorem d_Sc_add_3 : decode b_Sc_add 3 = .ok (.istore 4, 2) := by decide +kernel
theorem d_Sc_add_5 : decode b_Sc_add 5 = .ok (.iload 4, 2) := by decide +kernel
theorem d_Sc_add_7 : decode b_Sc_add 7 = .ok (.iconst 5, 1) := by decide +kernel
theorem d_Sc_add_8 : decode b_Sc_add 8 = .ok (.if_icmp .ge 45, 3) := by decide +kernel
theorem d_Sc_add_11 : decode b_Sc_add 11 = .ok (.lload_n 2, 1) := by decide +kernel
theorem d_Sc_add_12 : decode b_Sc_add 12 = .ok (.aload_n 0, 1) := by decide +kernel
theorem d_Sc_add_13 : decode b_Sc_add 13 = .ok (.iload 4, 2) := by decide +kernel
theorem d_Sc_add_15 : decode b_Sc_add 15 = .ok (.laload, 1) := by decide +kernel
theorem d_Sc_add_16 : decode b_Sc_add 16 = .ok (.aload_n 1, 1) := by decide +kernel
theorem d_Sc_add_17 : decode b_Sc_add 17 = .ok (.iload 4, 2) := by decide +kernel
theorem d_Sc_add_19 : decode b_Sc_add 19 = .ok (.laload, 1) := by decide +kernel
theorem d_Sc_add_20 : decode b_Sc_add 20 = .ok (.ladd, 1) := by decide +kernel
theorem d_Sc_add_21 : decode b_Sc_add 21 = .ok (.ladd, 1) := by decide +kernel
theorem d_Sc_add_22 : decode b_Sc_add 22 = .ok (.lstore_n 2, 1) := by decide +kernel
theorem d_Sc_add_23 : decode b_Sc_add 23 = .ok (.aload_n 0, 1) := by decide +kernel
theorem d_Sc_add_24 : decode b_Sc_add 24 = .ok (.iload 4, 2) := by decide +kernel
theorem d_Sc_add_26 : decode b_Sc_add 26 = .ok (.iload 4, 2) := by decide +kernel
theorem d_Sc_add_28 : decode b_Sc_add 28 = .ok (.iconst 4, 1) := by decide +kernel
theorem d_Sc_add_29 : decode b_Sc_add 29 = .ok (.if_icmp .ge 11, 3) := by decide +kernel
theorem d_Sc_add_32 : decode b_Sc_add 32 = .ok (.lload_n 2, 1) := by decide +kernel
theorem d_Sc_add_33 : decode b_Sc_add 33 = .ok (.ldc2_w 11, 3) := by decide +kernel
theorem d_Sc_add_36 : decode b_Sc_add 36 = .ok (.land, 1) := by decide +kernel
theorem d_Sc_add_37 : decode b_Sc_add 37 = .ok (.goto 4, 3) := by decide +kernel
theorem d_Sc_add_40 : decode b_Sc_add 40 = .ok (.lload_n 2, 1) := by decide +kernel
theorem d_Sc_add_41 : decode b_Sc_add 41 = .ok (.lastore, 1) := by decide +kernel
theorem d_Sc_add_42 : decode b_Sc_add 42 = .ok (.lload_n 2, 1) := by decide +kernel
theorem d_Sc_add_43 : decode b_Sc_add 43 = .ok (.bipush 52, 2) := by decide +kernel
theorem d_Sc_add_45 : decode b_Sc_add 45 = .ok (.lshr, 1) := by decide +kernel
theorem d_Sc_add_46 : decode b_Sc_add 46 = .ok (.lstore_n 2, 1) := by decide +kernel
theorem d_Sc_add_47 : decode b_Sc_add 47 = .ok (.iinc 4 1, 3) := by decide +kernel
theorem d_Sc_add_50 : decode b_Sc_add 50 = .ok (.goto (-45), 3) := by decide +kernel
theorem d_Sc_add_53 : decode b_Sc_add 53 = .ok (.return_, 1) := by decide +kernel
abbrev rm_Sc_add : Room := { frames := 0, cells := 0, slots := 0, locals := 0 }
abbrev q_Sc_add (D : va_G) (cy : Nat → ClassId) (A : Nat → Prop) (b0 : Nat) (b1 : Nat) (h1 : Nat → Int64) (res : (Nat → Int64)) : Array Value → State → Outcome → State → Prop := va_Qv (fun (_ : Unit) => True) (fun _ t => Po D cy A [(b0, .inl (cy 2, 5, .inr (.inl res))), (b1, .inl (cy 2, 5, .inr (.inl h1)))] t) A
def I_Sc_add_41 (p : Program) (l : Launch) (e : Env) (s : State) (m : MethodId) (args : Array Value) (below : List Frame) (meth : Method) (c : Code) (D : va_G) (cy : Nat → ClassId) (A : Nat → Prop) (ad : Nat → Nat) (b0 : Nat) (b1 : Nat) (h1 : Nat → Int64) (k : Int64 → Int32 → Int64 → Int32 → (Nat → Int64) → Option ((Nat → Int64))) : Prop :=
  ∀ (x2 : Int64) (x4 : Int32) (y0 : Int64) (y1 : Int32) (u0 : Nat → Int64) (res : (Nat → Int64)), k x2 x4 y0 y1 u0 = some res → ∀ (H : Heap) (locs : List Loc) (ls : Array Slot), va_P D classes [(b0, .inl (cy 2, 5, .inr (.inl u0))), (b1, .inl (cy 2, 5, .inr (.inl h1)))] H → va_D A [(b0, .inl (cy 2, 5, .inr (.inl u0))), (b1, .inl (cy 2, 5, .inr (.inl h1)))] → va_S A s.heap H locs → lv_has ls 5 [(0, .ref b0), (1, .ref b1), (2, .long x2), (4, .int x4)] → W p l e rm_Sc_add s m args below meth c H locs 0 0 (MQ below (q_Sc_add D cy A b0 b1 h1 res) args s 0 0 A) (F0 m 41 ls [.long y0, .int y1, .ref b0])
def I_Sc_add_5 (p : Program) (l : Launch) (e : Env) (s : State) (m : MethodId) (args : Array Value) (below : List Frame) (meth : Method) (c : Code) (D : va_G) (cy : Nat → ClassId) (A : Nat → Prop) (ad : Nat → Nat) (b0 : Nat) (b1 : Nat) (h1 : Nat → Int64) (k : Int64 → Int32 → (Nat → Int64) → Option ((Nat → Int64))) : Prop :=
  ∀ (x2 : Int64) (x4 : Int32) (u0 : Nat → Int64) (res : (Nat → Int64)), k x2 x4 u0 = some res → ∀ (H : Heap) (locs : List Loc) (ls : Array Slot), va_P D classes [(b0, .inl (cy 2, 5, .inr (.inl u0))), (b1, .inl (cy 2, 5, .inr (.inl h1)))] H → va_D A [(b0, .inl (cy 2, 5, .inr (.inl u0))), (b1, .inl (cy 2, 5, .inr (.inl h1)))] → va_S A s.heap H locs → lv_has ls 5 [(0, .ref b0), (1, .ref b1), (2, .long x2), (4, .int x4)] → W p l e rm_Sc_add s m args below meth c H locs 0 0 (MQ below (q_Sc_add D cy A b0 b1 h1 res) args s 0 0 A) (F0 m 5 ls [])
def I_Sc_add_e (p : Program) (l : Launch) (e : Env) (s : State) (m : MethodId) (args : Array Value) (below : List Frame) (meth : Method) (c : Code) (D : va_G) (cy : Nat → ClassId) (A : Nat → Prop) (ad : Nat → Nat) (b0 : Nat) (b1 : Nat) (h1 : Nat → Int64) (k : (Nat → Int64) → Option ((Nat → Int64))) : Prop :=
  ∀ (u0 : Nat → Int64) (res : (Nat → Int64)), k u0 = some res → ∀ (H : Heap) (locs : List Loc) (ls : Array Slot), va_P D classes [(b0, .inl (cy 2, 5, .inr (.inl u0))), (b1, .inl (cy 2, 5, .inr (.inl h1)))] H → va_D A [(b0, .inl (cy 2, 5, .inr (.inl u0))), (b1, .inl (cy 2, 5, .inr (.inl h1)))] → va_S A s.heap H locs → lv_has ls 5 [(0, .ref b0), (1, .ref b1)] → W p l e rm_Sc_add s m args below meth c H locs 0 0 (MQ below (q_Sc_add D cy A b0 b1 h1 res) args s 0 0 A) (F0 m 0 ls [])
set_option maxHeartbeats 8000000 in
set_option maxRecDepth 100000 in
theorem wb_Sc_add_41 {p : Program} {l : Launch} {e : Env} {s : State} {m : MethodId} {args : Array Value} {below : List Frame} {meth : Method} {c : Code} {D : va_G} {cy : Nat → ClassId} {A : Nat → Prop} {ad : Nat → Nat} {b0 : Nat} {b1 : Nat} {h1 : Nat → Int64} {fu : Nat} {k_5 : Int64 → Int32 → (Nat → Int64) → Option ((Nat → Int64))} (F : Fx p s m args meth c b_Sc_add 5 "CoinKeeper$Scalar" "add" none D cy ad A) (hk_5 : I_Sc_add_5 p l e s m args below meth c D cy A ad b0 b1 h1 k_5) : I_Sc_add_41 p l e s m args below meth c D cy A ad b0 b1 h1 (xb_Sc_add_41 fu h1 k_5) := by
  obtain ⟨hx, hb, hr, hml, hown, hts, hlocks, hK, hA, hSt, hnm, hex⟩ := id F
  intro x2 x4 y0 y1 u0 res hf H locs ls hP hD hS hl
  unfold xb_Sc_add_41 at hf
  obtain ⟨hg, hf⟩ := gdp hf
  refine va_last hx hb hK hP hD hS 0 2 rfl rfl (inb_in hg) d_Sc_add_41 (fun H locs hP hD hS => ?_)
  obtain ⟨f1, ev, hf⟩ := bne hf
  have hP : va_P D classes [(b0, .inl (cy 2, 5, .inr (.inl f1))), (b1, .inl (cy 2, 5, .inr (.inl h1)))] H := by rw [ev]; exact hP
  have hD : va_D A [(b0, .inl (cy 2, 5, .inr (.inl f1))), (b1, .inl (cy 2, 5, .inr (.inl h1)))] := by rw [ev]; exact hD
  clear ev
  refine lv_lload_n hx hb d_Sc_add_42 rfl (lv_at hl 2 rfl) ?_
  refine lv_bipush (v := 52) hx hb d_Sc_add_43 (by decide) ?_
  refine lv_lshr hx hb d_Sc_add_45 rfl ?_
  refine lv_topl (fun v2 ev => ?_)
  have hf := bn ev hf
  clear ev
  refine lv_lstore_n (lv' := [(2, .long v2), (0, .ref b0), (1, .ref b1), (4, .int x4)]) hx hb d_Sc_add_46 rfl hl (by decide) rfl (fun ls hl => ?_)
  obtain ⟨v3, ev, hf⟩ := bne hf
  refine lv_iinc (v := v3) (lv' := [(4, .int v3), (2, .long v2), (0, .ref b0), (1, .ref b1)]) hx hb d_Sc_add_47 hl (k := 3) rfl (by rw [ev]; rfl) (by decide) rfl (fun ls hl => ?_)
  clear ev
  refine lv_goto (tgt := 5) hx hb d_Sc_add_50 (by decide) ?_
  exact hk_5 _ _ _ _ hf _ _ _ hP hD hS (lv_sub hl [2, 3, 1, 0] rfl)
set_option maxHeartbeats 8000000 in
set_option maxRecDepth 100000 in
theorem wb_Sc_add_5 {p : Program} {l : Launch} {e : Env} {s : State} {m : MethodId} {args : Array Value} {below : List Frame} {meth : Method} {c : Code} {D : va_G} {cy : Nat → ClassId} {A : Nat → Prop} {ad : Nat → Nat} {b0 : Nat} {b1 : Nat} {h1 : Nat → Int64} {fu : Nat} {k_5 : Int64 → Int32 → (Nat → Int64) → Option ((Nat → Int64))} (F : Fx p s m args meth c b_Sc_add 5 "CoinKeeper$Scalar" "add" none D cy ad A) (hk_5 : I_Sc_add_5 p l e s m args below meth c D cy A ad b0 b1 h1 k_5) : I_Sc_add_5 p l e s m args below meth c D cy A ad b0 b1 h1 (xb_Sc_add_5 fu h1 k_5) := by
  obtain ⟨hx, hb, hr, hml, hown, hts, hlocks, hK, hA, hSt, hnm, hex⟩ := id F
  intro x2 x4 u0 res hf H locs ls hP hD hS hl
  unfold xb_Sc_add_5 at hf
  refine lv_iload hx hb d_Sc_add_5 (lv_at hl 3 rfl) ?_
  refine lv_iconst (v := 5) hx hb d_Sc_add_7 (by decide) ?_
  refine lv_icmp_ge (tgt := 53) hx hb d_Sc_add_8 (by decide) (fun cx => ?_) (fun cx => ?_)
  · have hf := ifp cx hf
    obtain rfl := Option.some.inj hf
    exact q_rv hx hb hr hlocks hK hP hD hS d_Sc_add_53
  · have hf := ifn cx hf
    refine lv_lload_n hx hb d_Sc_add_11 rfl (lv_at hl 2 rfl) ?_
    refine lv_aload_n hx hb d_Sc_add_12 rfl (lv_at hl 0 rfl) ?_
    refine lv_iload hx hb d_Sc_add_13 (lv_at hl 3 rfl) ?_
    obtain ⟨hg, hf⟩ := gdp hf
    refine va_lald hx hb hK hP 0 2 rfl rfl (inb_in hg) d_Sc_add_15 ?_
    refine lv_topl (fun v1 ev => ?_)
    have hf := bn ev hf
    clear ev
    refine lv_aload_n hx hb d_Sc_add_16 rfl (lv_at hl 1 rfl) ?_
    refine lv_iload hx hb d_Sc_add_17 (lv_at hl 3 rfl) ?_
    obtain ⟨hg, hf⟩ := gdp hf
    refine va_lald hx hb hK hP 1 2 rfl rfl (inb_in hg) d_Sc_add_19 ?_
    refine lv_topl (fun v2 ev => ?_)
    have hf := bn ev hf
    clear ev
    refine lv_ladd hx hb d_Sc_add_20 ?_
    refine lv_ladd hx hb d_Sc_add_21 ?_
    refine lv_topl (fun v3 ev => ?_)
    have hf := bn ev hf
    clear ev
    refine lv_lstore_n (lv' := [(2, .long v3), (0, .ref b0), (1, .ref b1), (4, .int x4)]) hx hb d_Sc_add_22 rfl hl (by decide) rfl (fun ls hl => ?_)
    refine lv_aload_n hx hb d_Sc_add_23 rfl (lv_at hl 1 rfl) ?_
    refine lv_iload hx hb d_Sc_add_24 (lv_at hl 3 rfl) ?_
    refine lv_iload hx hb d_Sc_add_26 (lv_at hl 3 rfl) ?_
    refine lv_iconst (v := 4) hx hb d_Sc_add_28 (by decide) ?_
    refine lv_icmp_ge (tgt := 40) hx hb d_Sc_add_29 (by decide) (fun cx => ?_) (fun cx => ?_)
    · have hf := ifp cx hf
      refine lv_lload_n hx hb d_Sc_add_40 rfl (lv_at hl 0 rfl) ?_
      exact wb_Sc_add_41 (fu := fu) F hk_5 _ _ _ _ _ _ hf _ _ _ hP hD hS (lv_sub hl [1, 2, 0, 3] rfl)
    · have hf := ifn cx hf
      refine lv_lload_n hx hb d_Sc_add_32 rfl (lv_at hl 0 rfl) ?_
      refine lv_ldc2 (v := 4503599627370495) hx hb hown (hts _ gw_1051) d_Sc_add_33 ?_
      refine lv_land hx hb d_Sc_add_36 ?_
      refine lv_goto (tgt := 41) hx hb d_Sc_add_37 (by decide) ?_
      exact wb_Sc_add_41 (fu := fu) F hk_5 _ _ _ _ _ _ hf _ _ _ hP hD hS (lv_sub hl [1, 2, 0, 3] rfl)
theorem w_Sc_add_5 {p : Program} {l : Launch} {e : Env} {s : State} {m : MethodId} {args : Array Value} {below : List Frame} {meth : Method} {c : Code} {D : va_G} {cy : Nat → ClassId} {A : Nat → Prop} {ad : Nat → Nat} {b0 : Nat} {b1 : Nat} {h1 : Nat → Int64} {fu : Nat} (F : Fx p s m args meth c b_Sc_add 5 "CoinKeeper$Scalar" "add" none D cy ad A) : ∀ n : Nat, I_Sc_add_5 p l e s m args below meth c D cy A ad b0 b1 h1 (x_Sc_add_5 fu h1 n)
  | 0 => fun _ _ _ _ hf => nomatch (show (none : Option ((Nat → Int64))) = some _ from hf)
  | n + 1 => wb_Sc_add_5 F (w_Sc_add_5 F n)
set_option maxHeartbeats 8000000 in
set_option maxRecDepth 100000 in
theorem we_Sc_add {p : Program} {l : Launch} {e : Env} {s : State} {m : MethodId} {args : Array Value} {below : List Frame} {meth : Method} {c : Code} {D : va_G} {cy : Nat → ClassId} {A : Nat → Prop} {ad : Nat → Nat} {b0 : Nat} {b1 : Nat} {h1 : Nat → Int64} {fu : Nat} (F : Fx p s m args meth c b_Sc_add 5 "CoinKeeper$Scalar" "add" none D cy ad A) : I_Sc_add_e p l e s m args below meth c D cy A ad b0 b1 h1 (x_Sc_add fu h1) := by
  obtain ⟨hx, hb, hr, hml, hown, hts, hlocks, hK, hA, hSt, hnm, hex⟩ := id F
  intro u0 res hf H locs ls hP hD hS hl
  unfold x_Sc_add at hf
  refine lv_lconst (v := 0) hx hb d_Sc_add_0 (by decide) ?_
  refine lv_lstore_n (lv' := [(2, .long (0 : Int64)), (0, .ref b0), (1, .ref b1)]) hx hb d_Sc_add_1 rfl hl (by decide) rfl (fun ls hl => ?_)
  refine lv_iconst (v := 0) hx hb d_Sc_add_2 (by decide) ?_
  refine lv_istore (lv' := [(4, .int (0 : Int32)), (2, .long (0 : Int64)), (0, .ref b0), (1, .ref b1)]) hx hb d_Sc_add_3 hl (by decide) rfl (fun ls hl => ?_)
  exact w_Sc_add_5 F fu _ _ _ _ hf _ _ _ hP hD hS (lv_sub hl [2, 3, 1, 0] rfl)
theorem c_Sc_add (l : Launch) (D : va_G) (cy : Nat → ClassId) (ad : Nat → Nat) (fu : Nat) (b0 : Nat) (b1 : Nat) (h1 : Nat → Int64) (u0 : Nat → Int64) (res : (Nat → Int64)) (hf : x_Sc_add fu h1 u0 = some res) (sz : Nat) : Met l ({ cls := "CoinKeeper$Scalar", name := "add", desc := "([J[J)V" } : Jvm.MethodName) (.code ({ cls := "CoinKeeper$Scalar", name := "add", desc := "([J[J)V" } : Jvm.MethodName) b_Sc_add 5 none :: gw) rm_Sc_add (va_Pc [.ref b0, .ref b1] (Pr D cy ad [(b0, .inl (cy 2, 5, .inr (.inl u0))), (b1, .inl (cy 2, 5, .inr (.inl h1)))] sz)) (q_Sc_add D cy (va_A [(b0, .inl (cy 2, 5, .inr (.inl u0))), (b1, .inl (cy 2, 5, .inr (.inl h1)))] sz) b0 b1 h1 res) 0 0 (va_A [(b0, .inl (cy 2, 5, .inr (.inl u0))), (b1, .inl (cy 2, 5, .inr (.inl h1)))] sz) :=
  q_met (Qc := fun A => q_Sc_add D cy A b0 b1 h1 res) (by decide) rfl rfl (Nat.le_of_ble_eq_true rfl) (fun p e s m below meth c ls F hP hD hS hl => we_Sc_add (fu := fu) F u0 res hf _ _ _ hP hD hS hl) sz
abbrev b_Sc_subtract : ByteArray := prog_10_method_7_code
theorem d_Sc_subtract_0 : decode b_Sc_subtract 0 = .ok (.lconst 0, 1) := by decide +kernel
theorem d_Sc_subtract_1 : decode b_Sc_subtract 1 = .ok (.lstore_n 2, 1) := by decide +kernel
theorem d_Sc_subtract_2 : decode b_Sc_subtract 2 = .ok (.iconst 0, 1) := by decide +kernel
theorem d_Sc_subtract_3 : decode b_Sc_subtract 3 = .ok (.istore 4, 2) := by decide +kernel
theorem d_Sc_subtract_5 : decode b_Sc_subtract 5 = .ok (.iload 4, 2) := by decide +kernel
theorem d_Sc_subtract_7 : decode b_Sc_subtract 7 = .ok (.iconst 5, 1) := by decide +kernel
theorem d_Sc_subtract_8 : decode b_Sc_subtract 8 = .ok (.if_icmp .ge 45, 3) := by decide +kernel
theorem d_Sc_subtract_11 : decode b_Sc_subtract 11 = .ok (.lload_n 2, 1) := by decide +kernel
theorem d_Sc_subtract_12 : decode b_Sc_subtract 12 = .ok (.aload_n 0, 1) := by decide +kernel
theorem d_Sc_subtract_13 : decode b_Sc_subtract 13 = .ok (.iload 4, 2) := by decide +kernel
theorem d_Sc_subtract_15 : decode b_Sc_subtract 15 = .ok (.laload, 1) := by decide +kernel
theorem d_Sc_subtract_16 : decode b_Sc_subtract 16 = .ok (.aload_n 1, 1) := by decide +kernel
theorem d_Sc_subtract_17 : decode b_Sc_subtract 17 = .ok (.iload 4, 2) := by decide +kernel
theorem d_Sc_subtract_19 : decode b_Sc_subtract 19 = .ok (.laload, 1) := by decide +kernel
theorem d_Sc_subtract_20 : decode b_Sc_subtract 20 = .ok (.lsub, 1) := by decide +kernel
theorem d_Sc_subtract_21 : decode b_Sc_subtract 21 = .ok (.ladd, 1) := by decide +kernel
theorem d_Sc_subtract_22 : decode b_Sc_subtract 22 = .ok (.lstore_n 2, 1) := by decide +kernel
theorem d_Sc_subtract_23 : decode b_Sc_subtract 23 = .ok (.aload_n 0, 1) := by decide +kernel
theorem d_Sc_subtract_24 : decode b_Sc_subtract 24 = .ok (.iload 4, 2) := by decide +kernel
theorem d_Sc_subtract_26 : decode b_Sc_subtract 26 = .ok (.iload 4, 2) := by decide +kernel
theorem d_Sc_subtract_28 : decode b_Sc_subtract 28 = .ok (.iconst 4, 1) := by decide +kernel
theorem d_Sc_subtract_29 : decode b_Sc_subtract 29 = .ok (.if_icmp .ge 11, 3) := by decide +kernel
theorem d_Sc_subtract_32 : decode b_Sc_subtract 32 = .ok (.lload_n 2, 1) := by decide +kernel
theorem d_Sc_subtract_33 : decode b_Sc_subtract 33 = .ok (.ldc2_w 11, 3) := by decide +kernel
theorem d_Sc_subtract_36 : decode b_Sc_subtract 36 = .ok (.land, 1) := by decide +kernel
theorem d_Sc_subtract_37 : decode b_Sc_subtract 37 = .ok (.goto 4, 3) := by decide +kernel
theorem d_Sc_subtract_40 : decode b_Sc_subtract 40 = .ok (.lload_n 2, 1) := by decide +kernel
theorem d_Sc_subtract_41 : decode b_Sc_subtract 41 = .ok (.lastore, 1) := by decide +kernel
theorem d_Sc_subtract_42 : decode b_Sc_subtract 42 = .ok (.lload_n 2, 1) := by decide +kernel
theorem d_Sc_subtract_43 : decode b_Sc_subtract 43 = .ok (.bipush 52, 2) := by decide +kernel
theorem d_Sc_subtract_45 : decode b_Sc_subtract 45 = .ok (.lshr, 1) := by decide +kernel
theorem d_Sc_subtract_46 : decode b_Sc_subtract 46 = .ok (.lstore_n 2, 1) := by decide +kernel
theorem d_Sc_subtract_47 : decode b_Sc_subtract 47 = .ok (.iinc 4 1, 3) := by decide +kernel
theorem d_Sc_subtract_50 : decode b_Sc_subtract 50 = .ok (.goto (-45), 3) := by decide +kernel
theorem d_Sc_subtract_53 : decode b_Sc_subtract 53 = .ok (.return_, 1) := by decide +kernel
abbrev rm_Sc_subtract : Room := { frames := 0, cells := 0, slots := 0, locals := 0 }
abbrev q_Sc_subtract (D : va_G) (cy : Nat → ClassId) (A : Nat → Prop) (b0 : Nat) (b1 : Nat) (h1 : Nat → Int64) (res : (Nat → Int64)) : Array Value → State → Outcome → State → Prop := va_Qv (fun (_ : Unit) => True) (fun _ t => Po D cy A [(b0, .inl (cy 2, 5, .inr (.inl res))), (b1, .inl (cy 2, 5, .inr (.inl h1)))] t) A
def I_Sc_subtract_41 (p : Program) (l : Launch) (e : Env) (s : State) (m : MethodId) (args : Array Value) (below : List Frame) (meth : Method) (c : Code) (D : va_G) (cy : Nat → ClassId) (A : Nat → Prop) (ad : Nat → Nat) (b0 : Nat) (b1 : Nat) (h1 : Nat → Int64) (k : Int64 → Int32 → Int64 → Int32 → (Nat → Int64) → Option ((Nat → Int64))) : Prop :=
  ∀ (x2 : Int64) (x4 : Int32) (y0 : Int64) (y1 : Int32) (u0 : Nat → Int64) (res : (Nat → Int64)), k x2 x4 y0 y1 u0 = some res → ∀ (H : Heap) (locs : List Loc) (ls : Array Slot), va_P D classes [(b0, .inl (cy 2, 5, .inr (.inl u0))), (b1, .inl (cy 2, 5, .inr (.inl h1)))] H → va_D A [(b0, .inl (cy 2, 5, .inr (.inl u0))), (b1, .inl (cy 2, 5, .inr (.inl h1)))] → va_S A s.heap H locs → lv_has ls 5 [(0, .ref b0), (1, .ref b1), (2, .long x2), (4, .int x4)] → W p l e rm_Sc_subtract s m args below meth c H locs 0 0 (MQ below (q_Sc_subtract D cy A b0 b1 h1 res) args s 0 0 A) (F0 m 41 ls [.long y0, .int y1, .ref b0])
def I_Sc_subtract_5 (p : Program) (l : Launch) (e : Env) (s : State) (m : MethodId) (args : Array Value) (below : List Frame) (meth : Method) (c : Code) (D : va_G) (cy : Nat → ClassId) (A : Nat → Prop) (ad : Nat → Nat) (b0 : Nat) (b1 : Nat) (h1 : Nat → Int64) (k : Int64 → Int32 → (Nat → Int64) → Option ((Nat → Int64))) : Prop :=
  ∀ (x2 : Int64) (x4 : Int32) (u0 : Nat → Int64) (res : (Nat → Int64)), k x2 x4 u0 = some res → ∀ (H : Heap) (locs : List Loc) (ls : Array Slot), va_P D classes [(b0, .inl (cy 2, 5, .inr (.inl u0))), (b1, .inl (cy 2, 5, .inr (.inl h1)))] H → va_D A [(b0, .inl (cy 2, 5, .inr (.inl u0))), (b1, .inl (cy 2, 5, .inr (.inl h1)))] → va_S A s.heap H locs → lv_has ls 5 [(0, .ref b0), (1, .ref b1), (2, .long x2), (4, .int x4)] → W p l e rm_Sc_subtract s m args below meth c H locs 0 0 (MQ below (q_Sc_subtract D cy A b0 b1 h1 res) args s 0 0 A) (F0 m 5 ls [])
def I_Sc_subtract_e (p : Program) (l : Launch) (e : Env) (s : State) (m : MethodId) (args : Array Value) (below : List Frame) (meth : Method) (c : Code) (D : va_G) (cy : Nat → ClassId) (A : Nat → Prop) (ad : Nat → Nat) (b0 : Nat) (b1 : Nat) (h1 : Nat → Int64) (k : (Nat → Int64) → Option ((Nat → Int64))) : Prop :=
  ∀ (u0 : Nat → Int64) (res : (Nat → Int64)), k u0 = some res → ∀ (H : Heap) (locs : List Loc) (ls : Array Slot), va_P D classes [(b0, .inl (cy 2, 5, .inr (.inl u0))), (b1, .inl (cy 2, 5, .inr (.inl h1)))] H → va_D A [(b0, .inl (cy 2, 5, .inr (.inl u0))), (b1, .inl (cy 2, 5, .inr (.inl h1)))] → va_S A s.heap H locs → lv_has ls 5 [(0, .ref b0), (1, .ref b1)] → W p l e rm_Sc_subtract s m args below meth c H locs 0 0 (MQ below (q_Sc_subtract D cy A b0 b1 h1 res) args s 0 0 A) (F0 m 0 ls [])
set_option maxHeartbeats 8000000 in
set_option maxRecDepth 100000 in
theorem wb_Sc_subtract_41 {p : Program} {l : Launch} {e : Env} {s : State} {m : MethodId} {args : Array Value} {below : List Frame} {meth : Method} {c : Code} {D : va_G} {cy : Nat → ClassId} {A : Nat → Prop} {ad : Nat → Nat} {b0 : Nat} {b1 : Nat} {h1 : Nat → Int64} {fu : Nat} {k_5 : Int64 → Int32 → (Nat → Int64) → Option ((Nat → Int64))} (F : Fx p s m args meth c b_Sc_subtract 5 "CoinKeeper$Scalar" "subtract" none D cy ad A) (hk_5 : I_Sc_subtract_5 p l e s m args below meth c D cy A ad b0 b1 h1 k_5) : I_Sc_subtract_41 p l e s m args below meth c D cy A ad b0 b1 h1 (xb_Sc_subtract_41 fu h1 k_5) := by
  obtain ⟨hx, hb, hr, hml, hown, hts, hlocks, hK, hA, hSt, hnm, hex⟩ := id F
  intro x2 x4 y0 y1 u0 res hf H locs ls hP hD hS hl
  unfold xb_Sc_subtract_41 at hf
  obtain ⟨hg, hf⟩ := gdp hf
  refine va_last hx hb hK hP hD hS 0 2 rfl rfl (inb_in hg) d_Sc_subtract_41 (fun H locs hP hD hS => ?_)
  obtain ⟨f1, ev, hf⟩ := bne hf
  have hP : va_P D classes [(b0, .inl (cy 2, 5, .inr (.inl f1))), (b1, .inl (cy 2, 5, .inr (.inl h1)))] H := by rw [ev]; exact hP
  have hD : va_D A [(b0, .inl (cy 2, 5, .inr (.inl f1))), (b1, .inl (cy 2, 5, .inr (.inl h1)))] := by rw [ev]; exact hD
  clear ev
  refine lv_lload_n hx hb d_Sc_subtract_42 rfl (lv_at hl 2 rfl) ?_
  refine lv_bipush (v := 52) hx hb d_Sc_subtract_43 (by decide) ?_
  refine lv_lshr hx hb d_Sc_subtract_45 rfl ?_
  refine lv_topl (fun v2 ev => ?_)
  have hf := bn ev hf
  clear ev
  refine lv_lstore_n (lv' := [(2, .long v2), (0, .ref b0), (1, .ref b1), (4, .int x4)]) hx hb d_Sc_subtract_46 rfl hl (by decide) rfl (fun ls hl => ?_)
  obtain ⟨v3, ev, hf⟩ := bne hf
  refine lv_iinc (v := v3) (lv' := [(4, .int v3), (2, .long v2), (0, .ref b0), (1, .ref b1)]) hx hb d_Sc_subtract_47 hl (k := 3) rfl (by rw [ev]; rfl) (by decide) rfl (fun ls hl => ?_)
  clear ev
  refine lv_goto (tgt := 5) hx hb d_Sc_subtract_50 (by decide) ?_
  exact hk_5 _ _ _ _ hf _ _ _ hP hD hS (lv_sub hl [2, 3, 1, 0] rfl)
set_option maxHeartbeats 8000000 in
set_option maxRecDepth 100000 in
theorem wb_Sc_subtract_5 {p : Program} {l : Launch} {e : Env} {s : State} {m : MethodId} {args : Array Value} {below : List Frame} {meth : Method} {c : Code} {D : va_G} {cy : Nat → ClassId} {A : Nat → Prop} {ad : Nat → Nat} {b0 : Nat} {b1 : Nat} {h1 : Nat → Int64} {fu : Nat} {k_5 : Int64 → Int32 → (Nat → Int64) → Option ((Nat → Int64))} (F : Fx p s m args meth c b_Sc_subtract 5 "CoinKeeper$Scalar" "subtract" none D cy ad A) (hk_5 : I_Sc_subtract_5 p l e s m args below meth c D cy A ad b0 b1 h1 k_5) : I_Sc_subtract_5 p l e s m args below meth c D cy A ad b0 b1 h1 (xb_Sc_subtract_5 fu h1 k_5) := by
  obtain ⟨hx, hb, hr, hml, hown, hts, hlocks, hK, hA, hSt, hnm, hex⟩ := id F
  intro x2 x4 u0 res hf H locs ls hP hD hS hl
  unfold xb_Sc_subtract_5 at hf
  refine lv_iload hx hb d_Sc_subtract_5 (lv_at hl 3 rfl) ?_
  refine lv_iconst (v := 5) hx hb d_Sc_subtract_7 (by decide) ?_
  refine lv_icmp_ge (tgt := 53) hx hb d_Sc_subtract_8 (by decide) (fun cx => ?_) (fun cx => ?_)
  · have hf := ifp cx hf
    obtain rfl := Option.some.inj hf
    exact q_rv hx hb hr hlocks hK hP hD hS d_Sc_subtract_53
  · have hf := ifn cx hf
    refine lv_lload_n hx hb d_Sc_subtract_11 rfl (lv_at hl 2 rfl) ?_
    refine lv_aload_n hx hb d_Sc_subtract_12 rfl (lv_at hl 0 rfl) ?_
    refine lv_iload hx hb d_Sc_subtract_13 (lv_at hl 3 rfl) ?_
    obtain ⟨hg, hf⟩ := gdp hf
    refine va_lald hx hb hK hP 0 2 rfl rfl (inb_in hg) d_Sc_subtract_15 ?_
    refine lv_topl (fun v1 ev => ?_)
    have hf := bn ev hf
    clear ev
    refine lv_aload_n hx hb d_Sc_subtract_16 rfl (lv_at hl 1 rfl) ?_
    refine lv_iload hx hb d_Sc_subtract_17 (lv_at hl 3 rfl) ?_
    obtain ⟨hg, hf⟩ := gdp hf
    refine va_lald hx hb hK hP 1 2 rfl rfl (inb_in hg) d_Sc_subtract_19 ?_
    refine lv_topl (fun v2 ev => ?_)
    have hf := bn ev hf
    clear ev
    refine lv_lsub hx hb d_Sc_subtract_20 ?_
    refine lv_ladd hx hb d_Sc_subtract_21 ?_
    refine lv_topl (fun v3 ev => ?_)
    have hf := bn ev hf
    clear ev
    refine lv_lstore_n (lv' := [(2, .long v3), (0, .ref b0), (1, .ref b1), (4, .int x4)]) hx hb d_Sc_subtract_22 rfl hl (by decide) rfl (fun ls hl => ?_)
    refine lv_aload_n hx hb d_Sc_subtract_23 rfl (lv_at hl 1 rfl) ?_
    refine lv_iload hx hb d_Sc_subtract_24 (lv_at hl 3 rfl) ?_
    refine lv_iload hx hb d_Sc_subtract_26 (lv_at hl 3 rfl) ?_
    refine lv_iconst (v := 4) hx hb d_Sc_subtract_28 (by decide) ?_
    refine lv_icmp_ge (tgt := 40) hx hb d_Sc_subtract_29 (by decide) (fun cx => ?_) (fun cx => ?_)
    · have hf := ifp cx hf
      refine lv_lload_n hx hb d_Sc_subtract_40 rfl (lv_at hl 0 rfl) ?_
      exact wb_Sc_subtract_41 (fu := fu) F hk_5 _ _ _ _ _ _ hf _ _ _ hP hD hS (lv_sub hl [1, 2, 0, 3] rfl)
    · have hf := ifn cx hf
      refine lv_lload_n hx hb d_Sc_subtract_32 rfl (lv_at hl 0 rfl) ?_
      refine lv_ldc2 (v := 4503599627370495) hx hb hown (hts _ gw_1051) d_Sc_subtract_33 ?_
      refine lv_land hx hb d_Sc_subtract_36 ?_
      refine lv_goto (tgt := 41) hx hb d_Sc_subtract_37 (by decide) ?_
      exact wb_Sc_subtract_41 (fu := fu) F hk_5 _ _ _ _ _ _ hf _ _ _ hP hD hS (lv_sub hl [1, 2, 0, 3] rfl)
theorem w_Sc_subtract_5 {p : Program} {l : Launch} {e : Env} {s : State} {m : MethodId} {args : Array Value} {below : List Frame} {meth : Method} {c : Code} {D : va_G} {cy : Nat → ClassId} {A : Nat → Prop} {ad : Nat → Nat} {b0 : Nat} {b1 : Nat} {h1 : Nat → Int64} {fu : Nat} (F : Fx p s m args meth c b_Sc_subtract 5 "CoinKeeper$Scalar" "subtract" none D cy ad A) : ∀ n : Nat, I_Sc_subtract_5 p l e s m args below meth c D cy A ad b0 b1 h1 (x_Sc_subtract_5 fu h1 n)
  | 0 => fun _ _ _ _ hf => nomatch (show (none : Option ((Nat → Int64))) = some _ from hf)
  | n + 1 => wb_Sc_subtract_5 F (w_Sc_subtract_5 F n)
set_option maxHeartbeats 8000000 in
set_option maxRecDepth 100000 in
theorem we_Sc_subtract {p : Program} {l : Launch} {e : Env} {s : State} {m : MethodId} {args : Array Value} {below : List Frame} {meth : Method} {c : Code} {D : va_G} {cy : Nat → ClassId} {A : Nat → Prop} {ad : Nat → Nat} {b0 : Nat} {b1 : Nat} {h1 : Nat → Int64} {fu : Nat} (F : Fx p s m args meth c b_Sc_subtract 5 "CoinKeeper$Scalar" "subtract" none D cy ad A) : I_Sc_subtract_e p l e s m args below meth c D cy A ad b0 b1 h1 (x_Sc_subtract fu h1) := by
  obtain ⟨hx, hb, hr, hml, hown, hts, hlocks, hK, hA, hSt, hnm, hex⟩ := id F
  intro u0 res hf H locs ls hP hD hS hl
  unfold x_Sc_subtract at hf
  refine lv_lconst (v := 0) hx hb d_Sc_subtract_0 (by decide) ?_
  refine lv_lstore_n (lv' := [(2, .long (0 : Int64)), (0, .ref b0), (1, .ref b1)]) hx hb d_Sc_subtract_1 rfl hl (by decide) rfl (fun ls hl => ?_)
  refine lv_iconst (v := 0) hx hb d_Sc_subtract_2 (by decide) ?_
  refine lv_istore (lv' := [(4, .int (0 : Int32)), (2, .long (0 : Int64)), (0, .ref b0), (1, .ref b1)]) hx hb d_Sc_subtract_3 hl (by decide) rfl (fun ls hl => ?_)
  exact w_Sc_subtract_5 F fu _ _ _ _ hf _ _ _ hP hD hS (lv_sub hl [2, 3, 1, 0] rfl)
theorem c_Sc_subtract (l : Launch) (D : va_G) (cy : Nat → ClassId) (ad : Nat → Nat) (fu : Nat) (b0 : Nat) (b1 : Nat) (h1 : Nat → Int64) (u0 : Nat → Int64) (res : (Nat → Int64)) (hf : x_Sc_subtract fu h1 u0 = some res) (sz : Nat) : Met l ({ cls := "CoinKeeper$Scalar", name := "subtract", desc := "([J[J)V" } : Jvm.MethodName) (.code ({ cls := "CoinKeeper$Scalar", name := "subtract", desc := "([J[J)V" } : Jvm.MethodName) b_Sc_subtract 5 none :: gw) rm_Sc_subtract (va_Pc [.ref b0, .ref b1] (Pr D cy ad [(b0, .inl (cy 2, 5, .inr (.inl u0))), (b1, .inl (cy 2, 5, .inr (.inl h1)))] sz)) (q_Sc_subtract D cy (va_A [(b0, .inl (cy 2, 5, .inr (.inl u0))), (b1, .inl (cy 2, 5, .inr (.inl h1)))] sz) b0 b1 h1 res) 0 0 (va_A [(b0, .inl (cy 2, 5, .inr (.inl u0))), (b1, .inl (cy 2, 5, .inr (.inl h1)))] sz) :=
  q_met (Qc := fun A => q_Sc_subtract D cy A b0 b1 h1 res) (by decide) rfl rfl (Nat.le_of_ble_eq_true rfl) (fun p e s m below meth c ls F hP hD hS hl => we_Sc_subtract (fu := fu) F u0 res hf _ _ _ hP hD hS hl) sz
abbrev rm_Sc_add_s1x4 : Room := { frames := 0, cells := 0, slots := 0, locals := 0 }
abbrev q_Sc_add_s1x4 (D : va_G) (cy : Nat → ClassId) (A : Nat → Prop) (b0 : Nat) (res : (Nat → Int64)) : Array Value → State → Outcome → State → Prop := va_Qv (fun (_ : Unit) => True) (fun _ t => Po D cy A [(b0, .inl (cy 2, 5, .inr (.inl res)))] t) A
def I_Sc_add_s1x4_41 (p : Program) (l : Launch) (e : Env) (s : State) (m : MethodId) (args : Array Value) (below : List Frame) (meth : Method) (c : Code) (D : va_G) (cy : Nat → ClassId) (A : Nat → Prop) (ad : Nat → Nat) (b0 : Nat) (k : Int64 → Int32 → Int64 → Int32 → (Nat → Int64) → Option ((Nat → Int64))) : Prop :=
  ∀ (x2 : Int64) (x4 : Int32) (y0 : Int64) (y1 : Int32) (u0 : Nat → Int64) (res : (Nat → Int64)), k x2 x4 y0 y1 u0 = some res → ∀ (H : Heap) (locs : List Loc) (ls : Array Slot), va_P D classes [(b0, .inl (cy 2, 5, .inr (.inl u0)))] H → va_D A [(b0, .inl (cy 2, 5, .inr (.inl u0)))] → va_S A s.heap H locs → lv_has ls 5 [(0, .ref b0), (1, .ref (ad 4)), (2, .long x2), (4, .int x4)] → W p l e rm_Sc_add_s1x4 s m args below meth c H locs 0 0 (MQ below (q_Sc_add_s1x4 D cy A b0 res) args s 0 0 A) (F0 m 41 ls [.long y0, .int y1, .ref b0])
def I_Sc_add_s1x4_5 (p : Program) (l : Launch) (e : Env) (s : State) (m : MethodId) (args : Array Value) (below : List Frame) (meth : Method) (c : Code) (D : va_G) (cy : Nat → ClassId) (A : Nat → Prop) (ad : Nat → Nat) (b0 : Nat) (k : Int64 → Int32 → (Nat → Int64) → Option ((Nat → Int64))) : Prop :=
  ∀ (x2 : Int64) (x4 : Int32) (u0 : Nat → Int64) (res : (Nat → Int64)), k x2 x4 u0 = some res → ∀ (H : Heap) (locs : List Loc) (ls : Array Slot), va_P D classes [(b0, .inl (cy 2, 5, .inr (.inl u0)))] H → va_D A [(b0, .inl (cy 2, 5, .inr (.inl u0)))] → va_S A s.heap H locs → lv_has ls 5 [(0, .ref b0), (1, .ref (ad 4)), (2, .long x2), (4, .int x4)] → W p l e rm_Sc_add_s1x4 s m args below meth c H locs 0 0 (MQ below (q_Sc_add_s1x4 D cy A b0 res) args s 0 0 A) (F0 m 5 ls [])
def I_Sc_add_s1x4_e (p : Program) (l : Launch) (e : Env) (s : State) (m : MethodId) (args : Array Value) (below : List Frame) (meth : Method) (c : Code) (D : va_G) (cy : Nat → ClassId) (A : Nat → Prop) (ad : Nat → Nat) (b0 : Nat) (k : (Nat → Int64) → Option ((Nat → Int64))) : Prop :=
  ∀ (u0 : Nat → Int64) (res : (Nat → Int64)), k u0 = some res → ∀ (H : Heap) (locs : List Loc) (ls : Array Slot), va_P D classes [(b0, .inl (cy 2, 5, .inr (.inl u0)))] H → va_D A [(b0, .inl (cy 2, 5, .inr (.inl u0)))] → va_S A s.heap H locs → lv_has ls 5 [(0, .ref b0), (1, .ref (ad 4))] → W p l e rm_Sc_add_s1x4 s m args below meth c H locs 0 0 (MQ below (q_Sc_add_s1x4 D cy A b0 res) args s 0 0 A) (F0 m 0 ls [])
set_option maxHeartbeats 8000000 in
set_option maxRecDepth 100000 in
theorem wb_Sc_add_s1x4_41 {p : Program} {l : Launch} {e : Env} {s : State} {m : MethodId} {args : Array Value} {below : List Frame} {meth : Method} {c : Code} {D : va_G} {cy : Nat → ClassId} {A : Nat → Prop} {ad : Nat → Nat} {b0 : Nat} {fu : Nat} {k_5 : Int64 → Int32 → (Nat → Int64) → Option ((Nat → Int64))} (F : Fx p s m args meth c b_Sc_add 5 "CoinKeeper$Scalar" "add" none D cy ad A) (hk_5 : I_Sc_add_s1x4_5 p l e s m args below meth c D cy A ad b0 k_5) : I_Sc_add_s1x4_41 p l e s m args below meth c D cy A ad b0 (xb_Sc_add_s1x4_41 fu k_5) := by
  obtain ⟨hx, hb, hr, hml, hown, hts, hlocks, hK, hA, hSt, hnm, hex⟩ := id F
  intro x2 x4 y0 y1 u0 res hf H locs ls hP hD hS hl
  unfold xb_Sc_add_s1x4_41 at hf
  obtain ⟨hg, hf⟩ := gdp hf
  refine va_last hx hb hK hP hD hS 0 2 rfl rfl (inb_in hg) d_Sc_add_41 (fun H locs hP hD hS => ?_)
  obtain ⟨f1, ev, hf⟩ := bne hf
  have hP : va_P D classes [(b0, .inl (cy 2, 5, .inr (.inl f1)))] H := by rw [ev]; exact hP
  have hD : va_D A [(b0, .inl (cy 2, 5, .inr (.inl f1)))] := by rw [ev]; exact hD
  clear ev
  refine lv_lload_n hx hb d_Sc_add_42 rfl (lv_at hl 2 rfl) ?_
  refine lv_bipush (v := 52) hx hb d_Sc_add_43 (by decide) ?_
  refine lv_lshr hx hb d_Sc_add_45 rfl ?_
  refine lv_topl (fun v2 ev => ?_)
  have hf := bn ev hf
  clear ev
  refine lv_lstore_n (lv' := [(2, .long v2), (0, .ref b0), (1, .ref (ad 4)), (4, .int x4)]) hx hb d_Sc_add_46 rfl hl (by decide) rfl (fun ls hl => ?_)
  obtain ⟨v3, ev, hf⟩ := bne hf
  refine lv_iinc (v := v3) (lv' := [(4, .int v3), (2, .long v2), (0, .ref b0), (1, .ref (ad 4))]) hx hb d_Sc_add_47 hl (k := 3) rfl (by rw [ev]; rfl) (by decide) rfl (fun ls hl => ?_)
  clear ev
  refine lv_goto (tgt := 5) hx hb d_Sc_add_50 (by decide) ?_
  exact hk_5 _ _ _ _ hf _ _ _ hP hD hS (lv_sub hl [2, 3, 1, 0] rfl)
set_option maxHeartbeats 8000000 in
set_option maxRecDepth 100000 in
theorem wb_Sc_add_s1x4_5 {p : Program} {l : Launch} {e : Env} {s : State} {m : MethodId} {args : Array Value} {below : List Frame} {meth : Method} {c : Code} {D : va_G} {cy : Nat → ClassId} {A : Nat → Prop} {ad : Nat → Nat} {b0 : Nat} {fu : Nat} {k_5 : Int64 → Int32 → (Nat → Int64) → Option ((Nat → Int64))} (F : Fx p s m args meth c b_Sc_add 5 "CoinKeeper$Scalar" "add" none D cy ad A) (hk_5 : I_Sc_add_s1x4_5 p l e s m args below meth c D cy A ad b0 k_5) : I_Sc_add_s1x4_5 p l e s m args below meth c D cy A ad b0 (xb_Sc_add_s1x4_5 fu k_5) := by
  obtain ⟨hx, hb, hr, hml, hown, hts, hlocks, hK, hA, hSt, hnm, hex⟩ := id F
  intro x2 x4 u0 res hf H locs ls hP hD hS hl
  unfold xb_Sc_add_s1x4_5 at hf
  refine lv_iload hx hb d_Sc_add_5 (lv_at hl 3 rfl) ?_
  refine lv_iconst (v := 5) hx hb d_Sc_add_7 (by decide) ?_
  refine lv_icmp_ge (tgt := 53) hx hb d_Sc_add_8 (by decide) (fun cx => ?_) (fun cx => ?_)
  · have hf := ifp cx hf
    obtain rfl := Option.some.inj hf
    exact q_rv hx hb hr hlocks hK hP hD hS d_Sc_add_53
  · have hf := ifn cx hf
    refine lv_lload_n hx hb d_Sc_add_11 rfl (lv_at hl 2 rfl) ?_
    refine lv_aload_n hx hb d_Sc_add_12 rfl (lv_at hl 0 rfl) ?_
    refine lv_iload hx hb d_Sc_add_13 (lv_at hl 3 rfl) ?_
    obtain ⟨hg, hf⟩ := gdp hf
    refine va_lald hx hb hK hP 0 2 rfl rfl (inb_in hg) d_Sc_add_15 ?_
    refine lv_topl (fun v1 ev => ?_)
    have hf := bn ev hf
    clear ev
    refine lv_aload_n hx hb d_Sc_add_16 rfl (lv_at hl 1 rfl) ?_
    refine lv_iload hx hb d_Sc_add_17 (lv_at hl 3 rfl) ?_
    obtain ⟨hg, hf⟩ := gdp hf
    refine va_tl (v := .long (tb_4.getD x4.toNatClampNeg 0)) hx hb (hSt.1 4 _ rfl).2 hS (inb_in hg) rfl d_Sc_add_19 ?_
    refine lv_topl (fun v2 ev => ?_)
    have hf := bn ev hf
    clear ev
    refine lv_ladd hx hb d_Sc_add_20 ?_
    refine lv_ladd hx hb d_Sc_add_21 ?_
    refine lv_topl (fun v3 ev => ?_)
    have hf := bn ev hf
    clear ev
    refine lv_lstore_n (lv' := [(2, .long v3), (0, .ref b0), (1, .ref (ad 4)), (4, .int x4)]) hx hb d_Sc_add_22 rfl hl (by decide) rfl (fun ls hl => ?_)
    refine lv_aload_n hx hb d_Sc_add_23 rfl (lv_at hl 1 rfl) ?_
    refine lv_iload hx hb d_Sc_add_24 (lv_at hl 3 rfl) ?_
    refine lv_iload hx hb d_Sc_add_26 (lv_at hl 3 rfl) ?_
    refine lv_iconst (v := 4) hx hb d_Sc_add_28 (by decide) ?_
    refine lv_icmp_ge (tgt := 40) hx hb d_Sc_add_29 (by decide) (fun cx => ?_) (fun cx => ?_)
    · have hf := ifp cx hf
      refine lv_lload_n hx hb d_Sc_add_40 rfl (lv_at hl 0 rfl) ?_
      exact wb_Sc_add_s1x4_41 (fu := fu) F hk_5 _ _ _ _ _ _ hf _ _ _ hP hD hS (lv_sub hl [1, 2, 0, 3] rfl)
    · have hf := ifn cx hf
      refine lv_lload_n hx hb d_Sc_add_32 rfl (lv_at hl 0 rfl) ?_
      refine lv_ldc2 (v := 4503599627370495) hx hb hown (hts _ gw_1051) d_Sc_add_33 ?_
      refine lv_land hx hb d_Sc_add_36 ?_
      refine lv_goto (tgt := 41) hx hb d_Sc_add_37 (by decide) ?_
      exact wb_Sc_add_s1x4_41 (fu := fu) F hk_5 _ _ _ _ _ _ hf _ _ _ hP hD hS (lv_sub hl [1, 2, 0, 3] rfl)
theorem w_Sc_add_s1x4_5 {p : Program} {l : Launch} {e : Env} {s : State} {m : MethodId} {args : Array Value} {below : List Frame} {meth : Method} {c : Code} {D : va_G} {cy : Nat → ClassId} {A : Nat → Prop} {ad : Nat → Nat} {b0 : Nat} {fu : Nat} (F : Fx p s m args meth c b_Sc_add 5 "CoinKeeper$Scalar" "add" none D cy ad A) : ∀ n : Nat, I_Sc_add_s1x4_5 p l e s m args below meth c D cy A ad b0 (x_Sc_add_s1x4_5 fu n)
  | 0 => fun _ _ _ _ hf => nomatch (show (none : Option ((Nat → Int64))) = some _ from hf)
  | n + 1 => wb_Sc_add_s1x4_5 F (w_Sc_add_s1x4_5 F n)
set_option maxHeartbeats 8000000 in
set_option maxRecDepth 100000 in
theorem we_Sc_add_s1x4 {p : Program} {l : Launch} {e : Env} {s : State} {m : MethodId} {args : Array Value} {below : List Frame} {meth : Method} {c : Code} {D : va_G} {cy : Nat → ClassId} {A : Nat → Prop} {ad : Nat → Nat} {b0 : Nat} {fu : Nat} (F : Fx p s m args meth c b_Sc_add 5 "CoinKeeper$Scalar" "add" none D cy ad A) : I_Sc_add_s1x4_e p l e s m args below meth c D cy A ad b0 (x_Sc_add_s1x4 fu) := by
  obtain ⟨hx, hb, hr, hml, hown, hts, hlocks, hK, hA, hSt, hnm, hex⟩ := id F
  intro u0 res hf H locs ls hP hD hS hl
  unfold x_Sc_add_s1x4 at hf
  refine lv_lconst (v := 0) hx hb d_Sc_add_0 (by decide) ?_
  refine lv_lstore_n (lv' := [(2, .long (0 : Int64)), (0, .ref b0), (1, .ref (ad 4))]) hx hb d_Sc_add_1 rfl hl (by decide) rfl (fun ls hl => ?_)
  refine lv_iconst (v := 0) hx hb d_Sc_add_2 (by decide) ?_
  refine lv_istore (lv' := [(4, .int (0 : Int32)), (2, .long (0 : Int64)), (0, .ref b0), (1, .ref (ad 4))]) hx hb d_Sc_add_3 hl (by decide) rfl (fun ls hl => ?_)
  exact w_Sc_add_s1x4_5 F fu _ _ _ _ hf _ _ _ hP hD hS (lv_sub hl [2, 3, 1, 0] rfl)
theorem c_Sc_add_s1x4 (l : Launch) (D : va_G) (cy : Nat → ClassId) (ad : Nat → Nat) (fu : Nat) (b0 : Nat) (u0 : Nat → Int64) (res : (Nat → Int64)) (hf : x_Sc_add_s1x4 fu u0 = some res) (sz : Nat) : Met l ({ cls := "CoinKeeper$Scalar", name := "add", desc := "([J[J)V" } : Jvm.MethodName) (.code ({ cls := "CoinKeeper$Scalar", name := "add", desc := "([J[J)V" } : Jvm.MethodName) b_Sc_add 5 none :: gw) rm_Sc_add_s1x4 (va_Pc [.ref b0, .ref (ad 4)] (Pr D cy ad [(b0, .inl (cy 2, 5, .inr (.inl u0)))] sz)) (q_Sc_add_s1x4 D cy (va_A [(b0, .inl (cy 2, 5, .inr (.inl u0)))] sz) b0 res) 0 0 (va_A [(b0, .inl (cy 2, 5, .inr (.inl u0)))] sz) :=
  q_met (Qc := fun A => q_Sc_add_s1x4 D cy A b0 res) (by decide) rfl rfl (Nat.le_of_ble_eq_true rfl) (fun p e s m below meth c ls F hP hD hS hl => we_Sc_add_s1x4 (fu := fu) F u0 res hf _ _ _ hP hD hS hl) sz
abbrev b_Sc_subtractModulo : ByteArray := prog_10_method_8_code
theorem d_Sc_subtractModulo_0 : decode b_Sc_subtractModulo 0 = .ok (.aload_n 0, 1) := by decide +kernel
theorem d_Sc_subtractModulo_1 : decode b_Sc_subtractModulo 1 = .ok (.aload_n 1, 1) := by decide +kernel
theorem d_Sc_subtractModulo_2 : decode b_Sc_subtractModulo 2 = .ok (.invokestatic 13, 3) := by decide +kernel
theorem d_Sc_subtractModulo_5 : decode b_Sc_subtractModulo 5 = .ok (.aload_n 0, 1) := by decide +kernel
theorem d_Sc_subtractModulo_6 : decode b_Sc_subtractModulo 6 = .ok (.iconst 4, 1) := by decide +kernel
theorem d_Sc_subtractModulo_7 : decode b_Sc_subtractModulo 7 = .ok (.laload, 1) := by decide +kernel
theorem d_Sc_subtractModulo_8 : decode b_Sc_subtractModulo 8 = .ok (.lconst 0, 1) := by decide +kernel
theorem d_Sc_subtractModulo_9 : decode b_Sc_subtractModulo 9 = .ok (.lcmp, 1) := by decide +kernel
theorem d_Sc_subtractModulo_10 : decode b_Sc_subtractModulo 10 = .ok (.ifCond .ge 10, 3) := by decide +kernel
theorem d_Sc_subtractModulo_13 : decode b_Sc_subtractModulo 13 = .ok (.aload_n 0, 1) := by decide +kernel
theorem d_Sc_subtractModulo_14 : decode b_Sc_subtractModulo 14 = .ok (.getstatic 17, 3) := by decide +kernel
theorem d_Sc_subtractModulo_17 : decode b_Sc_subtractModulo 17 = .ok (.invokestatic 21, 3) := by decide +kernel
theorem d_Sc_subtractModulo_20 : decode b_Sc_subtractModulo 20 = .ok (.return_, 1) := by decide +kernel
abbrev rm_Sc_subtractModulo : Room := { frames := 1, cells := 0, slots := 0, locals := 24 }
abbrev q_Sc_subtractModulo (D : va_G) (cy : Nat → ClassId) (A : Nat → Prop) (b0 : Nat) (b1 : Nat) (h1 : Nat → Int64) (res : (Nat → Int64)) : Array Value → State → Outcome → State → Prop := va_Qv (fun (_ : Unit) => True) (fun _ t => Po D cy A [(b0, .inl (cy 2, 5, .inr (.inl res))), (b1, .inl (cy 2, 5, .inr (.inl h1)))] t) A
def I_Sc_subtractModulo_e (p : Program) (l : Launch) (e : Env) (s : State) (m : MethodId) (args : Array Value) (below : List Frame) (meth : Method) (c : Code) (D : va_G) (cy : Nat → ClassId) (A : Nat → Prop) (ad : Nat → Nat) (b0 : Nat) (b1 : Nat) (h1 : Nat → Int64) (k : (Nat → Int64) → Option ((Nat → Int64))) : Prop :=
  ∀ (u0 : Nat → Int64) (res : (Nat → Int64)), k u0 = some res → ∀ (H : Heap) (locs : List Loc) (ls : Array Slot), va_P D classes [(b0, .inl (cy 2, 5, .inr (.inl u0))), (b1, .inl (cy 2, 5, .inr (.inl h1)))] H → va_D A [(b0, .inl (cy 2, 5, .inr (.inl u0))), (b1, .inl (cy 2, 5, .inr (.inl h1)))] → va_S A s.heap H locs → lv_has ls 2 [(0, .ref b0), (1, .ref b1)] → W p l e rm_Sc_subtractModulo s m args below meth c H locs 0 0 (MQ below (q_Sc_subtractModulo D cy A b0 b1 h1 res) args s 0 0 A) (F0 m 0 ls [])
theorem hdc_0 : ({ cls := "CoinKeeper$Scalar", name := "subtract", desc := "([J[J)V" } : Jvm.MethodName).cls ≠ "java/lang/invoke/MethodHandle" ∧ ({ cls := "CoinKeeper$Scalar", name := "subtract", desc := "([J[J)V" } : Jvm.MethodName).cls ≠ "java/lang/invoke/VarHandle" ∧ (parseMethodDescriptor ({ cls := "CoinKeeper$Scalar", name := "subtract", desc := "([J[J)V" } : Jvm.MethodName).desc).map (fun d => d.parameters.length) = some 2 := by decide +kernel
theorem hdc_1 : ({ cls := "CoinKeeper$Scalar", name := "add", desc := "([J[J)V" } : Jvm.MethodName).cls ≠ "java/lang/invoke/MethodHandle" ∧ ({ cls := "CoinKeeper$Scalar", name := "add", desc := "([J[J)V" } : Jvm.MethodName).cls ≠ "java/lang/invoke/VarHandle" ∧ (parseMethodDescriptor ({ cls := "CoinKeeper$Scalar", name := "add", desc := "([J[J)V" } : Jvm.MethodName).desc).map (fun d => d.parameters.length) = some 2 := by decide +kernel
set_option maxHeartbeats 8000000 in
set_option maxRecDepth 100000 in
theorem we_Sc_subtractModulo {p : Program} {l : Launch} {e : Env} {s : State} {m : MethodId} {args : Array Value} {below : List Frame} {meth : Method} {c : Code} {D : va_G} {cy : Nat → ClassId} {A : Nat → Prop} {ad : Nat → Nat} {b0 : Nat} {b1 : Nat} {h1 : Nat → Int64} {fu : Nat} (F : Fx p s m args meth c b_Sc_subtractModulo 2 "CoinKeeper$Scalar" "subtractModulo" none D cy ad A) : I_Sc_subtractModulo_e p l e s m args below meth c D cy A ad b0 b1 h1 (x_Sc_subtractModulo fu h1) := by
  obtain ⟨hx, hb, hr, hml, hown, hts, hlocks, hK, hA, hSt, hnm, hex⟩ := id F
  intro u0 res hf H locs ls hP hD hS hl
  unfold x_Sc_subtractModulo at hf
  refine lv_aload_n hx hb d_Sc_subtractModulo_0 rfl (lv_at hl 0 rfl) ?_
  refine lv_aload_n hx hb d_Sc_subtractModulo_1 rfl (lv_at hl 1 rfl) ?_
  obtain ⟨f1, hc, hf⟩ := bdp1 hf
  refine q_av (wr := []) (va_runS (As := [.ref b0, .ref b1]) (rest := []) ⟨hx, hb, hml, hown, hts⟩ (c_Sc_subtract l D cy ad fu b0 b1 h1 u0 _ hc H.size) ⟨q_cB hts gw_1106 gw_28 gw_1125 hdc_0 ⟨by decide, by decide⟩, hts _ gw_1105⟩ (q_pre (hP.sub [0, 1] rfl) (hD.sub [0, 1] (by decide) rfl) hK hSt hS (va_free hD hS hA [0, 1] rfl) _) rfl rfl hl.1 rfl (lv_room (Nat.le_of_ble_eq_true rfl)) d_Sc_subtractModulo_2 ⟨Nat.le_of_ble_eq_true rfl, Nat.le_of_ble_eq_true rfl⟩) hP hD hS hA [0, 1] [] rfl rfl (by decide) (by decide) (fun H locs hP hD hS => ?_)
  clear hc
  have hP : va_P D classes [(b0, .inl (cy 2, 5, .inr (.inl f1))), (b1, .inl (cy 2, 5, .inr (.inl h1)))] H := hP
  have hD : va_D A [(b0, .inl (cy 2, 5, .inr (.inl f1))), (b1, .inl (cy 2, 5, .inr (.inl h1)))] := hD
  refine lv_aload_n hx hb d_Sc_subtractModulo_5 rfl (lv_at hl 0 rfl) ?_
  refine lv_iconst (v := 4) hx hb d_Sc_subtractModulo_6 (by decide) ?_
  refine va_lald hx hb hK hP 0 2 rfl rfl (inb_in (by decide)) d_Sc_subtractModulo_7 ?_
  refine lv_topl (fun v2 ev => ?_)
  have hf := bn ev hf
  clear ev
  refine lv_lconst (v := 0) hx hb d_Sc_subtractModulo_8 (by decide) ?_
  refine W.lcmp hx hb d_Sc_subtractModulo_9 ?_
  refine lv_if_ge (tgt := 20) hx hb d_Sc_subtractModulo_10 (by decide) (fun cx => ?_) (fun cx => ?_)
  · have hf := ifp cx hf
    obtain rfl := Option.some.inj hf
    exact q_rv hx hb hr hlocks hK hP hD hS d_Sc_subtractModulo_20
  · have hf := ifn cx hf
    refine lv_aload_n hx hb d_Sc_subtractModulo_13 rfl (lv_at hl 0 rfl) ?_
    refine va_gets hx hb (hSt.1 4 _ rfl).1 hS hown (hts _ gw_1117) (fun _ h9 => h9) d_Sc_subtractModulo_14 ?_
    obtain ⟨f3, hc, hf⟩ := bdp1 hf
    refine q_av (wr := [(b1, .inl (cy 2, 5, .inr (.inl h1)))]) (va_runS (As := [.ref b0, .ref (ad 4)]) (rest := []) ⟨hx, hb, hml, hown, hts⟩ (c_Sc_add_s1x4 l D cy ad fu b0 f1 _ hc H.size) ⟨q_cB hts gw_1120 gw_28 gw_1118 hdc_1 ⟨by decide, by decide⟩, hts _ gw_1119⟩ (q_pre (hP.sub [0] rfl) (hD.sub [0] (by decide) rfl) hK hSt hS (va_free hD hS hA [0] rfl) _) rfl rfl hl.1 rfl (lv_room (Nat.le_of_ble_eq_true rfl)) d_Sc_subtractModulo_17 ⟨Nat.le_of_ble_eq_true rfl, Nat.le_of_ble_eq_true rfl⟩) hP hD hS hA [0] [1] rfl rfl (by decide) (by decide) (fun H locs hP hD hS => ?_)
    clear hc
    have hP : va_P D classes [(b1, .inl (cy 2, 5, .inr (.inl h1))), (b0, .inl (cy 2, 5, .inr (.inl f3)))] H := hP
    have hD : va_D A [(b1, .inl (cy 2, 5, .inr (.inl h1))), (b0, .inl (cy 2, 5, .inr (.inl f3)))] := hD
    obtain rfl := Option.some.inj hf
    exact q_rv hx hb hr hlocks hK (hP.sub [1, 0] rfl) (hD.sub [1, 0] (by decide) rfl) hS d_Sc_subtractModulo_20
theorem c_Sc_subtractModulo (l : Launch) (D : va_G) (cy : Nat → ClassId) (ad : Nat → Nat) (fu : Nat) (b0 : Nat) (b1 : Nat) (h1 : Nat → Int64) (u0 : Nat → Int64) (res : (Nat → Int64)) (hf : x_Sc_subtractModulo fu h1 u0 = some res) (sz : Nat) : Met l ({ cls := "CoinKeeper$Scalar", name := "subtractModulo", desc := "([J[J)V" } : Jvm.MethodName) (.code ({ cls := "CoinKeeper$Scalar", name := "subtractModulo", desc := "([J[J)V" } : Jvm.MethodName) b_Sc_subtractModulo 2 none :: gw) rm_Sc_subtractModulo (va_Pc [.ref b0, .ref b1] (Pr D cy ad [(b0, .inl (cy 2, 5, .inr (.inl u0))), (b1, .inl (cy 2, 5, .inr (.inl h1)))] sz)) (q_Sc_subtractModulo D cy (va_A [(b0, .inl (cy 2, 5, .inr (.inl u0))), (b1, .inl (cy 2, 5, .inr (.inl h1)))] sz) b0 b1 h1 res) 0 0 (va_A [(b0, .inl (cy 2, 5, .inr (.inl u0))), (b1, .inl (cy 2, 5, .inr (.inl h1)))] sz) :=
  q_met (Qc := fun A => q_Sc_subtractModulo D cy A b0 b1 h1 res) (by decide) rfl rfl (Nat.le_of_ble_eq_true rfl) (fun p e s m below meth c ls F hP hD hS hl => we_Sc_subtractModulo (fu := fu) F u0 res hf _ _ _ hP hD hS hl) sz
abbrev b_Sc_halve : ByteArray := prog_10_method_9_code
theorem d_Sc_halve_0 : decode b_Sc_halve 0 = .ok (.iconst 0, 1) := by decide +kernel
theorem d_Sc_halve_1 : decode b_Sc_halve 1 = .ok (.istore_n 1, 1) := by decide +kernel
theorem d_Sc_halve_2 : decode b_Sc_halve 2 = .ok (.iload_n 1, 1) := by decide +kernel
theorem d_Sc_halve_3 : decode b_Sc_halve 3 = .ok (.iconst 4, 1) := by decide +kernel
theorem d_Sc_halve_4 : decode b_Sc_halve 4 = .ok (.if_icmp .ge 28, 3) := by decide +kernel
theorem d_Sc_halve_7 : decode b_Sc_halve 7 = .ok (.aload_n 0, 1) := by decide +kernel
theorem d_Sc_halve_8 : decode b_Sc_halve 8 = .ok (.iload_n 1, 1) := by decide +kernel
theorem d_Sc_halve_9 : decode b_Sc_halve 9 = .ok (.aload_n 0, 1) := by decide +kernel
theorem d_Sc_halve_10 : decode b_Sc_halve 10 = .ok (.iload_n 1, 1) := by decide +kernel
theorem d_Sc_halve_11 : decode b_Sc_halve 11 = .ok (.laload, 1) := by decide +kernel
theorem d_Sc_halve_12 : decode b_Sc_halve 12 = .ok (.iconst 1, 1) := by decide +kernel
theorem d_Sc_halve_13 : decode b_Sc_halve 13 = .ok (.lshr, 1) := by decide +kernel
theorem d_Sc_halve_14 : decode b_Sc_halve 14 = .ok (.aload_n 0, 1) := by decide +kernel
theorem d_Sc_halve_15 : decode b_Sc_halve 15 = .ok (.iload_n 1, 1) := by decide +kernel
theorem d_Sc_halve_16 : decode b_Sc_halve 16 = .ok (.iconst 1, 1) := by decide +kernel
theorem d_Sc_halve_17 : decode b_Sc_halve 17 = .ok (.iadd, 1) := by decide +kernel
theorem d_Sc_halve_18 : decode b_Sc_halve 18 = .ok (.laload, 1) := by decide +kernel
theorem d_Sc_halve_19 : decode b_Sc_halve 19 = .ok (.lconst 1, 1) := by decide +kernel
theorem d_Sc_halve_20 : decode b_Sc_halve 20 = .ok (.land, 1) := by decide +kernel
theorem d_Sc_halve_21 : decode b_Sc_halve 21 = .ok (.bipush 51, 2) := by decide +kernel
theorem d_Sc_halve_23 : decode b_Sc_halve 23 = .ok (.lshl, 1) := by decide +kernel
theorem d_Sc_halve_24 : decode b_Sc_halve 24 = .ok (.lor, 1) := by decide +kernel
theorem d_Sc_halve_25 : decode b_Sc_halve 25 = .ok (.lastore, 1) := by decide +kernel
theorem d_Sc_halve_26 : decode b_Sc_halve 26 = .ok (.iinc 1 1, 3) := by decide +kernel
theorem d_Sc_halve_29 : decode b_Sc_halve 29 = .ok (.goto (-27), 3) := by decide +kernel
theorem d_Sc_halve_32 : decode b_Sc_halve 32 = .ok (.aload_n 0, 1) := by decide +kernel
theorem d_Sc_halve_33 : decode b_Sc_halve 33 = .ok (.iconst 4, 1) := by decide +kernel
theorem d_Sc_halve_34 : decode b_Sc_halve 34 = .ok (.dup2, 1) := by decide +kernel
theorem d_Sc_halve_35 : decode b_Sc_halve 35 = .ok (.laload, 1) := by decide +kernel
theorem d_Sc_halve_36 : decode b_Sc_halve 36 = .ok (.iconst 1, 1) := by decide +kernel
theorem d_Sc_halve_37 : decode b_Sc_halve 37 = .ok (.lshr, 1) := by decide +kernel
theorem d_Sc_halve_38 : decode b_Sc_halve 38 = .ok (.lastore, 1) := by decide +kernel
theorem d_Sc_halve_39 : decode b_Sc_halve 39 = .ok (.return_, 1) := by decide +kernel
abbrev rm_Sc_halve : Room := { frames := 0, cells := 0, slots := 0, locals := 0 }
abbrev q_Sc_halve (D : va_G) (cy : Nat → ClassId) (A : Nat → Prop) (b0 : Nat) (res : (Nat → Int64)) : Array Value → State → Outcome → State → Prop := va_Qv (fun (_ : Unit) => True) (fun _ t => Po D cy A [(b0, .inl (cy 2, 5, .inr (.inl res)))] t) A
def I_Sc_halve_2 (p : Program) (l : Launch) (e : Env) (s : State) (m : MethodId) (args : Array Value) (below : List Frame) (meth : Method) (c : Code) (D : va_G) (cy : Nat → ClassId) (A : Nat → Prop) (ad : Nat → Nat) (b0 : Nat) (k : Int32 → (Nat → Int64) → Option ((Nat → Int64))) : Prop :=
  ∀ (x1 : Int32) (u0 : Nat → Int64) (res : (Nat → Int64)), k x1 u0 = some res → ∀ (H : Heap) (locs : List Loc) (ls : Array Slot), va_P D classes [(b0, .inl (cy 2, 5, .inr (.inl u0)))] H → va_D A [(b0, .inl (cy 2, 5, .inr (.inl u0)))] → va_S A s.heap H locs → lv_has ls 2 [(0, .ref b0), (1, .int x1)] → W p l e rm_Sc_halve s m args below meth c H locs 0 0 (MQ below (q_Sc_halve D cy A b0 res) args s 0 0 A) (F0 m 2 ls [])
def I_Sc_halve_e (p : Program) (l : Launch) (e : Env) (s : State) (m : MethodId) (args : Array Value) (below : List Frame) (meth : Method) (c : Code) (D : va_G) (cy : Nat → ClassId) (A : Nat → Prop) (ad : Nat → Nat) (b0 : Nat) (k : (Nat → Int64) → Option ((Nat → Int64))) : Prop :=
  ∀ (u0 : Nat → Int64) (res : (Nat → Int64)), k u0 = some res → ∀ (H : Heap) (locs : List Loc) (ls : Array Slot), va_P D classes [(b0, .inl (cy 2, 5, .inr (.inl u0)))] H → va_D A [(b0, .inl (cy 2, 5, .inr (.inl u0)))] → va_S A s.heap H locs → lv_has ls 2 [(0, .ref b0)] → W p l e rm_Sc_halve s m args below meth c H locs 0 0 (MQ below (q_Sc_halve D cy A b0 res) args s 0 0 A) (F0 m 0 ls [])
set_option maxHeartbeats 8000000 in
set_option maxRecDepth 100000 in
theorem wb_Sc_halve_2 {p : Program} {l : Launch} {e : Env} {s : State} {m : MethodId} {args : Array Value} {below : List Frame} {meth : Method} {c : Code} {D : va_G} {cy : Nat → ClassId} {A : Nat → Prop} {ad : Nat → Nat} {b0 : Nat} {fu : Nat} {k_2 : Int32 → (Nat → Int64) → Option ((Nat → Int64))} (F : Fx p s m args meth c b_Sc_halve 2 "CoinKeeper$Scalar" "halve" none D cy ad A) (hk_2 : I_Sc_halve_2 p l e s m args below meth c D cy A ad b0 k_2) : I_Sc_halve_2 p l e s m args below meth c D cy A ad b0 (xb_Sc_halve_2 fu k_2) := by
  obtain ⟨hx, hb, hr, hml, hown, hts, hlocks, hK, hA, hSt, hnm, hex⟩ := id F
  intro x1 u0 res hf H locs ls hP hD hS hl
  unfold xb_Sc_halve_2 at hf
  refine lv_iload_n hx hb d_Sc_halve_2 rfl (lv_at hl 1 rfl) ?_
  refine lv_iconst (v := 4) hx hb d_Sc_halve_3 (by decide) ?_
  refine lv_icmp_ge (tgt := 32) hx hb d_Sc_halve_4 (by decide) (fun cx => ?_) (fun cx => ?_)
  · have hf := ifp cx hf
    refine lv_aload_n hx hb d_Sc_halve_32 rfl (lv_at hl 0 rfl) ?_
    refine lv_iconst (v := 4) hx hb d_Sc_halve_33 (by decide) ?_
    refine lv_dup2_11 hx hb d_Sc_halve_34 rfl rfl ?_
    refine va_lald hx hb hK hP 0 2 rfl rfl (inb_in (by decide)) d_Sc_halve_35 ?_
    refine lv_topl (fun v1 ev => ?_)
    have hf := bn ev hf
    clear ev
    refine lv_iconst (v := 1) hx hb d_Sc_halve_36 (by decide) ?_
    refine lv_lshr hx hb d_Sc_halve_37 rfl ?_
    refine lv_topl (fun v2 ev => ?_)
    have hf := bn ev hf
    clear ev
    refine va_last hx hb hK hP hD hS 0 2 rfl rfl (inb_in (by decide)) d_Sc_halve_38 (fun H locs hP hD hS => ?_)
    obtain ⟨f3, ev, hf⟩ := bne hf
    have hP : va_P D classes [(b0, .inl (cy 2, 5, .inr (.inl f3)))] H := by rw [ev]; exact hP
    have hD : va_D A [(b0, .inl (cy 2, 5, .inr (.inl f3)))] := by rw [ev]; exact hD
    clear ev
    obtain rfl := Option.some.inj hf
    exact q_rv hx hb hr hlocks hK hP hD hS d_Sc_halve_39
  · have hf := ifn cx hf
    refine lv_aload_n hx hb d_Sc_halve_7 rfl (lv_at hl 0 rfl) ?_
    refine lv_iload_n hx hb d_Sc_halve_8 rfl (lv_at hl 1 rfl) ?_
    refine lv_aload_n hx hb d_Sc_halve_9 rfl (lv_at hl 0 rfl) ?_
    refine lv_iload_n hx hb d_Sc_halve_10 rfl (lv_at hl 1 rfl) ?_
    obtain ⟨hg, hf⟩ := gdp hf
    refine va_lald hx hb hK hP 0 2 rfl rfl (inb_in hg) d_Sc_halve_11 ?_
    refine lv_topl (fun v4 ev => ?_)
    have hf := bn ev hf
    clear ev
    refine lv_iconst (v := 1) hx hb d_Sc_halve_12 (by decide) ?_
    refine lv_lshr hx hb d_Sc_halve_13 rfl ?_
    refine lv_topl (fun v5 ev => ?_)
    have hf := bn ev hf
    clear ev
    refine lv_aload_n hx hb d_Sc_halve_14 rfl (lv_at hl 0 rfl) ?_
    refine lv_iload_n hx hb d_Sc_halve_15 rfl (lv_at hl 1 rfl) ?_
    refine lv_iconst (v := 1) hx hb d_Sc_halve_16 (by decide) ?_
    refine lv_iadd hx hb d_Sc_halve_17 ?_
    refine lv_topi (fun v6 ev => ?_)
    have hf := bn ev hf
    clear ev
    obtain ⟨hg, hf⟩ := gdp hf
    refine va_lald hx hb hK hP 0 2 rfl rfl (inb_in hg) d_Sc_halve_18 ?_
    refine lv_topl (fun v7 ev => ?_)
    have hf := bn ev hf
    clear ev
    refine lv_lconst (v := 1) hx hb d_Sc_halve_19 (by decide) ?_
    refine lv_land hx hb d_Sc_halve_20 ?_
    refine lv_topl (fun v8 ev => ?_)
    have hf := bn ev hf
    clear ev
    refine lv_bipush (v := 51) hx hb d_Sc_halve_21 (by decide) ?_
    refine lv_lshl hx hb d_Sc_halve_23 rfl ?_
    refine lv_lor hx hb d_Sc_halve_24 ?_
    refine lv_topl (fun v9 ev => ?_)
    have hf := bn ev hf
    clear ev
    obtain ⟨hg, hf⟩ := gdp hf
    refine va_last hx hb hK hP hD hS 0 2 rfl rfl (inb_in hg) d_Sc_halve_25 (fun H locs hP hD hS => ?_)
    obtain ⟨f10, ev, hf⟩ := bne hf
    have hP : va_P D classes [(b0, .inl (cy 2, 5, .inr (.inl f10)))] H := by rw [ev]; exact hP
    have hD : va_D A [(b0, .inl (cy 2, 5, .inr (.inl f10)))] := by rw [ev]; exact hD
    clear ev
    obtain ⟨v11, ev, hf⟩ := bne hf
    refine lv_iinc (v := v11) (lv' := [(1, .int v11), (0, .ref b0)]) hx hb d_Sc_halve_26 hl (k := 1) rfl (by rw [ev]; rfl) (by decide) rfl (fun ls hl => ?_)
    clear ev
    refine lv_goto (tgt := 2) hx hb d_Sc_halve_29 (by decide) ?_
    exact hk_2 _ _ _ hf _ _ _ hP hD hS (lv_sub hl [1, 0] rfl)
theorem w_Sc_halve_2 {p : Program} {l : Launch} {e : Env} {s : State} {m : MethodId} {args : Array Value} {below : List Frame} {meth : Method} {c : Code} {D : va_G} {cy : Nat → ClassId} {A : Nat → Prop} {ad : Nat → Nat} {b0 : Nat} {fu : Nat} (F : Fx p s m args meth c b_Sc_halve 2 "CoinKeeper$Scalar" "halve" none D cy ad A) : ∀ n : Nat, I_Sc_halve_2 p l e s m args below meth c D cy A ad b0 (x_Sc_halve_2 fu n)
  | 0 => fun _ _ _ hf => nomatch (show (none : Option ((Nat → Int64))) = some _ from hf)
  | n + 1 => wb_Sc_halve_2 F (w_Sc_halve_2 F n)
set_option maxHeartbeats 8000000 in
set_option maxRecDepth 100000 in
theorem we_Sc_halve {p : Program} {l : Launch} {e : Env} {s : State} {m : MethodId} {args : Array Value} {below : List Frame} {meth : Method} {c : Code} {D : va_G} {cy : Nat → ClassId} {A : Nat → Prop} {ad : Nat → Nat} {b0 : Nat} {fu : Nat} (F : Fx p s m args meth c b_Sc_halve 2 "CoinKeeper$Scalar" "halve" none D cy ad A) : I_Sc_halve_e p l e s m args below meth c D cy A ad b0 (x_Sc_halve fu) := by
  obtain ⟨hx, hb, hr, hml, hown, hts, hlocks, hK, hA, hSt, hnm, hex⟩ := id F
  intro u0 res hf H locs ls hP hD hS hl
  unfold x_Sc_halve at hf
  refine lv_iconst (v := 0) hx hb d_Sc_halve_0 (by decide) ?_
  refine lv_istore_n (lv' := [(1, .int (0 : Int32)), (0, .ref b0)]) hx hb d_Sc_halve_1 rfl hl (by decide) rfl (fun ls hl => ?_)
  exact w_Sc_halve_2 F fu _ _ _ hf _ _ _ hP hD hS (lv_sub hl [1, 0] rfl)
theorem c_Sc_halve (l : Launch) (D : va_G) (cy : Nat → ClassId) (ad : Nat → Nat) (fu : Nat) (b0 : Nat) (u0 : Nat → Int64) (res : (Nat → Int64)) (hf : x_Sc_halve fu u0 = some res) (sz : Nat) : Met l ({ cls := "CoinKeeper$Scalar", name := "halve", desc := "([J)V" } : Jvm.MethodName) (.code ({ cls := "CoinKeeper$Scalar", name := "halve", desc := "([J)V" } : Jvm.MethodName) b_Sc_halve 2 none :: gw) rm_Sc_halve (va_Pc [.ref b0] (Pr D cy ad [(b0, .inl (cy 2, 5, .inr (.inl u0)))] sz)) (q_Sc_halve D cy (va_A [(b0, .inl (cy 2, 5, .inr (.inl u0)))] sz) b0 res) 0 0 (va_A [(b0, .inl (cy 2, 5, .inr (.inl u0)))] sz) :=
  q_met (Qc := fun A => q_Sc_halve D cy A b0 res) (by decide) rfl rfl (Nat.le_of_ble_eq_true rfl) (fun p e s m below meth c ls F hP hD hS hl => we_Sc_halve (fu := fu) F u0 res hf _ _ _ hP hD hS hl) sz
abbrev b_Sc_halveModulo : ByteArray := prog_10_method_10_code
theorem d_Sc_halveModulo_0 : decode b_Sc_halveModulo 0 = .ok (.aload_n 0, 1) := by decide +kernel
theorem d_Sc_halveModulo_1 : decode b_Sc_halveModulo 1 = .ok (.iconst 0, 1) := by decide +kernel
theorem d_Sc_halveModulo_2 : decode b_Sc_halveModulo 2 = .ok (.laload, 1) := by decide +kernel
theorem d_Sc_halveModulo_3 : decode b_Sc_halveModulo 3 = .ok (.lconst 1, 1) := by decide +kernel
theorem d_Sc_halveModulo_4 : decode b_Sc_halveModulo 4 = .ok (.land, 1) := by decide +kernel
theorem d_Sc_halveModulo_5 : decode b_Sc_halveModulo 5 = .ok (.lconst 0, 1) := by decide +kernel
theorem d_Sc_halveModulo_6 : decode b_Sc_halveModulo 6 = .ok (.lcmp, 1) := by decide +kernel
theorem d_Sc_halveModulo_7 : decode b_Sc_halveModulo 7 = .ok (.ifCond .eq 10, 3) := by decide +kernel
theorem d_Sc_halveModulo_10 : decode b_Sc_halveModulo 10 = .ok (.aload_n 0, 1) := by decide +kernel
theorem d_Sc_halveModulo_11 : decode b_Sc_halveModulo 11 = .ok (.getstatic 17, 3) := by decide +kernel
theorem d_Sc_halveModulo_14 : decode b_Sc_halveModulo 14 = .ok (.invokestatic 21, 3) := by decide +kernel
theorem d_Sc_halveModulo_17 : decode b_Sc_halveModulo 17 = .ok (.aload_n 0, 1) := by decide +kernel
theorem d_Sc_halveModulo_18 : decode b_Sc_halveModulo 18 = .ok (.invokestatic 24, 3) := by decide +kernel
theorem d_Sc_halveModulo_21 : decode b_Sc_halveModulo 21 = .ok (.return_, 1) := by decide +kernel
abbrev rm_Sc_halveModulo : Room := { frames := 1, cells := 0, slots := 0, locals := 24 }
abbrev q_Sc_halveModulo (D : va_G) (cy : Nat → ClassId) (A : Nat → Prop) (b0 : Nat) (res : (Nat → Int64)) : Array Value → State → Outcome → State → Prop := va_Qv (fun (_ : Unit) => True) (fun _ t => Po D cy A [(b0, .inl (cy 2, 5, .inr (.inl res)))] t) A
def I_Sc_halveModulo_17 (p : Program) (l : Launch) (e : Env) (s : State) (m : MethodId) (args : Array Value) (below : List Frame) (meth : Method) (c : Code) (D : va_G) (cy : Nat → ClassId) (A : Nat → Prop) (ad : Nat → Nat) (b0 : Nat) (k : (Nat → Int64) → Option ((Nat → Int64))) : Prop :=
  ∀ (u0 : Nat → Int64) (res : (Nat → Int64)), k u0 = some res → ∀ (H : Heap) (locs : List Loc) (ls : Array Slot), va_P D classes [(b0, .inl (cy 2, 5, .inr (.inl u0)))] H → va_D A [(b0, .inl (cy 2, 5, .inr (.inl u0)))] → va_S A s.heap H locs → lv_has ls 1 [(0, .ref b0)] → W p l e rm_Sc_halveModulo s m args below meth c H locs 0 0 (MQ below (q_Sc_halveModulo D cy A b0 res) args s 0 0 A) (F0 m 17 ls [])
def I_Sc_halveModulo_e (p : Program) (l : Launch) (e : Env) (s : State) (m : MethodId) (args : Array Value) (below : List Frame) (meth : Method) (c : Code) (D : va_G) (cy : Nat → ClassId) (A : Nat → Prop) (ad : Nat → Nat) (b0 : Nat) (k : (Nat → Int64) → Option ((Nat → Int64))) : Prop :=
  ∀ (u0 : Nat → Int64) (res : (Nat → Int64)), k u0 = some res → ∀ (H : Heap) (locs : List Loc) (ls : Array Slot), va_P D classes [(b0, .inl (cy 2, 5, .inr (.inl u0)))] H → va_D A [(b0, .inl (cy 2, 5, .inr (.inl u0)))] → va_S A s.heap H locs → lv_has ls 1 [(0, .ref b0)] → W p l e rm_Sc_halveModulo s m args below meth c H locs 0 0 (MQ below (q_Sc_halveModulo D cy A b0 res) args s 0 0 A) (F0 m 0 ls [])
theorem hdc_2 : ({ cls := "CoinKeeper$Scalar", name := "halve", desc := "([J)V" } : Jvm.MethodName).cls ≠ "java/lang/invoke/MethodHandle" ∧ ({ cls := "CoinKeeper$Scalar", name := "halve", desc := "([J)V" } : Jvm.MethodName).cls ≠ "java/lang/invoke/VarHandle" ∧ (parseMethodDescriptor ({ cls := "CoinKeeper$Scalar", name := "halve", desc := "([J)V" } : Jvm.MethodName).desc).map (fun d => d.parameters.length) = some 1 := by decide +kernel
set_option maxHeartbeats 8000000 in
set_option maxRecDepth 100000 in
theorem wb_Sc_halveModulo_17 {p : Program} {l : Launch} {e : Env} {s : State} {m : MethodId} {args : Array Value} {below : List Frame} {meth : Method} {c : Code} {D : va_G} {cy : Nat → ClassId} {A : Nat → Prop} {ad : Nat → Nat} {b0 : Nat} {fu : Nat} (F : Fx p s m args meth c b_Sc_halveModulo 1 "CoinKeeper$Scalar" "halveModulo" none D cy ad A) : I_Sc_halveModulo_17 p l e s m args below meth c D cy A ad b0 (xb_Sc_halveModulo_17 fu) := by
  obtain ⟨hx, hb, hr, hml, hown, hts, hlocks, hK, hA, hSt, hnm, hex⟩ := id F
  intro u0 res hf H locs ls hP hD hS hl
  unfold xb_Sc_halveModulo_17 at hf
  refine lv_aload_n hx hb d_Sc_halveModulo_17 rfl (lv_at hl 0 rfl) ?_
  obtain ⟨f1, hc, hf⟩ := bdp1 hf
  refine q_av (wr := []) (va_runS (As := [.ref b0]) (rest := []) ⟨hx, hb, hml, hown, hts⟩ (c_Sc_halve l D cy ad fu b0 u0 _ hc H.size) ⟨q_cB hts gw_1113 gw_28 gw_1121 hdc_2 ⟨by decide, by decide⟩, hts _ gw_1112⟩ (q_pre (hP.sub [0] rfl) (hD.sub [0] (by decide) rfl) hK hSt hS (va_free hD hS hA [0] rfl) _) rfl rfl hl.1 rfl (lv_room (Nat.le_of_ble_eq_true rfl)) d_Sc_halveModulo_18 ⟨Nat.le_of_ble_eq_true rfl, Nat.le_of_ble_eq_true rfl⟩) hP hD hS hA [0] [] rfl rfl (by decide) (by decide) (fun H locs hP hD hS => ?_)
  clear hc
  have hP : va_P D classes [(b0, .inl (cy 2, 5, .inr (.inl f1)))] H := hP
  have hD : va_D A [(b0, .inl (cy 2, 5, .inr (.inl f1)))] := hD
  obtain rfl := Option.some.inj hf
  exact q_rv hx hb hr hlocks hK hP hD hS d_Sc_halveModulo_21
set_option maxHeartbeats 8000000 in
set_option maxRecDepth 100000 in
theorem we_Sc_halveModulo {p : Program} {l : Launch} {e : Env} {s : State} {m : MethodId} {args : Array Value} {below : List Frame} {meth : Method} {c : Code} {D : va_G} {cy : Nat → ClassId} {A : Nat → Prop} {ad : Nat → Nat} {b0 : Nat} {fu : Nat} (F : Fx p s m args meth c b_Sc_halveModulo 1 "CoinKeeper$Scalar" "halveModulo" none D cy ad A) : I_Sc_halveModulo_e p l e s m args below meth c D cy A ad b0 (x_Sc_halveModulo fu) := by
  obtain ⟨hx, hb, hr, hml, hown, hts, hlocks, hK, hA, hSt, hnm, hex⟩ := id F
  intro u0 res hf H locs ls hP hD hS hl
  unfold x_Sc_halveModulo at hf
  refine lv_aload_n hx hb d_Sc_halveModulo_0 rfl (lv_at hl 0 rfl) ?_
  refine lv_iconst (v := 0) hx hb d_Sc_halveModulo_1 (by decide) ?_
  refine va_lald hx hb hK hP 0 2 rfl rfl (inb_in (by decide)) d_Sc_halveModulo_2 ?_
  refine lv_topl (fun v1 ev => ?_)
  have hf := bn ev hf
  clear ev
  refine lv_lconst (v := 1) hx hb d_Sc_halveModulo_3 (by decide) ?_
  refine lv_land hx hb d_Sc_halveModulo_4 ?_
  refine lv_topl (fun v2 ev => ?_)
  have hf := bn ev hf
  clear ev
  refine lv_lconst (v := 0) hx hb d_Sc_halveModulo_5 (by decide) ?_
  refine W.lcmp hx hb d_Sc_halveModulo_6 ?_
  refine lv_if_eq (tgt := 17) hx hb d_Sc_halveModulo_7 (by decide) (fun cx => ?_) (fun cx => ?_)
  · have hf := ifp cx hf
    exact wb_Sc_halveModulo_17 (fu := fu) F _ _ hf _ _ _ hP hD hS (lv_sub hl [0] rfl)
  · have hf := ifn cx hf
    refine lv_aload_n hx hb d_Sc_halveModulo_10 rfl (lv_at hl 0 rfl) ?_
    refine va_gets hx hb (hSt.1 4 _ rfl).1 hS hown (hts _ gw_1117) (fun _ h9 => h9) d_Sc_halveModulo_11 ?_
    obtain ⟨f3, hc, hf⟩ := bdp1 hf
    refine q_av (wr := []) (va_runS (As := [.ref b0, .ref (ad 4)]) (rest := []) ⟨hx, hb, hml, hown, hts⟩ (c_Sc_add_s1x4 l D cy ad fu b0 u0 _ hc H.size) ⟨q_cB hts gw_1120 gw_28 gw_1118 hdc_1 ⟨by decide, by decide⟩, hts _ gw_1119⟩ (q_pre (hP.sub [0] rfl) (hD.sub [0] (by decide) rfl) hK hSt hS (va_free hD hS hA [0] rfl) _) rfl rfl hl.1 rfl (lv_room (Nat.le_of_ble_eq_true rfl)) d_Sc_halveModulo_14 ⟨Nat.le_of_ble_eq_true rfl, Nat.le_of_ble_eq_true rfl⟩) hP hD hS hA [0] [] rfl rfl (by decide) (by decide) (fun H locs hP hD hS => ?_)
    clear hc
    have hP : va_P D classes [(b0, .inl (cy 2, 5, .inr (.inl f3)))] H := hP
    have hD : va_D A [(b0, .inl (cy 2, 5, .inr (.inl f3)))] := hD
    exact wb_Sc_halveModulo_17 (fu := fu) F _ _ hf _ _ _ hP hD hS (lv_sub hl [0] rfl)
theorem c_Sc_halveModulo (l : Launch) (D : va_G) (cy : Nat → ClassId) (ad : Nat → Nat) (fu : Nat) (b0 : Nat) (u0 : Nat → Int64) (res : (Nat → Int64)) (hf : x_Sc_halveModulo fu u0 = some res) (sz : Nat) : Met l ({ cls := "CoinKeeper$Scalar", name := "halveModulo", desc := "([J)V" } : Jvm.MethodName) (.code ({ cls := "CoinKeeper$Scalar", name := "halveModulo", desc := "([J)V" } : Jvm.MethodName) b_Sc_halveModulo 1 none :: gw) rm_Sc_halveModulo (va_Pc [.ref b0] (Pr D cy ad [(b0, .inl (cy 2, 5, .inr (.inl u0)))] sz)) (q_Sc_halveModulo D cy (va_A [(b0, .inl (cy 2, 5, .inr (.inl u0)))] sz) b0 res) 0 0 (va_A [(b0, .inl (cy 2, 5, .inr (.inl u0)))] sz) :=
  q_met (Qc := fun A => q_Sc_halveModulo D cy A b0 res) (by decide) rfl rfl (Nat.le_of_ble_eq_true rfl) (fun p e s m below meth c ls F hP hD hS hl => we_Sc_halveModulo (fu := fu) F u0 res hf _ _ _ hP hD hS hl) sz
abbrev b_Sh_begin : ByteArray := prog_11_method_4_code
theorem d_Sh_begin_0 : decode b_Sh_begin 0 = .ok (.getstatic 35, 3) := by decide +kernel
theorem d_Sh_begin_3 : decode b_Sh_begin 3 = .ok (.iconst 0, 1) := by decide +kernel
theorem d_Sh_begin_4 : decode b_Sh_begin 4 = .ok (.aload_n 0, 1) := by decide +kernel
theorem d_Sh_begin_5 : decode b_Sh_begin 5 = .ok (.getfield 7, 3) := by decide +kernel
theorem d_Sh_begin_8 : decode b_Sh_begin 8 = .ok (.iconst 0, 1) := by decide +kernel
theorem d_Sh_begin_9 : decode b_Sh_begin 9 = .ok (.bipush 8, 2) := by decide +kernel
theorem d_Sh_begin_11 : decode b_Sh_begin 11 = .ok (.invokestatic 38, 3) := by decide +kernel
theorem d_Sh_begin_14 : decode b_Sh_begin 14 = .ok (.aload_n 0, 1) := by decide +kernel
theorem d_Sh_begin_15 : decode b_Sh_begin 15 = .ok (.iconst 0, 1) := by decide +kernel
theorem d_Sh_begin_16 : decode b_Sh_begin 16 = .ok (.putfield 44, 3) := by decide +kernel
theorem d_Sh_begin_19 : decode b_Sh_begin 19 = .ok (.aload_n 0, 1) := by decide +kernel
theorem d_Sh_begin_20 : decode b_Sh_begin 20 = .ok (.lconst 0, 1) := by decide +kernel
theorem d_Sh_begin_21 : decode b_Sh_begin 21 = .ok (.putfield 48, 3) := by decide +kernel
theorem d_Sh_begin_24 : decode b_Sh_begin 24 = .ok (.return_, 1) := by decide +kernel
abbrev rm_Sh_begin : Room := { frames := 1, cells := 0, slots := 0, locals := 26 }
abbrev q_Sh_begin (D : va_G) (cy : Nat → ClassId) (A : Nat → Prop) (o : Nat) (v_a_w : Value) (v_a_chunk : Value) (a_state : Nat) (res : Int32 × Int64 × (Nat → Int32)) : Array Value → State → Outcome → State → Prop := va_Qv (fun (_ : Unit) => True) (fun _ t => Po D cy A [(o, .inr (9, [.ref a_state, v_a_w, v_a_chunk, .int res.1, .long res.2.1])), (a_state, .inl (cy 1, 8, .inl res.2.2))] t) A
def I_Sh_begin_e (p : Program) (l : Launch) (e : Env) (s : State) (m : MethodId) (args : Array Value) (below : List Frame) (meth : Method) (c : Code) (D : va_G) (cy : Nat → ClassId) (A : Nat → Prop) (ad : Nat → Nat) (o : Nat) (v_a_w : Value) (v_a_chunk : Value) (a_state : Nat) (k : Int32 → Int64 → (Nat → Int32) → Option (Int32 × Int64 × (Nat → Int32))) : Prop :=
  ∀ (u0 : Int32) (u1 : Int64) (u2 : Nat → Int32) (res : Int32 × Int64 × (Nat → Int32)), k u0 u1 u2 = some res → ∀ (H : Heap) (locs : List Loc) (ls : Array Slot), va_P D classes [(o, .inr (9, [.ref a_state, v_a_w, v_a_chunk, .int u0, .long u1])), (a_state, .inl (cy 1, 8, .inl u2))] H → va_D A [(o, .inr (9, [.ref a_state, v_a_w, v_a_chunk, .int u0, .long u1])), (a_state, .inl (cy 1, 8, .inl u2))] → va_S A s.heap H locs → lv_has ls 1 [(0, .ref o)] → W p l e rm_Sh_begin s m args below meth c H locs 0 0 (MQ below (q_Sh_begin D cy A o v_a_w v_a_chunk a_state res) args s 0 0 A) (F0 m 0 ls [])
set_option maxHeartbeats 8000000 in
set_option maxRecDepth 100000 in
theorem we_Sh_begin {p : Program} {l : Launch} {e : Env} {s : State} {m : MethodId} {args : Array Value} {below : List Frame} {meth : Method} {c : Code} {D : va_G} {cy : Nat → ClassId} {A : Nat → Prop} {ad : Nat → Nat} {o : Nat} {v_a_w : Value} {v_a_chunk : Value} {a_state : Nat} {fu : Nat} (F : Fx p s m args meth c b_Sh_begin 1 "CoinKeeper$Sha256" "begin" none D cy ad A) : I_Sh_begin_e p l e s m args below meth c D cy A ad o v_a_w v_a_chunk a_state (x_Sh_begin fu) := by
  obtain ⟨hx, hb, hr, hml, hown, hts, hlocks, hK, hA, hSt, hnm, hex⟩ := id F
  intro u0 u1 u2 res hf H locs ls hP hD hS hl
  unfold x_Sh_begin at hf
  refine va_gets hx hb (hSt.1 1 _ rfl).1 hS hown (hts _ gw_716) (fun _ h9 => h9) d_Sh_begin_0 ?_
  refine lv_iconst (v := 0) hx hb d_Sh_begin_3 (by decide) ?_
  refine lv_aload_n hx hb d_Sh_begin_4 rfl (lv_at hl 0 rfl) ?_
  refine va_get (D := D) (ci := 9) (v := .ref a_state) (C := "CoinKeeper$Sha256") (T := F_9) (N := 5) hx hb hts i_9 hown hK hP 0 rfl rfl 0 (by decide) (hts _ gw_44) (fun _ h9 => h9) rfl d_Sh_begin_5 ?_
  refine lv_iconst (v := 0) hx hb d_Sh_begin_8 (by decide) ?_
  refine lv_bipush (v := 8) hx hb d_Sh_begin_9 (by decide) ?_
  obtain ⟨hg, hf⟩ := gdp hf
  refine q_copyt (rest := []) hx hb (hml.trans hl.1.symm) hown (hts _ gw_718) (hts _ gw_497) (hts _ gw_496) (hts _ gw_17) hK hP hD hS (hSt.1 1 _ rfl).2 1 1 rfl rfl (cpk_p hg).1 (cpk_p hg).2.1 (cpk_p hg).2.2.1 (cpk_p hg).2.2.2.1 (cpk_p hg).2.2.2.2 (by decide) (by decide) d_Sh_begin_11 (fun H locs hP hD hS => ?_)
  obtain ⟨f1, ev, hf⟩ := bne hf
  have hP : va_P D classes [(o, .inr (9, [.ref a_state, v_a_w, v_a_chunk, .int u0, .long u1])), (a_state, .inl (cy 1, 8, .inl f1))] H := by rw [ev]; exact hP
  have hD : va_D A [(o, .inr (9, [.ref a_state, v_a_w, v_a_chunk, .int u0, .long u1])), (a_state, .inl (cy 1, 8, .inl f1))] := by rw [ev]; exact hD
  clear ev
  refine lv_aload_n hx hb d_Sh_begin_14 rfl (lv_at hl 0 rfl) ?_
  refine lv_iconst (v := 0) hx hb d_Sh_begin_15 (by decide) ?_
  refine va_put (D := D) (ci := 9) (v := .int (0 : Int32)) (ty := .int) (C := "CoinKeeper$Sha256") (T := F_9) (N := 5) hx hb hts i_9 t_9 t_9_ok n_9 hown hK hP hD hS 0 rfl rfl 3 (by decide) (hts _ gw_47) (fun _ h9 => h9) rfl (by decide +kernel) rfl rfl (Nat.le_of_ble_eq_true rfl) d_Sh_begin_16 (fun H locs hP hD hS => ?_)
  have hP : va_P D classes [(o, .inr (9, [.ref a_state, v_a_w, v_a_chunk, .int (0 : Int32), .long u1])), (a_state, .inl (cy 1, 8, .inl f1))] H := hP
  have hD : va_D A [(o, .inr (9, [.ref a_state, v_a_w, v_a_chunk, .int (0 : Int32), .long u1])), (a_state, .inl (cy 1, 8, .inl f1))] := hD
  refine lv_aload_n hx hb d_Sh_begin_19 rfl (lv_at hl 0 rfl) ?_
  refine lv_lconst (v := 0) hx hb d_Sh_begin_20 (by decide) ?_
  refine va_put (D := D) (ci := 9) (v := .long (0 : Int64)) (ty := .long) (C := "CoinKeeper$Sha256") (T := F_9) (N := 5) hx hb hts i_9 t_9 t_9_ok n_9 hown hK hP hD hS 0 rfl rfl 4 (by decide) (hts _ gw_48) (fun _ h9 => h9) rfl (by decide +kernel) rfl rfl (Nat.le_of_ble_eq_true rfl) d_Sh_begin_21 (fun H locs hP hD hS => ?_)
  have hP : va_P D classes [(o, .inr (9, [.ref a_state, v_a_w, v_a_chunk, .int (0 : Int32), .long (0 : Int64)])), (a_state, .inl (cy 1, 8, .inl f1))] H := hP
  have hD : va_D A [(o, .inr (9, [.ref a_state, v_a_w, v_a_chunk, .int (0 : Int32), .long (0 : Int64)])), (a_state, .inl (cy 1, 8, .inl f1))] := hD
  obtain rfl := Option.some.inj hf
  exact q_rv hx hb hr hlocks hK hP hD hS d_Sh_begin_24
theorem c_Sh_begin (l : Launch) (D : va_G) (cy : Nat → ClassId) (ad : Nat → Nat) (fu : Nat) (o : Nat) (v_a_w : Value) (v_a_chunk : Value) (a_state : Nat) (u0 : Int32) (u1 : Int64) (u2 : Nat → Int32) (res : Int32 × Int64 × (Nat → Int32)) (hf : x_Sh_begin fu u0 u1 u2 = some res) (sz : Nat) : Met l ({ cls := "CoinKeeper$Sha256", name := "begin", desc := "()V" } : Jvm.MethodName) (.code ({ cls := "CoinKeeper$Sha256", name := "begin", desc := "()V" } : Jvm.MethodName) b_Sh_begin 1 none :: gw) rm_Sh_begin (va_Pc [.ref o] (Pr D cy ad [(o, .inr (9, [.ref a_state, v_a_w, v_a_chunk, .int u0, .long u1])), (a_state, .inl (cy 1, 8, .inl u2))] sz)) (q_Sh_begin D cy (va_A [(o, .inr (9, [.ref a_state, v_a_w, v_a_chunk, .int u0, .long u1])), (a_state, .inl (cy 1, 8, .inl u2))] sz) o v_a_w v_a_chunk a_state res) 0 0 (va_A [(o, .inr (9, [.ref a_state, v_a_w, v_a_chunk, .int u0, .long u1])), (a_state, .inl (cy 1, 8, .inl u2))] sz) :=
  q_met (Qc := fun A => q_Sh_begin D cy A o v_a_w v_a_chunk a_state res) (by decide) rfl rfl (Nat.le_of_ble_eq_true rfl) (fun p e s m below meth c ls F hP hD hS hl => we_Sh_begin (fu := fu) F u0 u1 u2 res hf _ _ _ hP hD hS hl) sz
