abbrev rm_M_add_e21 : Room := { frames := 0, cells := 0, slots := 0, locals := 0 }
abbrev q_M_add_e21 (D : va_G) (cy : Nat → ClassId) (A : Nat → Prop) (b0 : Nat) (b1 : Nat) (h1 : Nat → Int32) (res : Int32 × (Nat → Int32)) : Array Value → State → Outcome → State → Prop := va_Qi (fun r' (_ : Unit) => r' = res.1) (fun _ t => Po D cy A [(b0, .inl (cy 1, 8, .inl res.2)), (b1, .inl (cy 1, 8, .inl h1))] t) A
def I_M_add_e21_5 (p : Program) (l : Launch) (e : Env) (s : State) (m : MethodId) (args : Array Value) (below : List Frame) (meth : Method) (c : Code) (D : va_G) (cy : Nat → ClassId) (A : Nat → Prop) (ad : Nat → Nat) (b0 : Nat) (b1 : Nat) (h1 : Nat → Int32) (k : Int64 → Int32 → (Nat → Int32) → Option (Int32 × (Nat → Int32))) : Prop :=
  ∀ (x3 : Int64) (x5 : Int32) (u0 : Nat → Int32) (res : Int32 × (Nat → Int32)), k x3 x5 u0 = some res → ∀ (H : Heap) (locs : List Loc) (ls : Array Slot), va_P D classes [(b0, .inl (cy 1, 8, .inl u0)), (b1, .inl (cy 1, 8, .inl h1))] H → va_D A [(b0, .inl (cy 1, 8, .inl u0)), (b1, .inl (cy 1, 8, .inl h1))] → va_S A s.heap H locs → lv_has ls 6 [(0, .ref b0), (1, .ref b1), (2, .ref b1), (3, .long x3), (5, .int x5)] → W p l e rm_M_add_e21 s m args below meth c H locs 0 0 (MQ below (q_M_add_e21 D cy A b0 b1 h1 res) args s 0 0 A) (F0 m 5 ls [])
def I_M_add_e21_e (p : Program) (l : Launch) (e : Env) (s : State) (m : MethodId) (args : Array Value) (below : List Frame) (meth : Method) (c : Code) (D : va_G) (cy : Nat → ClassId) (A : Nat → Prop) (ad : Nat → Nat) (b0 : Nat) (b1 : Nat) (h1 : Nat → Int32) (k : (Nat → Int32) → Option (Int32 × (Nat → Int32))) : Prop :=
  ∀ (u0 : Nat → Int32) (res : Int32 × (Nat → Int32)), k u0 = some res → ∀ (H : Heap) (locs : List Loc) (ls : Array Slot), va_P D classes [(b0, .inl (cy 1, 8, .inl u0)), (b1, .inl (cy 1, 8, .inl h1))] H → va_D A [(b0, .inl (cy 1, 8, .inl u0)), (b1, .inl (cy 1, 8, .inl h1))] → va_S A s.heap H locs → lv_has ls 6 [(0, .ref b0), (1, .ref b1), (2, .ref b1)] → W p l e rm_M_add_e21 s m args below meth c H locs 0 0 (MQ below (q_M_add_e21 D cy A b0 b1 h1 res) args s 0 0 A) (F0 m 0 ls [])
set_option maxHeartbeats 8000000 in
set_option maxRecDepth 100000 in
theorem wb_M_add_e21_5 {p : Program} {l : Launch} {e : Env} {s : State} {m : MethodId} {args : Array Value} {below : List Frame} {meth : Method} {c : Code} {D : va_G} {cy : Nat → ClassId} {A : Nat → Prop} {ad : Nat → Nat} {b0 : Nat} {b1 : Nat} {h1 : Nat → Int32} {fu : Nat} {k_5 : Int64 → Int32 → (Nat → Int32) → Option (Int32 × (Nat → Int32))} (F : Fx p s m args meth c b_M_add 6 "CoinKeeperModel" "add" (some .int) D cy ad A) (hk_5 : I_M_add_e21_5 p l e s m args below meth c D cy A ad b0 b1 h1 k_5) : I_M_add_e21_5 p l e s m args below meth c D cy A ad b0 b1 h1 (xb_M_add_e21_5 fu h1 k_5) := by
  obtain ⟨hx, hb, hr, hml, hown, hts, hlocks, hK, hA, hSt, hnm, hex⟩ := id F
  intro x3 x5 u0 res hf H locs ls hP hD hS hl
  unfold xb_M_add_e21_5 at hf
  refine lv_iload hx hb d_M_add_5 (lv_at hl 4 rfl) ?_
  refine lv_bipush (v := 8) hx hb d_M_add_7 (by decide) ?_
  refine lv_icmp_ge (tgt := 51) hx hb d_M_add_9 (by decide) (fun cx => ?_) (fun cx => ?_)
  · have hf := ifp cx hf
    refine lv_lload_n hx hb d_M_add_51 rfl (lv_at hl 3 rfl) ?_
    refine lv_l2i hx hb d_M_add_52 rfl ?_
    refine lv_topi (fun v1 ev => ?_)
    have hf := bn ev hf
    clear ev
    obtain rfl := Option.some.inj hf
    exact q_ri hx hb hr hlocks hK hP hD hS d_M_add_53
  · have hf := ifn cx hf
    refine lv_lload_n hx hb d_M_add_12 rfl (lv_at hl 3 rfl) ?_
    refine lv_aload_n hx hb d_M_add_13 rfl (lv_at hl 1 rfl) ?_
    refine lv_iload hx hb d_M_add_14 (lv_at hl 4 rfl) ?_
    obtain ⟨hg, hf⟩ := gdp hf
    refine va_iald hx hb hK hP 1 1 rfl rfl (inb_in hg) d_M_add_16 ?_
    refine lv_topi (fun v2 ev => ?_)
    have hf := bn ev hf
    clear ev
    refine lv_i2l hx hb d_M_add_17 rfl ?_
    refine lv_topl (fun v3 ev => ?_)
    have hf := bn ev hf
    clear ev
    refine lv_ldc2 (v := 4294967295) hx hb hown (hts _ gw_1390) d_M_add_18 ?_
    refine lv_land hx hb d_M_add_21 ?_
    refine lv_topl (fun v4 ev => ?_)
    have hf := bn ev hf
    clear ev
    refine lv_aload_n hx hb d_M_add_22 rfl (lv_at hl 2 rfl) ?_
    refine lv_iload hx hb d_M_add_23 (lv_at hl 4 rfl) ?_
    obtain ⟨hg, hf⟩ := gdp hf
    refine va_iald hx hb hK hP 1 1 rfl rfl (inb_in hg) d_M_add_25 ?_
    refine lv_topi (fun v5 ev => ?_)
    have hf := bn ev hf
    clear ev
    refine lv_i2l hx hb d_M_add_26 rfl ?_
    refine lv_topl (fun v6 ev => ?_)
    have hf := bn ev hf
    clear ev
    refine lv_ldc2 (v := 4294967295) hx hb hown (hts _ gw_1390) d_M_add_27 ?_
    refine lv_land hx hb d_M_add_30 ?_
    refine lv_ladd hx hb d_M_add_31 ?_
    refine lv_ladd hx hb d_M_add_32 ?_
    refine lv_topl (fun v7 ev => ?_)
    have hf := bn ev hf
    clear ev
    refine lv_lstore_n (lv' := [(3, .long v7), (0, .ref b0), (1, .ref b1), (2, .ref b1), (5, .int x5)]) hx hb d_M_add_33 rfl hl (by decide) rfl (fun ls hl => ?_)
    refine lv_aload_n hx hb d_M_add_34 rfl (lv_at hl 1 rfl) ?_
    refine lv_iload hx hb d_M_add_35 (lv_at hl 4 rfl) ?_
    refine lv_lload_n hx hb d_M_add_37 rfl (lv_at hl 0 rfl) ?_
    refine lv_l2i hx hb d_M_add_38 rfl ?_
    refine lv_topi (fun v8 ev => ?_)
    have hf := bn ev hf
    clear ev
    obtain ⟨hg, hf⟩ := gdp hf
    refine va_iast hx hb hK hP hD hS 0 1 rfl rfl (inb_in hg) d_M_add_39 (fun H locs hP hD hS => ?_)
    obtain ⟨f9, ev, hf⟩ := bne hf
    have hP : va_P D classes [(b0, .inl (cy 1, 8, .inl f9)), (b1, .inl (cy 1, 8, .inl h1))] H := by rw [ev]; exact hP
    have hD : va_D A [(b0, .inl (cy 1, 8, .inl f9)), (b1, .inl (cy 1, 8, .inl h1))] := by rw [ev]; exact hD
    clear ev
    refine lv_lload_n hx hb d_M_add_40 rfl (lv_at hl 0 rfl) ?_
    refine lv_bipush (v := 32) hx hb d_M_add_41 (by decide) ?_
    refine lv_lushr hx hb d_M_add_43 rfl ?_
    refine lv_topl (fun v10 ev => ?_)
    have hf := bn ev hf
    clear ev
    refine lv_lstore_n (lv' := [(3, .long v10), (0, .ref b0), (1, .ref b1), (2, .ref b1), (5, .int x5)]) hx hb d_M_add_44 rfl hl (by decide) rfl (fun ls hl => ?_)
    obtain ⟨v11, ev, hf⟩ := bne hf
    refine lv_iinc (v := v11) (lv' := [(5, .int v11), (3, .long v10), (0, .ref b0), (1, .ref b1), (2, .ref b1)]) hx hb d_M_add_45 hl (k := 4) rfl (by rw [ev]; rfl) (by decide) rfl (fun ls hl => ?_)
    clear ev
    refine lv_goto (tgt := 5) hx hb d_M_add_48 (by decide) ?_
    exact hk_5 _ _ _ _ hf _ _ _ hP hD hS (lv_sub hl [2, 3, 4, 1, 0] rfl)
theorem w_M_add_e21_5 {p : Program} {l : Launch} {e : Env} {s : State} {m : MethodId} {args : Array Value} {below : List Frame} {meth : Method} {c : Code} {D : va_G} {cy : Nat → ClassId} {A : Nat → Prop} {ad : Nat → Nat} {b0 : Nat} {b1 : Nat} {h1 : Nat → Int32} {fu : Nat} (F : Fx p s m args meth c b_M_add 6 "CoinKeeperModel" "add" (some .int) D cy ad A) : ∀ n : Nat, I_M_add_e21_5 p l e s m args below meth c D cy A ad b0 b1 h1 (x_M_add_e21_5 fu h1 n)
  | 0 => fun _ _ _ _ hf => nomatch (show (none : Option (Int32 × (Nat → Int32))) = some _ from hf)
  | n + 1 => wb_M_add_e21_5 F (w_M_add_e21_5 F n)
set_option maxHeartbeats 8000000 in
set_option maxRecDepth 100000 in
theorem we_M_add_e21 {p : Program} {l : Launch} {e : Env} {s : State} {m : MethodId} {args : Array Value} {below : List Frame} {meth : Method} {c : Code} {D : va_G} {cy : Nat → ClassId} {A : Nat → Prop} {ad : Nat → Nat} {b0 : Nat} {b1 : Nat} {h1 : Nat → Int32} {fu : Nat} (F : Fx p s m args meth c b_M_add 6 "CoinKeeperModel" "add" (some .int) D cy ad A) : I_M_add_e21_e p l e s m args below meth c D cy A ad b0 b1 h1 (x_M_add_e21 fu h1) := by
  obtain ⟨hx, hb, hr, hml, hown, hts, hlocks, hK, hA, hSt, hnm, hex⟩ := id F
  intro u0 res hf H locs ls hP hD hS hl
  unfold x_M_add_e21 at hf
  refine lv_lconst (v := 0) hx hb d_M_add_0 (by decide) ?_
  refine lv_lstore_n (lv' := [(3, .long (0 : Int64)), (0, .ref b0), (1, .ref b1), (2, .ref b1)]) hx hb d_M_add_1 rfl hl (by decide) rfl (fun ls hl => ?_)
  refine lv_iconst (v := 0) hx hb d_M_add_2 (by decide) ?_
  refine lv_istore (lv' := [(5, .int (0 : Int32)), (3, .long (0 : Int64)), (0, .ref b0), (1, .ref b1), (2, .ref b1)]) hx hb d_M_add_3 hl (by decide) rfl (fun ls hl => ?_)
  exact w_M_add_e21_5 F fu _ _ _ _ hf _ _ _ hP hD hS (lv_sub hl [2, 3, 4, 1, 0] rfl)
theorem c_M_add_e21 (l : Launch) (D : va_G) (cy : Nat → ClassId) (ad : Nat → Nat) (fu : Nat) (b0 : Nat) (b1 : Nat) (h1 : Nat → Int32) (u0 : Nat → Int32) (res : Int32 × (Nat → Int32)) (hf : x_M_add_e21 fu h1 u0 = some res) (sz : Nat) : Met l ({ cls := "CoinKeeperModel", name := "add", desc := "([I[I[I)I" } : Jvm.MethodName) (.code ({ cls := "CoinKeeperModel", name := "add", desc := "([I[I[I)I" } : Jvm.MethodName) b_M_add 6 (some .int) :: gw) rm_M_add_e21 (va_Pc [.ref b0, .ref b1, .ref b1] (Pr D cy ad [(b0, .inl (cy 1, 8, .inl u0)), (b1, .inl (cy 1, 8, .inl h1))] sz)) (q_M_add_e21 D cy (va_A [(b0, .inl (cy 1, 8, .inl u0)), (b1, .inl (cy 1, 8, .inl h1))] sz) b0 b1 h1 res) 0 0 (va_A [(b0, .inl (cy 1, 8, .inl u0)), (b1, .inl (cy 1, 8, .inl h1))] sz) :=
  q_met (Qc := fun A => q_M_add_e21 D cy A b0 b1 h1 res) (by decide) rfl rfl (Nat.le_of_ble_eq_true rfl) (fun p e s m below meth c ls F hP hD hS hl => we_M_add_e21 (fu := fu) F u0 res hf _ _ _ hP hD hS hl) sz
abbrev rm_M_plus_e21 : Room := { frames := 3, cells := 0, slots := 0, locals := 64 }
abbrev q_M_plus_e21 (D : va_G) (cy : Nat → ClassId) (A : Nat → Prop) (b0 : Nat) (b1 : Nat) (h1 : Nat → Int32) (res : (Nat → Int32)) : Array Value → State → Outcome → State → Prop := va_Qv (fun (_ : Unit) => True) (fun _ t => Po D cy A [(b0, .inl (cy 1, 8, .inl res)), (b1, .inl (cy 1, 8, .inl h1))] t) A
def I_M_plus_e21_20 (p : Program) (l : Launch) (e : Env) (s : State) (m : MethodId) (args : Array Value) (below : List Frame) (meth : Method) (c : Code) (D : va_G) (cy : Nat → ClassId) (A : Nat → Prop) (ad : Nat → Nat) (b0 : Nat) (b1 : Nat) (h1 : Nat → Int32) (k : (Nat → Int32) → Option ((Nat → Int32))) : Prop :=
  ∀ (u0 : Nat → Int32) (res : (Nat → Int32)), k u0 = some res → ∀ (H : Heap) (locs : List Loc) (ls : Array Slot), va_P D classes [(b0, .inl (cy 1, 8, .inl u0)), (b1, .inl (cy 1, 8, .inl h1))] H → va_D A [(b0, .inl (cy 1, 8, .inl u0)), (b1, .inl (cy 1, 8, .inl h1))] → va_S A s.heap H locs → lv_has ls 3 [(0, .ref b0)] → W p l e rm_M_plus_e21 s m args below meth c H locs 0 0 (MQ below (q_M_plus_e21 D cy A b0 b1 h1 res) args s 0 0 A) (F0 m 20 ls [])
def I_M_plus_e21_e (p : Program) (l : Launch) (e : Env) (s : State) (m : MethodId) (args : Array Value) (below : List Frame) (meth : Method) (c : Code) (D : va_G) (cy : Nat → ClassId) (A : Nat → Prop) (ad : Nat → Nat) (b0 : Nat) (b1 : Nat) (h1 : Nat → Int32) (k : (Nat → Int32) → Option ((Nat → Int32))) : Prop :=
  ∀ (u0 : Nat → Int32) (res : (Nat → Int32)), k u0 = some res → ∀ (H : Heap) (locs : List Loc) (ls : Array Slot), va_P D classes [(b0, .inl (cy 1, 8, .inl u0)), (b1, .inl (cy 1, 8, .inl h1))] H → va_D A [(b0, .inl (cy 1, 8, .inl u0)), (b1, .inl (cy 1, 8, .inl h1))] → va_S A s.heap H locs → lv_has ls 3 [(0, .ref b0), (1, .ref b1), (2, .ref b1)] → W p l e rm_M_plus_e21 s m args below meth c H locs 0 0 (MQ below (q_M_plus_e21 D cy A b0 b1 h1 res) args s 0 0 A) (F0 m 0 ls [])
set_option maxHeartbeats 8000000 in
set_option maxRecDepth 100000 in
theorem wb_M_plus_e21_20 {p : Program} {l : Launch} {e : Env} {s : State} {m : MethodId} {args : Array Value} {below : List Frame} {meth : Method} {c : Code} {D : va_G} {cy : Nat → ClassId} {A : Nat → Prop} {ad : Nat → Nat} {b0 : Nat} {b1 : Nat} {h1 : Nat → Int32} {fu : Nat} (F : Fx p s m args meth c b_M_plus 3 "CoinKeeperModel" "plus" none D cy ad A) : I_M_plus_e21_20 p l e s m args below meth c D cy A ad b0 b1 h1 (xb_M_plus_e21_20 fu h1) := by
  obtain ⟨hx, hb, hr, hml, hown, hts, hlocks, hK, hA, hSt, hnm, hex⟩ := id F
  intro u0 res hf H locs ls hP hD hS hl
  unfold xb_M_plus_e21_20 at hf
  refine lv_aload_n hx hb d_M_plus_20 rfl (lv_at hl 0 rfl) ?_
  refine lv_aload_n hx hb d_M_plus_21 rfl (lv_at hl 0 rfl) ?_
  refine va_gets hx hb (hSt.1 22 _ rfl).1 hS hown (hts _ gw_1974) (fun _ h9 => h9) d_M_plus_22 ?_
  obtain ⟨v1, f2, hc, hf⟩ := bdp2 hf
  refine q_ai (wr := [(b1, .inl (cy 1, 8, .inl h1))]) (va_runS (As := [.ref b0, .ref b0, .ref (ad 22)]) (rest := []) ⟨hx, hb, hml, hown, hts⟩ (c_M_sub_e10s2x22 l D cy ad fu b0 u0 _ hc H.size) ⟨q_cB hts gw_1414 gw_18 gw_1412 hdm_17 ⟨by decide, by decide⟩, hts _ gw_1413⟩ (q_pre (hP.sub [0] rfl) (hD.sub [0] (by decide) rfl) hK hSt hS (va_free hD hS hA [0] rfl) _) rfl rfl hl.1 rfl (lv_room (Nat.le_of_ble_eq_true rfl)) d_M_plus_25 ⟨Nat.le_of_ble_eq_true rfl, Nat.le_of_ble_eq_true rfl⟩) hP hD hS hA [0] [1] rfl rfl (by decide) (by decide) (fun H locs hP hD hS => ?_)
  clear hc
  have hP : va_P D classes [(b1, .inl (cy 1, 8, .inl h1)), (b0, .inl (cy 1, 8, .inl f2))] H := hP
  have hD : va_D A [(b1, .inl (cy 1, 8, .inl h1)), (b0, .inl (cy 1, 8, .inl f2))] := hD
  refine lv_pop hx hb d_M_plus_28 rfl ?_
  obtain rfl := Option.some.inj hf
  exact q_rv hx hb hr hlocks hK (hP.sub [1, 0] rfl) (hD.sub [1, 0] (by decide) rfl) hS d_M_plus_29
set_option maxHeartbeats 8000000 in
set_option maxRecDepth 100000 in
theorem we_M_plus_e21 {p : Program} {l : Launch} {e : Env} {s : State} {m : MethodId} {args : Array Value} {below : List Frame} {meth : Method} {c : Code} {D : va_G} {cy : Nat → ClassId} {A : Nat → Prop} {ad : Nat → Nat} {b0 : Nat} {b1 : Nat} {h1 : Nat → Int32} {fu : Nat} (F : Fx p s m args meth c b_M_plus 3 "CoinKeeperModel" "plus" none D cy ad A) : I_M_plus_e21_e p l e s m args below meth c D cy A ad b0 b1 h1 (x_M_plus_e21 fu h1) := by
  obtain ⟨hx, hb, hr, hml, hown, hts, hlocks, hK, hA, hSt, hnm, hex⟩ := id F
  intro u0 res hf H locs ls hP hD hS hl
  unfold x_M_plus_e21 at hf
  refine lv_aload_n hx hb d_M_plus_0 rfl (lv_at hl 0 rfl) ?_
  refine lv_aload_n hx hb d_M_plus_1 rfl (lv_at hl 1 rfl) ?_
  refine lv_aload_n hx hb d_M_plus_2 rfl (lv_at hl 2 rfl) ?_
  obtain ⟨v1, f2, hc, hf⟩ := bdp2 hf
  refine q_ai (wr := []) (va_runS (As := [.ref b0, .ref b1, .ref b1]) (rest := []) ⟨hx, hb, hml, hown, hts⟩ (c_M_add_e21 l D cy ad fu b0 b1 h1 u0 _ hc H.size) ⟨q_cB hts gw_1389 gw_18 gw_1387 hdm_19 ⟨by decide, by decide⟩, hts _ gw_1388⟩ (q_pre (hP.sub [0, 1] rfl) (hD.sub [0, 1] (by decide) rfl) hK hSt hS (va_free hD hS hA [0, 1] rfl) _) rfl rfl hl.1 rfl (lv_room (Nat.le_of_ble_eq_true rfl)) d_M_plus_3 ⟨Nat.le_of_ble_eq_true rfl, Nat.le_of_ble_eq_true rfl⟩) hP hD hS hA [0, 1] [] rfl rfl (by decide) (by decide) (fun H locs hP hD hS => ?_)
  clear hc
  have hP : va_P D classes [(b0, .inl (cy 1, 8, .inl f2)), (b1, .inl (cy 1, 8, .inl h1))] H := hP
  have hD : va_D A [(b0, .inl (cy 1, 8, .inl f2)), (b1, .inl (cy 1, 8, .inl h1))] := hD
  refine lv_iconst (v := 1) hx hb d_M_plus_6 (by decide) ?_
  refine lv_icmp_eq (tgt := 20) hx hb d_M_plus_7 (by decide) (fun cx => ?_) (fun cx => ?_)
  · have hf := ifp cx hf
    exact wb_M_plus_e21_20 (fu := fu) F _ _ hf _ _ _ hP hD hS (lv_sub hl [0] rfl)
  · have hf := ifn cx hf
    refine lv_aload_n hx hb d_M_plus_10 rfl (lv_at hl 0 rfl) ?_
    refine va_gets hx hb (hSt.1 22 _ rfl).1 hS hown (hts _ gw_1974) (fun _ h9 => h9) d_M_plus_11 ?_
    obtain ⟨v3, hc, hf⟩ := bdp1 hf
    refine q_ai (wr := [(b1, .inl (cy 1, 8, .inl h1))]) (va_runS (As := [.ref b0, .ref (ad 22)]) (rest := []) ⟨hx, hb, hml, hown, hts⟩ (c_M_compare_s1x22 l D cy ad fu b0 f2 _ hc H.size) ⟨q_cB hts gw_1404 gw_18 gw_1402 hdm_16 ⟨by decide, by decide⟩, hts _ gw_1403⟩ (q_pre (hP.sub [0] rfl) (hD.sub [0] (by decide) rfl) hK hSt hS (va_free hD hS hA [0] rfl) _) rfl rfl hl.1 rfl (lv_room (Nat.le_of_ble_eq_true rfl)) d_M_plus_14 ⟨Nat.le_of_ble_eq_true rfl, Nat.le_of_ble_eq_true rfl⟩) hP hD hS hA [0] [1] rfl rfl (by decide) (by decide) (fun H locs hP hD hS => ?_)
    clear hc
    have hP : va_P D classes [(b1, .inl (cy 1, 8, .inl h1)), (b0, .inl (cy 1, 8, .inl f2))] H := hP
    have hD : va_D A [(b1, .inl (cy 1, 8, .inl h1)), (b0, .inl (cy 1, 8, .inl f2))] := hD
    refine lv_if_lt (tgt := 29) hx hb d_M_plus_17 (by decide) (fun cx => ?_) (fun cx => ?_)
    · have hf := ifp cx hf
      obtain rfl := Option.some.inj hf
      exact q_rv hx hb hr hlocks hK (hP.sub [1, 0] rfl) (hD.sub [1, 0] (by decide) rfl) hS d_M_plus_29
    · have hf := ifn cx hf
      exact wb_M_plus_e21_20 (fu := fu) F _ _ hf _ _ _ (hP.sub (ws' := [(b0, .inl (cy 1, 8, .inl f2)), (b1, .inl (cy 1, 8, .inl h1))]) [1, 0] rfl) (hD.sub (ws' := [(b0, .inl (cy 1, 8, .inl f2)), (b1, .inl (cy 1, 8, .inl h1))]) [1, 0] (by decide) rfl) hS (lv_sub hl [0] rfl)
theorem c_M_plus_e21 (l : Launch) (D : va_G) (cy : Nat → ClassId) (ad : Nat → Nat) (fu : Nat) (b0 : Nat) (b1 : Nat) (h1 : Nat → Int32) (u0 : Nat → Int32) (res : (Nat → Int32)) (hf : x_M_plus_e21 fu h1 u0 = some res) (sz : Nat) : Met l ({ cls := "CoinKeeperModel", name := "plus", desc := "([I[I[I)V" } : Jvm.MethodName) (.code ({ cls := "CoinKeeperModel", name := "plus", desc := "([I[I[I)V" } : Jvm.MethodName) b_M_plus 3 none :: gw) rm_M_plus_e21 (va_Pc [.ref b0, .ref b1, .ref b1] (Pr D cy ad [(b0, .inl (cy 1, 8, .inl u0)), (b1, .inl (cy 1, 8, .inl h1))] sz)) (q_M_plus_e21 D cy (va_A [(b0, .inl (cy 1, 8, .inl u0)), (b1, .inl (cy 1, 8, .inl h1))] sz) b0 b1 h1 res) 0 0 (va_A [(b0, .inl (cy 1, 8, .inl u0)), (b1, .inl (cy 1, 8, .inl h1))] sz) :=
  q_met (Qc := fun A => q_M_plus_e21 D cy A b0 b1 h1 res) (by decide) rfl rfl (Nat.le_of_ble_eq_true rfl) (fun p e s m below meth c ls F hP hD hS hl => we_M_plus_e21 (fu := fu) F u0 res hf _ _ _ hP hD hS hl) sz
abbrev rm_M_copy_s1x22 : Room := { frames := 1, cells := 0, slots := 0, locals := 26 }
abbrev q_M_copy_s1x22 (D : va_G) (cy : Nat → ClassId) (A : Nat → Prop) (b0 : Nat) (res : (Nat → Int32)) : Array Value → State → Outcome → State → Prop := va_Qv (fun (_ : Unit) => True) (fun _ t => Po D cy A [(b0, .inl (cy 1, 8, .inl res))] t) A
def I_M_copy_s1x22_e (p : Program) (l : Launch) (e : Env) (s : State) (m : MethodId) (args : Array Value) (below : List Frame) (meth : Method) (c : Code) (D : va_G) (cy : Nat → ClassId) (A : Nat → Prop) (ad : Nat → Nat) (b0 : Nat) (k : (Nat → Int32) → Option ((Nat → Int32))) : Prop :=
  ∀ (u0 : Nat → Int32) (res : (Nat → Int32)), k u0 = some res → ∀ (H : Heap) (locs : List Loc) (ls : Array Slot), va_P D classes [(b0, .inl (cy 1, 8, .inl u0))] H → va_D A [(b0, .inl (cy 1, 8, .inl u0))] → va_S A s.heap H locs → lv_has ls 2 [(0, .ref b0), (1, .ref (ad 22))] → W p l e rm_M_copy_s1x22 s m args below meth c H locs 0 0 (MQ below (q_M_copy_s1x22 D cy A b0 res) args s 0 0 A) (F0 m 0 ls [])
set_option maxHeartbeats 8000000 in
set_option maxRecDepth 100000 in
theorem we_M_copy_s1x22 {p : Program} {l : Launch} {e : Env} {s : State} {m : MethodId} {args : Array Value} {below : List Frame} {meth : Method} {c : Code} {D : va_G} {cy : Nat → ClassId} {A : Nat → Prop} {ad : Nat → Nat} {b0 : Nat} {fu : Nat} (F : Fx p s m args meth c b_M_copy 2 "CoinKeeperModel" "copy" none D cy ad A) : I_M_copy_s1x22_e p l e s m args below meth c D cy A ad b0 (x_M_copy_s1x22 fu) := by
  obtain ⟨hx, hb, hr, hml, hown, hts, hlocks, hK, hA, hSt, hnm, hex⟩ := id F
  intro u0 res hf H locs ls hP hD hS hl
  unfold x_M_copy_s1x22 at hf
  refine lv_aload_n hx hb d_M_copy_0 rfl (lv_at hl 1 rfl) ?_
  refine lv_iconst (v := 0) hx hb d_M_copy_1 (by decide) ?_
  refine lv_aload_n hx hb d_M_copy_2 rfl (lv_at hl 0 rfl) ?_
  refine lv_iconst (v := 0) hx hb d_M_copy_3 (by decide) ?_
  refine lv_bipush (v := 8) hx hb d_M_copy_4 (by decide) ?_
  obtain ⟨hg, hf⟩ := gdp hf
  refine q_copyt (rest := []) hx hb (hml.trans hl.1.symm) hown (hts _ gw_1398) (hts _ gw_497) (hts _ gw_496) (hts _ gw_17) hK hP hD hS (hSt.1 22 _ rfl).2 0 1 rfl rfl (cpk_p hg).1 (cpk_p hg).2.1 (cpk_p hg).2.2.1 (cpk_p hg).2.2.2.1 (cpk_p hg).2.2.2.2 (by decide) (by decide) d_M_copy_6 (fun H locs hP hD hS => ?_)
  obtain ⟨f1, ev, hf⟩ := bne hf
  have hP : va_P D classes [(b0, .inl (cy 1, 8, .inl f1))] H := by rw [ev]; exact hP
  have hD : va_D A [(b0, .inl (cy 1, 8, .inl f1))] := by rw [ev]; exact hD
  clear ev
  obtain rfl := Option.some.inj hf
  exact q_rv hx hb hr hlocks hK hP hD hS d_M_copy_9
theorem c_M_copy_s1x22 (l : Launch) (D : va_G) (cy : Nat → ClassId) (ad : Nat → Nat) (fu : Nat) (b0 : Nat) (u0 : Nat → Int32) (res : (Nat → Int32)) (hf : x_M_copy_s1x22 fu u0 = some res) (sz : Nat) : Met l ({ cls := "CoinKeeperModel", name := "copy", desc := "([I[I)V" } : Jvm.MethodName) (.code ({ cls := "CoinKeeperModel", name := "copy", desc := "([I[I)V" } : Jvm.MethodName) b_M_copy 2 none :: gw) rm_M_copy_s1x22 (va_Pc [.ref b0, .ref (ad 22)] (Pr D cy ad [(b0, .inl (cy 1, 8, .inl u0))] sz)) (q_M_copy_s1x22 D cy (va_A [(b0, .inl (cy 1, 8, .inl u0))] sz) b0 res) 0 0 (va_A [(b0, .inl (cy 1, 8, .inl u0))] sz) :=
  q_met (Qc := fun A => q_M_copy_s1x22 D cy A b0 res) (by decide) rfl rfl (Nat.le_of_ble_eq_true rfl) (fun p e s m below meth c ls F hP hD hS hl => we_M_copy_s1x22 (fu := fu) F u0 res hf _ _ _ hP hD hS hl) sz
abbrev rm_M_inverse_s3x22 : Room := { frames := 3, cells := 0, slots := 0, locals := 64 }
abbrev q_M_inverse_s3x22 (D : va_G) (cy : Nat → ClassId) (A : Nat → Prop) (o : Nat) (q : Nat → Nat) (b1 : Nat) (b2 : Nat) (z : Nat → Int32) (h2 : Nat → Int32) (res : (Nat → Int32) × (Nat → Int32) × (Nat → Int32) × (Nat → Int32) × (Nat → Int32)) : Array Value → State → Outcome → State → Prop := va_Qv (fun (_ : Unit) => True) (fun _ t => Po D cy A [(o, .inr (12, mo q z)), ((q 48), .inl (cy 1, 8, .inl res.1)), ((q 49), .inl (cy 1, 8, .inl res.2.1)), ((q 66), .inl (cy 1, 8, .inl res.2.2.1)), ((q 67), .inl (cy 1, 8, .inl res.2.2.2.1)), (b1, .inl (cy 1, 8, .inl res.2.2.2.2)), (b2, .inl (cy 1, 8, .inl h2))] t) A
def I_M_inverse_s3x22_311 (p : Program) (l : Launch) (e : Env) (s : State) (m : MethodId) (args : Array Value) (below : List Frame) (meth : Method) (c : Code) (D : va_G) (cy : Nat → ClassId) (A : Nat → Prop) (ad : Nat → Nat) (o : Nat) (q : Nat → Nat) (b1 : Nat) (b2 : Nat) (z : Nat → Int32) (h2 : Nat → Int32) (k : (Nat → Int32) → (Nat → Int32) → (Nat → Int32) → (Nat → Int32) → (Nat → Int32) → Option ((Nat → Int32) × (Nat → Int32) × (Nat → Int32) × (Nat → Int32) × (Nat → Int32))) : Prop :=
  ∀ (u0 : Nat → Int32) (u1 : Nat → Int32) (u2 : Nat → Int32) (u3 : Nat → Int32) (u4 : Nat → Int32) (res : (Nat → Int32) × (Nat → Int32) × (Nat → Int32) × (Nat → Int32) × (Nat → Int32)), k u0 u1 u2 u3 u4 = some res → ∀ (H : Heap) (locs : List Loc) (ls : Array Slot), va_P D classes [(o, .inr (12, mo q z)), ((q 48), .inl (cy 1, 8, .inl u0)), ((q 49), .inl (cy 1, 8, .inl u1)), ((q 66), .inl (cy 1, 8, .inl u2)), ((q 67), .inl (cy 1, 8, .inl u3)), (b1, .inl (cy 1, 8, .inl u4)), (b2, .inl (cy 1, 8, .inl h2))] H → va_D A [(o, .inr (12, mo q z)), ((q 48), .inl (cy 1, 8, .inl u0)), ((q 49), .inl (cy 1, 8, .inl u1)), ((q 66), .inl (cy 1, 8, .inl u2)), ((q 67), .inl (cy 1, 8, .inl u3)), (b1, .inl (cy 1, 8, .inl u4)), (b2, .inl (cy 1, 8, .inl h2))] → va_S A s.heap H locs → lv_has ls 5 [(0, .ref o), (1, .ref b1)] → W p l e rm_M_inverse_s3x22 s m args below meth c H locs 0 0 (MQ below (q_M_inverse_s3x22 D cy A o q b1 b2 z h2 res) args s 0 0 A) (F0 m 311 ls [])
def I_M_inverse_s3x22_183 (p : Program) (l : Launch) (e : Env) (s : State) (m : MethodId) (args : Array Value) (below : List Frame) (meth : Method) (c : Code) (D : va_G) (cy : Nat → ClassId) (A : Nat → Prop) (ad : Nat → Nat) (o : Nat) (q : Nat → Nat) (b1 : Nat) (b2 : Nat) (z : Nat → Int32) (h2 : Nat → Int32) (k : Int32 → (Nat → Int32) → (Nat → Int32) → (Nat → Int32) → (Nat → Int32) → (Nat → Int32) → Option ((Nat → Int32) × (Nat → Int32) × (Nat → Int32) × (Nat → Int32) × (Nat → Int32))) : Prop :=
  ∀ (y0 : Int32) (u0 : Nat → Int32) (u1 : Nat → Int32) (u2 : Nat → Int32) (u3 : Nat → Int32) (u4 : Nat → Int32) (res : (Nat → Int32) × (Nat → Int32) × (Nat → Int32) × (Nat → Int32) × (Nat → Int32)), k y0 u0 u1 u2 u3 u4 = some res → ∀ (H : Heap) (locs : List Loc) (ls : Array Slot), va_P D classes [(o, .inr (12, mo q z)), ((q 48), .inl (cy 1, 8, .inl u0)), ((q 49), .inl (cy 1, 8, .inl u1)), ((q 66), .inl (cy 1, 8, .inl u2)), ((q 67), .inl (cy 1, 8, .inl u3)), (b1, .inl (cy 1, 8, .inl u4)), (b2, .inl (cy 1, 8, .inl h2))] H → va_D A [(o, .inr (12, mo q z)), ((q 48), .inl (cy 1, 8, .inl u0)), ((q 49), .inl (cy 1, 8, .inl u1)), ((q 66), .inl (cy 1, 8, .inl u2)), ((q 67), .inl (cy 1, 8, .inl u3)), (b1, .inl (cy 1, 8, .inl u4)), (b2, .inl (cy 1, 8, .inl h2))] → va_S A s.heap H locs → lv_has ls 5 [(0, .ref o), (1, .ref b1), (3, .ref (ad 22))] → W p l e rm_M_inverse_s3x22 s m args below meth c H locs 0 0 (MQ below (q_M_inverse_s3x22 D cy A o q b1 b2 z h2 res) args s 0 0 A) (F0 m 183 ls [.int y0])
def I_M_inverse_s3x22_137 (p : Program) (l : Launch) (e : Env) (s : State) (m : MethodId) (args : Array Value) (below : List Frame) (meth : Method) (c : Code) (D : va_G) (cy : Nat → ClassId) (A : Nat → Prop) (ad : Nat → Nat) (o : Nat) (q : Nat → Nat) (b1 : Nat) (b2 : Nat) (z : Nat → Int32) (h2 : Nat → Int32) (k : (Nat → Int32) → (Nat → Int32) → (Nat → Int32) → (Nat → Int32) → (Nat → Int32) → Option ((Nat → Int32) × (Nat → Int32) × (Nat → Int32) × (Nat → Int32) × (Nat → Int32))) : Prop :=
  ∀ (u0 : Nat → Int32) (u1 : Nat → Int32) (u2 : Nat → Int32) (u3 : Nat → Int32) (u4 : Nat → Int32) (res : (Nat → Int32) × (Nat → Int32) × (Nat → Int32) × (Nat → Int32) × (Nat → Int32)), k u0 u1 u2 u3 u4 = some res → ∀ (H : Heap) (locs : List Loc) (ls : Array Slot), va_P D classes [(o, .inr (12, mo q z)), ((q 48), .inl (cy 1, 8, .inl u0)), ((q 49), .inl (cy 1, 8, .inl u1)), ((q 66), .inl (cy 1, 8, .inl u2)), ((q 67), .inl (cy 1, 8, .inl u3)), (b1, .inl (cy 1, 8, .inl u4)), (b2, .inl (cy 1, 8, .inl h2))] H → va_D A [(o, .inr (12, mo q z)), ((q 48), .inl (cy 1, 8, .inl u0)), ((q 49), .inl (cy 1, 8, .inl u1)), ((q 66), .inl (cy 1, 8, .inl u2)), ((q 67), .inl (cy 1, 8, .inl u3)), (b1, .inl (cy 1, 8, .inl u4)), (b2, .inl (cy 1, 8, .inl h2))] → va_S A s.heap H locs → lv_has ls 5 [(0, .ref o), (1, .ref b1), (3, .ref (ad 22))] → W p l e rm_M_inverse_s3x22 s m args below meth c H locs 0 0 (MQ below (q_M_inverse_s3x22 D cy A o q b1 b2 z h2 res) args s 0 0 A) (F0 m 137 ls [])
def I_M_inverse_s3x22_123 (p : Program) (l : Launch) (e : Env) (s : State) (m : MethodId) (args : Array Value) (below : List Frame) (meth : Method) (c : Code) (D : va_G) (cy : Nat → ClassId) (A : Nat → Prop) (ad : Nat → Nat) (o : Nat) (q : Nat → Nat) (b1 : Nat) (b2 : Nat) (z : Nat → Int32) (h2 : Nat → Int32) (k : Int32 → (Nat → Int32) → (Nat → Int32) → (Nat → Int32) → (Nat → Int32) → (Nat → Int32) → Option ((Nat → Int32) × (Nat → Int32) × (Nat → Int32) × (Nat → Int32) × (Nat → Int32))) : Prop :=
  ∀ (y0 : Int32) (u0 : Nat → Int32) (u1 : Nat → Int32) (u2 : Nat → Int32) (u3 : Nat → Int32) (u4 : Nat → Int32) (res : (Nat → Int32) × (Nat → Int32) × (Nat → Int32) × (Nat → Int32) × (Nat → Int32)), k y0 u0 u1 u2 u3 u4 = some res → ∀ (H : Heap) (locs : List Loc) (ls : Array Slot), va_P D classes [(o, .inr (12, mo q z)), ((q 48), .inl (cy 1, 8, .inl u0)), ((q 49), .inl (cy 1, 8, .inl u1)), ((q 66), .inl (cy 1, 8, .inl u2)), ((q 67), .inl (cy 1, 8, .inl u3)), (b1, .inl (cy 1, 8, .inl u4)), (b2, .inl (cy 1, 8, .inl h2))] H → va_D A [(o, .inr (12, mo q z)), ((q 48), .inl (cy 1, 8, .inl u0)), ((q 49), .inl (cy 1, 8, .inl u1)), ((q 66), .inl (cy 1, 8, .inl u2)), ((q 67), .inl (cy 1, 8, .inl u3)), (b1, .inl (cy 1, 8, .inl u4)), (b2, .inl (cy 1, 8, .inl h2))] → va_S A s.heap H locs → lv_has ls 5 [(0, .ref o), (1, .ref b1), (3, .ref (ad 22))] → W p l e rm_M_inverse_s3x22 s m args below meth c H locs 0 0 (MQ below (q_M_inverse_s3x22 D cy A o q b1 b2 z h2 res) args s 0 0 A) (F0 m 123 ls [.int y0])
def I_M_inverse_s3x22_77 (p : Program) (l : Launch) (e : Env) (s : State) (m : MethodId) (args : Array Value) (below : List Frame) (meth : Method) (c : Code) (D : va_G) (cy : Nat → ClassId) (A : Nat → Prop) (ad : Nat → Nat) (o : Nat) (q : Nat → Nat) (b1 : Nat) (b2 : Nat) (z : Nat → Int32) (h2 : Nat → Int32) (k : (Nat → Int32) → (Nat → Int32) → (Nat → Int32) → (Nat → Int32) → (Nat → Int32) → Option ((Nat → Int32) × (Nat → Int32) × (Nat → Int32) × (Nat → Int32) × (Nat → Int32))) : Prop :=
  ∀ (u0 : Nat → Int32) (u1 : Nat → Int32) (u2 : Nat → Int32) (u3 : Nat → Int32) (u4 : Nat → Int32) (res : (Nat → Int32) × (Nat → Int32) × (Nat → Int32) × (Nat → Int32) × (Nat → Int32)), k u0 u1 u2 u3 u4 = some res → ∀ (H : Heap) (locs : List Loc) (ls : Array Slot), va_P D classes [(o, .inr (12, mo q z)), ((q 48), .inl (cy 1, 8, .inl u0)), ((q 49), .inl (cy 1, 8, .inl u1)), ((q 66), .inl (cy 1, 8, .inl u2)), ((q 67), .inl (cy 1, 8, .inl u3)), (b1, .inl (cy 1, 8, .inl u4)), (b2, .inl (cy 1, 8, .inl h2))] H → va_D A [(o, .inr (12, mo q z)), ((q 48), .inl (cy 1, 8, .inl u0)), ((q 49), .inl (cy 1, 8, .inl u1)), ((q 66), .inl (cy 1, 8, .inl u2)), ((q 67), .inl (cy 1, 8, .inl u3)), (b1, .inl (cy 1, 8, .inl u4)), (b2, .inl (cy 1, 8, .inl h2))] → va_S A s.heap H locs → lv_has ls 5 [(0, .ref o), (1, .ref b1), (3, .ref (ad 22))] → W p l e rm_M_inverse_s3x22 s m args below meth c H locs 0 0 (MQ below (q_M_inverse_s3x22 D cy A o q b1 b2 z h2 res) args s 0 0 A) (F0 m 77 ls [])
def I_M_inverse_s3x22_57 (p : Program) (l : Launch) (e : Env) (s : State) (m : MethodId) (args : Array Value) (below : List Frame) (meth : Method) (c : Code) (D : va_G) (cy : Nat → ClassId) (A : Nat → Prop) (ad : Nat → Nat) (o : Nat) (q : Nat → Nat) (b1 : Nat) (b2 : Nat) (z : Nat → Int32) (h2 : Nat → Int32) (k : (Nat → Int32) → (Nat → Int32) → (Nat → Int32) → (Nat → Int32) → (Nat → Int32) → Option ((Nat → Int32) × (Nat → Int32) × (Nat → Int32) × (Nat → Int32) × (Nat → Int32))) : Prop :=
  ∀ (u0 : Nat → Int32) (u1 : Nat → Int32) (u2 : Nat → Int32) (u3 : Nat → Int32) (u4 : Nat → Int32) (res : (Nat → Int32) × (Nat → Int32) × (Nat → Int32) × (Nat → Int32) × (Nat → Int32)), k u0 u1 u2 u3 u4 = some res → ∀ (H : Heap) (locs : List Loc) (ls : Array Slot), va_P D classes [(o, .inr (12, mo q z)), ((q 48), .inl (cy 1, 8, .inl u0)), ((q 49), .inl (cy 1, 8, .inl u1)), ((q 66), .inl (cy 1, 8, .inl u2)), ((q 67), .inl (cy 1, 8, .inl u3)), (b1, .inl (cy 1, 8, .inl u4)), (b2, .inl (cy 1, 8, .inl h2))] H → va_D A [(o, .inr (12, mo q z)), ((q 48), .inl (cy 1, 8, .inl u0)), ((q 49), .inl (cy 1, 8, .inl u1)), ((q 66), .inl (cy 1, 8, .inl u2)), ((q 67), .inl (cy 1, 8, .inl u3)), (b1, .inl (cy 1, 8, .inl u4)), (b2, .inl (cy 1, 8, .inl h2))] → va_S A s.heap H locs → lv_has ls 5 [(0, .ref o), (1, .ref b1), (3, .ref (ad 22))] → W p l e rm_M_inverse_s3x22 s m args below meth c H locs 0 0 (MQ below (q_M_inverse_s3x22 D cy A o q b1 b2 z h2 res) args s 0 0 A) (F0 m 57 ls [])
def I_M_inverse_s3x22_42 (p : Program) (l : Launch) (e : Env) (s : State) (m : MethodId) (args : Array Value) (below : List Frame) (meth : Method) (c : Code) (D : va_G) (cy : Nat → ClassId) (A : Nat → Prop) (ad : Nat → Nat) (o : Nat) (q : Nat → Nat) (b1 : Nat) (b2 : Nat) (z : Nat → Int32) (h2 : Nat → Int32) (k : Int32 → Int32 → Int32 → (Nat → Int32) → (Nat → Int32) → (Nat → Int32) → (Nat → Int32) → (Nat → Int32) → Option ((Nat → Int32) × (Nat → Int32) × (Nat → Int32) × (Nat → Int32) × (Nat → Int32))) : Prop :=
  ∀ (x4 : Int32) (y0 : Int32) (y1 : Int32) (u0 : Nat → Int32) (u1 : Nat → Int32) (u2 : Nat → Int32) (u3 : Nat → Int32) (u4 : Nat → Int32) (res : (Nat → Int32) × (Nat → Int32) × (Nat → Int32) × (Nat → Int32) × (Nat → Int32)), k x4 y0 y1 u0 u1 u2 u3 u4 = some res → ∀ (H : Heap) (locs : List Loc) (ls : Array Slot), va_P D classes [(o, .inr (12, mo q z)), ((q 48), .inl (cy 1, 8, .inl u0)), ((q 49), .inl (cy 1, 8, .inl u1)), ((q 66), .inl (cy 1, 8, .inl u2)), ((q 67), .inl (cy 1, 8, .inl u3)), (b1, .inl (cy 1, 8, .inl u4)), (b2, .inl (cy 1, 8, .inl h2))] H → va_D A [(o, .inr (12, mo q z)), ((q 48), .inl (cy 1, 8, .inl u0)), ((q 49), .inl (cy 1, 8, .inl u1)), ((q 66), .inl (cy 1, 8, .inl u2)), ((q 67), .inl (cy 1, 8, .inl u3)), (b1, .inl (cy 1, 8, .inl u4)), (b2, .inl (cy 1, 8, .inl h2))] → va_S A s.heap H locs → lv_has ls 5 [(0, .ref o), (1, .ref b1), (3, .ref (ad 22)), (4, .int x4)] → W p l e rm_M_inverse_s3x22 s m args below meth c H locs 0 0 (MQ below (q_M_inverse_s3x22 D cy A o q b1 b2 z h2 res) args s 0 0 A) (F0 m 42 ls [.int y0, .int y1, .ref (q 66)])
def I_M_inverse_s3x22_19 (p : Program) (l : Launch) (e : Env) (s : State) (m : MethodId) (args : Array Value) (below : List Frame) (meth : Method) (c : Code) (D : va_G) (cy : Nat → ClassId) (A : Nat → Prop) (ad : Nat → Nat) (o : Nat) (q : Nat → Nat) (b1 : Nat) (b2 : Nat) (z : Nat → Int32) (h2 : Nat → Int32) (k : Int32 → (Nat → Int32) → (Nat → Int32) → (Nat → Int32) → (Nat → Int32) → (Nat → Int32) → Option ((Nat → Int32) × (Nat → Int32) × (Nat → Int32) × (Nat → Int32) × (Nat → Int32))) : Prop :=
  ∀ (x4 : Int32) (u0 : Nat → Int32) (u1 : Nat → Int32) (u2 : Nat → Int32) (u3 : Nat → Int32) (u4 : Nat → Int32) (res : (Nat → Int32) × (Nat → Int32) × (Nat → Int32) × (Nat → Int32) × (Nat → Int32)), k x4 u0 u1 u2 u3 u4 = some res → ∀ (H : Heap) (locs : List Loc) (ls : Array Slot), va_P D classes [(o, .inr (12, mo q z)), ((q 48), .inl (cy 1, 8, .inl u0)), ((q 49), .inl (cy 1, 8, .inl u1)), ((q 66), .inl (cy 1, 8, .inl u2)), ((q 67), .inl (cy 1, 8, .inl u3)), (b1, .inl (cy 1, 8, .inl u4)), (b2, .inl (cy 1, 8, .inl h2))] H → va_D A [(o, .inr (12, mo q z)), ((q 48), .inl (cy 1, 8, .inl u0)), ((q 49), .inl (cy 1, 8, .inl u1)), ((q 66), .inl (cy 1, 8, .inl u2)), ((q 67), .inl (cy 1, 8, .inl u3)), (b1, .inl (cy 1, 8, .inl u4)), (b2, .inl (cy 1, 8, .inl h2))] → va_S A s.heap H locs → lv_has ls 5 [(0, .ref o), (1, .ref b1), (3, .ref (ad 22)), (4, .int x4)] → W p l e rm_M_inverse_s3x22 s m args below meth c H locs 0 0 (MQ below (q_M_inverse_s3x22 D cy A o q b1 b2 z h2 res) args s 0 0 A) (F0 m 19 ls [])
def I_M_inverse_s3x22_e (p : Program) (l : Launch) (e : Env) (s : State) (m : MethodId) (args : Array Value) (below : List Frame) (meth : Method) (c : Code) (D : va_G) (cy : Nat → ClassId) (A : Nat → Prop) (ad : Nat → Nat) (o : Nat) (q : Nat → Nat) (b1 : Nat) (b2 : Nat) (z : Nat → Int32) (h2 : Nat → Int32) (k : (Nat → Int32) → (Nat → Int32) → (Nat → Int32) → (Nat → Int32) → (Nat → Int32) → Option ((Nat → Int32) × (Nat → Int32) × (Nat → Int32) × (Nat → Int32) × (Nat → Int32))) : Prop :=
  ∀ (u0 : Nat → Int32) (u1 : Nat → Int32) (u2 : Nat → Int32) (u3 : Nat → Int32) (u4 : Nat → Int32) (res : (Nat → Int32) × (Nat → Int32) × (Nat → Int32) × (Nat → Int32) × (Nat → Int32)), k u0 u1 u2 u3 u4 = some res → ∀ (H : Heap) (locs : List Loc) (ls : Array Slot), va_P D classes [(o, .inr (12, mo q z)), ((q 48), .inl (cy 1, 8, .inl u0)), ((q 49), .inl (cy 1, 8, .inl u1)), ((q 66), .inl (cy 1, 8, .inl u2)), ((q 67), .inl (cy 1, 8, .inl u3)), (b1, .inl (cy 1, 8, .inl u4)), (b2, .inl (cy 1, 8, .inl h2))] H → va_D A [(o, .inr (12, mo q z)), ((q 48), .inl (cy 1, 8, .inl u0)), ((q 49), .inl (cy 1, 8, .inl u1)), ((q 66), .inl (cy 1, 8, .inl u2)), ((q 67), .inl (cy 1, 8, .inl u3)), (b1, .inl (cy 1, 8, .inl u4)), (b2, .inl (cy 1, 8, .inl h2))] → va_S A s.heap H locs → lv_has ls 5 [(0, .ref o), (1, .ref b1), (2, .ref b2), (3, .ref (ad 22))] → W p l e rm_M_inverse_s3x22 s m args below meth c H locs 0 0 (MQ below (q_M_inverse_s3x22 D cy A o q b1 b2 z h2 res) args s 0 0 A) (F0 m 0 ls [])
set_option maxHeartbeats 8000000 in
set_option maxRecDepth 100000 in
theorem wb_M_inverse_s3x22_311 {p : Program} {l : Launch} {e : Env} {s : State} {m : MethodId} {args : Array Value} {below : List Frame} {meth : Method} {c : Code} {D : va_G} {cy : Nat → ClassId} {A : Nat → Prop} {ad : Nat → Nat} {o : Nat} {q : Nat → Nat} {b1 : Nat} {b2 : Nat} {z : Nat → Int32} {h2 : Nat → Int32} {fu : Nat} (F : Fx p s m args meth c b_M_inverse 5 "CoinKeeperModel" "inverse" none D cy ad A) : I_M_inverse_s3x22_311 p l e s m args below meth c D cy A ad o q b1 b2 z h2 (xb_M_inverse_s3x22_311 fu z h2) := by
  obtain ⟨hx, hb, hr, hml, hown, hts, hlocks, hK, hA, hSt, hnm, hex⟩ := id F
  intro u0 u1 u2 u3 u4 res hf H locs ls hP hD hS hl
  unfold xb_M_inverse_s3x22_311 at hf
  refine lv_aload_n hx hb d_M_inverse_311 rfl (lv_at hl 1 rfl) ?_
  refine lv_aload_n hx hb d_M_inverse_312 rfl (lv_at hl 0 rfl) ?_
  refine va_get (D := D) (ci := 12) (v := .ref (q 48)) (C := "CoinKeeperModel") (T := F_12) (N := 98) hx hb hts i_12 hown hK hP 0 rfl rfl 56 (by decide) (hts _ gw_1475) (fun _ h9 => h9) rfl d_M_inverse_313 ?_
  obtain ⟨v1, hc, hf⟩ := bdp1 hf
  refine q_ai (wr := [(o, .inr (12, mo q z)), ((q 49), .inl (cy 1, 8, .inl u1)), ((q 66), .inl (cy 1, 8, .inl u2)), ((q 67), .inl (cy 1, 8, .inl u3)), (b1, .inl (cy 1, 8, .inl u4)), (b2, .inl (cy 1, 8, .inl h2))]) (va_runS (As := [.ref (q 48)]) (rest := [.ref b1]) ⟨hx, hb, hml, hown, hts⟩ (c_M_isOne l D cy ad fu (q 48) u0 _ hc H.size) ⟨q_cB hts gw_2011 gw_18 gw_2009 hdm_28 ⟨by decide, by decide⟩, hts _ gw_2010⟩ (q_pre (hP.sub [1] rfl) (hD.sub [1] (by decide) rfl) hK hSt hS (va_free hD hS hA [1] rfl) _) rfl rfl hl.1 rfl (lv_room (Nat.le_of_ble_eq_true rfl)) d_M_inverse_316 ⟨Nat.le_of_ble_eq_true rfl, Nat.le_of_ble_eq_true rfl⟩) hP hD hS hA [1] [0, 2, 3, 4, 5, 6] rfl rfl (by decide) (by decide) (fun H locs hP hD hS => ?_)
  clear hc
  have hP : va_P D classes [(o, .inr (12, mo q z)), ((q 49), .inl (cy 1, 8, .inl u1)), ((q 66), .inl (cy 1, 8, .inl u2)), ((q 67), .inl (cy 1, 8, .inl u3)), (b1, .inl (cy 1, 8, .inl u4)), (b2, .inl (cy 1, 8, .inl h2)), ((q 48), .inl (cy 1, 8, .inl u0))] H := hP
  have hD : va_D A [(o, .inr (12, mo q z)), ((q 49), .inl (cy 1, 8, .inl u1)), ((q 66), .inl (cy 1, 8, .inl u2)), ((q 67), .inl (cy 1, 8, .inl u3)), (b1, .inl (cy 1, 8, .inl u4)), (b2, .inl (cy 1, 8, .inl h2)), ((q 48), .inl (cy 1, 8, .inl u0))] := hD
  refine lv_if_eq (tgt := 329) hx hb d_M_inverse_319 (by decide) (fun cx => ?_) (fun cx => ?_)
  · have hf := ifp cx hf
    refine lv_aload_n hx hb d_M_inverse_329 rfl (lv_at hl 0 rfl) ?_
    refine va_get (D := D) (ci := 12) (v := .ref (q 67)) (C := "CoinKeeperModel") (T := F_12) (N := 98) hx hb hts i_12 hown hK hP 0 rfl rfl 76 (by decide) (hts _ gw_1495) (fun _ h9 => h9) rfl d_M_inverse_330 ?_
    obtain ⟨f2, hc, hf⟩ := bdp1 hf
    refine q_av (wr := [(o, .inr (12, mo q z)), ((q 49), .inl (cy 1, 8, .inl u1)), ((q 66), .inl (cy 1, 8, .inl u2)), (b2, .inl (cy 1, 8, .inl h2)), ((q 48), .inl (cy 1, 8, .inl u0))]) (va_runS (As := [.ref b1, .ref (q 67)]) (rest := []) ⟨hx, hb, hml, hown, hts⟩ (c_M_copy l D cy ad fu b1 (q 67) u3 u4 _ hc H.size) ⟨q_cB hts gw_1397 gw_18 gw_1395 hdm_24 ⟨by decide, by decide⟩, hts _ gw_1396⟩ (q_pre (hP.sub [4, 3] rfl) (hD.sub [4, 3] (by decide) rfl) hK hSt hS (va_free hD hS hA [4, 3] rfl) _) rfl rfl hl.1 rfl (lv_room (Nat.le_of_ble_eq_true rfl)) d_M_inverse_333 ⟨Nat.le_of_ble_eq_true rfl, Nat.le_of_ble_eq_true rfl⟩) hP hD hS hA [4, 3] [0, 1, 2, 5, 6] rfl rfl (by decide) (by decide) (fun H locs hP hD hS => ?_)
    clear hc
    have hP : va_P D classes [(o, .inr (12, mo q z)), ((q 49), .inl (cy 1, 8, .inl u1)), ((q 66), .inl (cy 1, 8, .inl u2)), (b2, .inl (cy 1, 8, .inl h2)), ((q 48), .inl (cy 1, 8, .inl u0)), (b1, .inl (cy 1, 8, .inl f2)), ((q 67), .inl (cy 1, 8, .inl u3))] H := hP
    have hD : va_D A [(o, .inr (12, mo q z)), ((q 49), .inl (cy 1, 8, .inl u1)), ((q 66), .inl (cy 1, 8, .inl u2)), (b2, .inl (cy 1, 8, .inl h2)), ((q 48), .inl (cy 1, 8, .inl u0)), (b1, .inl (cy 1, 8, .inl f2)), ((q 67), .inl (cy 1, 8, .inl u3))] := hD
    obtain rfl := Option.some.inj hf
    exact q_rv hx hb hr hlocks hK (hP.sub [0, 4, 1, 2, 6, 5, 3] rfl) (hD.sub [0, 4, 1, 2, 6, 5, 3] (by decide) rfl) hS d_M_inverse_336
  · have hf := ifn cx hf
    refine lv_aload_n hx hb d_M_inverse_322 rfl (lv_at hl 0 rfl) ?_
    refine va_get (D := D) (ci := 12) (v := .ref (q 66)) (C := "CoinKeeperModel") (T := F_12) (N := 98) hx hb hts i_12 hown hK hP 0 rfl rfl 75 (by decide) (hts _ gw_1494) (fun _ h9 => h9) rfl d_M_inverse_323 ?_
    refine lv_goto (tgt := 333) hx hb d_M_inverse_326 (by decide) ?_
    obtain ⟨f3, hc, hf⟩ := bdp1 hf
    refine q_av (wr := [(o, .inr (12, mo q z)), ((q 49), .inl (cy 1, 8, .inl u1)), ((q 67), .inl (cy 1, 8, .inl u3)), (b2, .inl (cy 1, 8, .inl h2)), ((q 48), .inl (cy 1, 8, .inl u0))]) (va_runS (As := [.ref b1, .ref (q 66)]) (rest := []) ⟨hx, hb, hml, hown, hts⟩ (c_M_copy l D cy ad fu b1 (q 66) u2 u4 _ hc H.size) ⟨q_cB hts gw_1397 gw_18 gw_1395 hdm_24 ⟨by decide, by decide⟩, hts _ gw_1396⟩ (q_pre (hP.sub [4, 2] rfl) (hD.sub [4, 2] (by decide) rfl) hK hSt hS (va_free hD hS hA [4, 2] rfl) _) rfl rfl hl.1 rfl (lv_room (Nat.le_of_ble_eq_true rfl)) d_M_inverse_333 ⟨Nat.le_of_ble_eq_true rfl, Nat.le_of_ble_eq_true rfl⟩) hP hD hS hA [4, 2] [0, 1, 3, 5, 6] rfl rfl (by decide) (by decide) (fun H locs hP hD hS => ?_)
    clear hc
    have hP : va_P D classes [(o, .inr (12, mo q z)), ((q 49), .inl (cy 1, 8, .inl u1)), ((q 67), .inl (cy 1, 8, .inl u3)), (b2, .inl (cy 1, 8, .inl h2)), ((q 48), .inl (cy 1, 8, .inl u0)), (b1, .inl (cy 1, 8, .inl f3)), ((q 66), .inl (cy 1, 8, .inl u2))] H := hP
    have hD : va_D A [(o, .inr (12, mo q z)), ((q 49), .inl (cy 1, 8, .inl u1)), ((q 67), .inl (cy 1, 8, .inl u3)), (b2, .inl (cy 1, 8, .inl h2)), ((q 48), .inl (cy 1, 8, .inl u0)), (b1, .inl (cy 1, 8, .inl f3)), ((q 66), .inl (cy 1, 8, .inl u2))] := hD
    obtain rfl := Option.some.inj hf
    exact q_rv hx hb hr hlocks hK (hP.sub [0, 4, 1, 6, 2, 5, 3] rfl) (hD.sub [0, 4, 1, 6, 2, 5, 3] (by decide) rfl) hS d_M_inverse_336
set_option maxHeartbeats 8000000 in
set_option maxRecDepth 100000 in
theorem wb_M_inverse_s3x22_183 {p : Program} {l : Launch} {e : Env} {s : State} {m : MethodId} {args : Array Value} {below : List Frame} {meth : Method} {c : Code} {D : va_G} {cy : Nat → ClassId} {A : Nat → Prop} {ad : Nat → Nat} {o : Nat} {q : Nat → Nat} {b1 : Nat} {b2 : Nat} {z : Nat → Int32} {h2 : Nat → Int32} {fu : Nat} {k_57 : (Nat → Int32) → (Nat → Int32) → (Nat → Int32) → (Nat → Int32) → (Nat → Int32) → Option ((Nat → Int32) × (Nat → Int32) × (Nat → Int32) × (Nat → Int32) × (Nat → Int32))} {k_137 : (Nat → Int32) → (Nat → Int32) → (Nat → Int32) → (Nat → Int32) → (Nat → Int32) → Option ((Nat → Int32) × (Nat → Int32) × (Nat → Int32) × (Nat → Int32) × (Nat → Int32))} (F : Fx p s m args meth c b_M_inverse 5 "CoinKeeperModel" "inverse" none D cy ad A) (hk_57 : I_M_inverse_s3x22_57 p l e s m args below meth c D cy A ad o q b1 b2 z h2 k_57) (hk_137 : I_M_inverse_s3x22_137 p l e s m args below meth c D cy A ad o q b1 b2 z h2 k_137) : I_M_inverse_s3x22_183 p l e s m args below meth c D cy A ad o q b1 b2 z h2 (xb_M_inverse_s3x22_183 fu z h2 k_57 k_137) := by
  obtain ⟨hx, hb, hr, hml, hown, hts, hlocks, hK, hA, hSt, hnm, hex⟩ := id F
  intro y0 u0 u1 u2 u3 u4 res hf H locs ls hP hD hS hl
  unfold xb_M_inverse_s3x22_183 at hf
  refine lv_istore (lv' := [(4, .int y0), (0, .ref o), (1, .ref b1), (3, .ref (ad 22))]) hx hb d_M_inverse_183 hl (by decide) rfl (fun ls hl => ?_)
  refine lv_aload_n hx hb d_M_inverse_185 rfl (lv_at hl 1 rfl) ?_
  refine va_get (D := D) (ci := 12) (v := .ref (q 67)) (C := "CoinKeeperModel") (T := F_12) (N := 98) hx hb hts i_12 hown hK hP 0 rfl rfl 76 (by decide) (hts _ gw_1495) (fun _ h9 => h9) rfl d_M_inverse_186 ?_
  refine lv_iload hx hb d_M_inverse_189 (lv_at hl 0 rfl) ?_
  obtain ⟨f1, hc, hf⟩ := bdp1 hf
  refine q_av (wr := [(o, .inr (12, mo q z)), ((q 48), .inl (cy 1, 8, .inl u0)), ((q 49), .inl (cy 1, 8, .inl u1)), ((q 66), .inl (cy 1, 8, .inl u2)), (b1, .inl (cy 1, 8, .inl u4)), (b2, .inl (cy 1, 8, .inl h2))]) (va_runS (As := [.ref (q 67), .int y0]) (rest := []) ⟨hx, hb, hml, hown, hts⟩ (c_M_half l D cy ad fu (q 67) y0 u3 _ hc H.size) ⟨q_cB hts gw_1990 gw_18 gw_1988 hdm_23 ⟨by decide, by decide⟩, hts _ gw_1989⟩ (q_pre (hP.sub [4] rfl) (hD.sub [4] (by decide) rfl) hK hSt hS (va_free hD hS hA [4] rfl) _) rfl rfl hl.1 rfl (lv_room (Nat.le_of_ble_eq_true rfl)) d_M_inverse_191 ⟨Nat.le_of_ble_eq_true rfl, Nat.le_of_ble_eq_true rfl⟩) hP hD hS hA [4] [0, 1, 2, 3, 5, 6] rfl rfl (by decide) (by decide) (fun H locs hP hD hS => ?_)
  clear hc
  have hP : va_P D classes [(o, .inr (12, mo q z)), ((q 48), .inl (cy 1, 8, .inl u0)), ((q 49), .inl (cy 1, 8, .inl u1)), ((q 66), .inl (cy 1, 8, .inl u2)), (b1, .inl (cy 1, 8, .inl u4)), (b2, .inl (cy 1, 8, .inl h2)), ((q 67), .inl (cy 1, 8, .inl f1))] H := hP
  have hD : va_D A [(o, .inr (12, mo q z)), ((q 48), .inl (cy 1, 8, .inl u0)), ((q 49), .inl (cy 1, 8, .inl u1)), ((q 66), .inl (cy 1, 8, .inl u2)), (b1, .inl (cy 1, 8, .inl u4)), (b2, .inl (cy 1, 8, .inl h2)), ((q 67), .inl (cy 1, 8, .inl f1))] := hD
  refine lv_goto (tgt := 137) hx hb d_M_inverse_194 (by decide) ?_
  exact hk_137 _ _ _ _ _ _ hf _ _ _ (hP.sub (ws' := [(o, .inr (12, mo q z)), ((q 48), .inl (cy 1, 8, .inl u0)), ((q 49), .inl (cy 1, 8, .inl u1)), ((q 66), .inl (cy 1, 8, .inl u2)), ((q 67), .inl (cy 1, 8, .inl f1)), (b1, .inl (cy 1, 8, .inl u4)), (b2, .inl (cy 1, 8, .inl h2))]) [0, 1, 2, 3, 6, 4, 5] rfl) (hD.sub (ws' := [(o, .inr (12, mo q z)), ((q 48), .inl (cy 1, 8, .inl u0)), ((q 49), .inl (cy 1, 8, .inl u1)), ((q 66), .inl (cy 1, 8, .inl u2)), ((q 67), .inl (cy 1, 8, .inl f1)), (b1, .inl (cy 1, 8, .inl u4)), (b2, .inl (cy 1, 8, .inl h2))]) [0, 1, 2, 3, 6, 4, 5] (by decide) rfl) hS (lv_sub hl [1, 2, 3] rfl)
set_option maxHeartbeats 8000000 in
set_option maxRecDepth 100000 in
theorem wb_M_inverse_s3x22_137 {p : Program} {l : Launch} {e : Env} {s : State} {m : MethodId} {args : Array Value} {below : List Frame} {meth : Method} {c : Code} {D : va_G} {cy : Nat → ClassId} {A : Nat → Prop} {ad : Nat → Nat} {o : Nat} {q : Nat → Nat} {b1 : Nat} {b2 : Nat} {z : Nat → Int32} {h2 : Nat → Int32} {fu : Nat} {k_57 : (Nat → Int32) → (Nat → Int32) → (Nat → Int32) → (Nat → Int32) → (Nat → Int32) → Option ((Nat → Int32) × (Nat → Int32) × (Nat → Int32) × (Nat → Int32) × (Nat → Int32))} {k_137 : (Nat → Int32) → (Nat → Int32) → (Nat → Int32) → (Nat → Int32) → (Nat → Int32) → Option ((Nat → Int32) × (Nat → Int32) × (Nat → Int32) × (Nat → Int32) × (Nat → Int32))} (F : Fx p s m args meth c b_M_inverse 5 "CoinKeeperModel" "inverse" none D cy ad A) (hk_57 : I_M_inverse_s3x22_57 p l e s m args below meth c D cy A ad o q b1 b2 z h2 k_57) (hk_137 : I_M_inverse_s3x22_137 p l e s m args below meth c D cy A ad o q b1 b2 z h2 k_137) : I_M_inverse_s3x22_137 p l e s m args below meth c D cy A ad o q b1 b2 z h2 (xb_M_inverse_s3x22_137 fu z h2 k_57 k_137) := by
  obtain ⟨hx, hb, hr, hml, hown, hts, hlocks, hK, hA, hSt, hnm, hex⟩ := id F
  intro u0 u1 u2 u3 u4 res hf H locs ls hP hD hS hl
  unfold xb_M_inverse_s3x22_137 at hf
  refine lv_aload_n hx hb d_M_inverse_137 rfl (lv_at hl 0 rfl) ?_
  refine va_get (D := D) (ci := 12) (v := .ref (q 49)) (C := "CoinKeeperModel") (T := F_12) (N := 98) hx hb hts i_12 hown hK hP 0 rfl rfl 57 (by decide) (hts _ gw_1476) (fun _ h9 => h9) rfl d_M_inverse_138 ?_
  refine lv_iconst (v := 0) hx hb d_M_inverse_141 (by decide) ?_
  refine va_iald hx hb hK hP 2 1 rfl rfl (inb_in (by decide)) d_M_inverse_142 ?_
  refine lv_topi (fun v1 ev => ?_)
  have hf := bn ev hf
  clear ev
  refine lv_iconst (v := 1) hx hb d_M_inverse_143 (by decide) ?_
  refine lv_iand hx hb d_M_inverse_144 ?_
  refine lv_if_ne (tgt := 197) hx hb d_M_inverse_145 (by decide) (fun cx => ?_) (fun cx => ?_)
  · have hf := ifn cx hf
    refine lv_aload_n hx hb d_M_inverse_197 rfl (lv_at hl 0 rfl) ?_
    refine va_get (D := D) (ci := 12) (v := .ref (q 48)) (C := "CoinKeeperModel") (T := F_12) (N := 98) hx hb hts i_12 hown hK hP 0 rfl rfl 56 (by decide) (hts _ gw_1475) (fun _ h9 => h9) rfl d_M_inverse_198 ?_
    refine lv_aload_n hx hb d_M_inverse_201 rfl (lv_at hl 0 rfl) ?_
    refine va_get (D := D) (ci := 12) (v := .ref (q 49)) (C := "CoinKeeperModel") (T := F_12) (N := 98) hx hb hts i_12 hown hK hP 0 rfl rfl 57 (by decide) (hts _ gw_1476) (fun _ h9 => h9) rfl d_M_inverse_202 ?_
    obtain ⟨v2, hc, hf⟩ := bdp1 hf
    refine q_ai (wr := [(o, .inr (12, mo q z)), ((q 66), .inl (cy 1, 8, .inl u2)), ((q 67), .inl (cy 1, 8, .inl u3)), (b1, .inl (cy 1, 8, .inl u4)), (b2, .inl (cy 1, 8, .inl h2))]) (va_runS (As := [.ref (q 48), .ref (q 49)]) (rest := []) ⟨hx, hb, hml, hown, hts⟩ (c_M_compare l D cy ad fu (q 48) (q 49) u0 u1 _ hc H.size) ⟨q_cB hts gw_1404 gw_18 gw_1402 hdm_16 ⟨by decide, by decide⟩, hts _ gw_1403⟩ (q_pre (hP.sub [1, 2] rfl) (hD.sub [1, 2] (by decide) rfl) hK hSt hS (va_free hD hS hA [1, 2] rfl) _) rfl rfl hl.1 rfl (lv_room (Nat.le_of_ble_eq_true rfl)) d_M_inverse_205 ⟨Nat.le_of_ble_eq_true rfl, Nat.le_of_ble_eq_true rfl⟩) hP hD hS hA [1, 2] [0, 3, 4, 5, 6] rfl rfl (by decide) (by decide) (fun H locs hP hD hS => ?_)
    clear hc
    have hP : va_P D classes [(o, .inr (12, mo q z)), ((q 66), .inl (cy 1, 8, .inl u2)), ((q 67), .inl (cy 1, 8, .inl u3)), (b1, .inl (cy 1, 8, .inl u4)), (b2, .inl (cy 1, 8, .inl h2)), ((q 48), .inl (cy 1, 8, .inl u0)), ((q 49), .inl (cy 1, 8, .inl u1))] H := hP
    have hD : va_D A [(o, .inr (12, mo q z)), ((q 66), .inl (cy 1, 8, .inl u2)), ((q 67), .inl (cy 1, 8, .inl u3)), (b1, .inl (cy 1, 8, .inl u4)), (b2, .inl (cy 1, 8, .inl h2)), ((q 48), .inl (cy 1, 8, .inl u0)), ((q 49), .inl (cy 1, 8, .inl u1))] := hD
    refine lv_if_lt (tgt := 261) hx hb d_M_inverse_208 (by decide) (fun cx => ?_) (fun cx => ?_)
    · have hf := ifp cx hf
      refine lv_aload_n hx hb d_M_inverse_261 rfl (lv_at hl 0 rfl) ?_
      refine va_get (D := D) (ci := 12) (v := .ref (q 49)) (C := "CoinKeeperModel") (T := F_12) (N := 98) hx hb hts i_12 hown hK hP 0 rfl rfl 57 (by decide) (hts _ gw_1476) (fun _ h9 => h9) rfl d_M_inverse_262 ?_
      refine lv_aload_n hx hb d_M_inverse_265 rfl (lv_at hl 0 rfl) ?_
      refine va_get (D := D) (ci := 12) (v := .ref (q 49)) (C := "CoinKeeperModel") (T := F_12) (N := 98) hx hb hts i_12 hown hK hP 0 rfl rfl 57 (by decide) (hts _ gw_1476) (fun _ h9 => h9) rfl d_M_inverse_266 ?_
      refine lv_aload_n hx hb d_M_inverse_269 rfl (lv_at hl 0 rfl) ?_
      refine va_get (D := D) (ci := 12) (v := .ref (q 48)) (C := "CoinKeeperModel") (T := F_12) (N := 98) hx hb hts i_12 hown hK hP 0 rfl rfl 56 (by decide) (hts _ gw_1475) (fun _ h9 => h9) rfl d_M_inverse_270 ?_
      obtain ⟨v3, f4, hc, hf⟩ := bdp2 hf
      refine q_ai (wr := [(o, .inr (12, mo q z)), ((q 66), .inl (cy 1, 8, .inl u2)), ((q 67), .inl (cy 1, 8, .inl u3)), (b1, .inl (cy 1, 8, .inl u4)), (b2, .inl (cy 1, 8, .inl h2))]) (va_runS (As := [.ref (q 49), .ref (q 49), .ref (q 48)]) (rest := []) ⟨hx, hb, hml, hown, hts⟩ (c_M_sub_e10 l D cy ad fu (q 49) (q 48) u0 u1 _ hc H.size) ⟨q_cB hts gw_1414 gw_18 gw_1412 hdm_17 ⟨by decide, by decide⟩, hts _ gw_1413⟩ (q_pre (hP.sub [6, 5] rfl) (hD.sub [6, 5] (by decide) rfl) hK hSt hS (va_free hD hS hA [6, 5] rfl) _) rfl rfl hl.1 rfl (lv_room (Nat.le_of_ble_eq_true rfl)) d_M_inverse_273 ⟨Nat.le_of_ble_eq_true rfl, Nat.le_of_ble_eq_true rfl⟩) hP hD hS hA [6, 5] [0, 1, 2, 3, 4] rfl rfl (by decide) (by decide) (fun H locs hP hD hS => ?_)
      clear hc
      have hP : va_P D classes [(o, .inr (12, mo q z)), ((q 66), .inl (cy 1, 8, .inl u2)), ((q 67), .inl (cy 1, 8, .inl u3)), (b1, .inl (cy 1, 8, .inl u4)), (b2, .inl (cy 1, 8, .inl h2)), ((q 49), .inl (cy 1, 8, .inl f4)), ((q 48), .inl (cy 1, 8, .inl u0))] H := hP
      have hD : va_D A [(o, .inr (12, mo q z)), ((q 66), .inl (cy 1, 8, .inl u2)), ((q 67), .inl (cy 1, 8, .inl u3)), (b1, .inl (cy 1, 8, .inl u4)), (b2, .inl (cy 1, 8, .inl h2)), ((q 49), .inl (cy 1, 8, .inl f4)), ((q 48), .inl (cy 1, 8, .inl u0))] := hD
      refine lv_pop hx hb d_M_inverse_276 rfl ?_
      refine lv_aload_n hx hb d_M_inverse_277 rfl (lv_at hl 0 rfl) ?_
      refine va_get (D := D) (ci := 12) (v := .ref (q 67)) (C := "CoinKeeperModel") (T := F_12) (N := 98) hx hb hts i_12 hown hK hP 0 rfl rfl 76 (by decide) (hts _ gw_1495) (fun _ h9 => h9) rfl d_M_inverse_278 ?_
      refine lv_aload_n hx hb d_M_inverse_281 rfl (lv_at hl 0 rfl) ?_
      refine va_get (D := D) (ci := 12) (v := .ref (q 67)) (C := "CoinKeeperModel") (T := F_12) (N := 98) hx hb hts i_12 hown hK hP 0 rfl rfl 76 (by decide) (hts _ gw_1495) (fun _ h9 => h9) rfl d_M_inverse_282 ?_
      refine lv_aload_n hx hb d_M_inverse_285 rfl (lv_at hl 0 rfl) ?_
      refine va_get (D := D) (ci := 12) (v := .ref (q 66)) (C := "CoinKeeperModel") (T := F_12) (N := 98) hx hb hts i_12 hown hK hP 0 rfl rfl 75 (by decide) (hts _ gw_1494) (fun _ h9 => h9) rfl d_M_inverse_286 ?_
      obtain ⟨v5, f6, hc, hf⟩ := bdp2 hf
      refine q_ai (wr := [(o, .inr (12, mo q z)), (b1, .inl (cy 1, 8, .inl u4)), (b2, .inl (cy 1, 8, .inl h2)), ((q 49), .inl (cy 1, 8, .inl f4)), ((q 48), .inl (cy 1, 8, .inl u0))]) (va_runS (As := [.ref (q 67), .ref (q 67), .ref (q 66)]) (rest := []) ⟨hx, hb, hml, hown, hts⟩ (c_M_sub_e10 l D cy ad fu (q 67) (q 66) u2 u3 _ hc H.size) ⟨q_cB hts gw_1414 gw_18 gw_1412 hdm_17 ⟨by decide, by decide⟩, hts _ gw_1413⟩ (q_pre (hP.sub [2, 1] rfl) (hD.sub [2, 1] (by decide) rfl) hK hSt hS (va_free hD hS hA [2, 1] rfl) _) rfl rfl hl.1 rfl (lv_room (Nat.le_of_ble_eq_true rfl)) d_M_inverse_289 ⟨Nat.le_of_ble_eq_true rfl, Nat.le_of_ble_eq_true rfl⟩) hP hD hS hA [2, 1] [0, 3, 4, 5, 6] rfl rfl (by decide) (by decide) (fun H locs hP hD hS => ?_)
      clear hc
      have hP : va_P D classes [(o, .inr (12, mo q z)), (b1, .inl (cy 1, 8, .inl u4)), (b2, .inl (cy 1, 8, .inl h2)), ((q 49), .inl (cy 1, 8, .inl f4)), ((q 48), .inl (cy 1, 8, .inl u0)), ((q 67), .inl (cy 1, 8, .inl f6)), ((q 66), .inl (cy 1, 8, .inl u2))] H := hP
      have hD : va_D A [(o, .inr (12, mo q z)), (b1, .inl (cy 1, 8, .inl u4)), (b2, .inl (cy 1, 8, .inl h2)), ((q 49), .inl (cy 1, 8, .inl f4)), ((q 48), .inl (cy 1, 8, .inl u0)), ((q 67), .inl (cy 1, 8, .inl f6)), ((q 66), .inl (cy 1, 8, .inl u2))] := hD
      refine lv_if_eq (tgt := 57) hx hb d_M_inverse_292 (by decide) (fun cx => ?_) (fun cx => ?_)
      · have hf := ifp cx hf
        exact hk_57 _ _ _ _ _ _ hf _ _ _ (hP.sub (ws' := [(o, .inr (12, mo q z)), ((q 48), .inl (cy 1, 8, .inl u0)), ((q 49), .inl (cy 1, 8, .inl f4)), ((q 66), .inl (cy 1, 8, .inl u2)), ((q 67), .inl (cy 1, 8, .inl f6)), (b1, .inl (cy 1, 8, .inl u4)), (b2, .inl (cy 1, 8, .inl h2))]) [0, 4, 3, 6, 5, 1, 2] rfl) (hD.sub (ws' := [(o, .inr (12, mo q z)), ((q 48), .inl (cy 1, 8, .inl u0)), ((q 49), .inl (cy 1, 8, .inl f4)), ((q 66), .inl (cy 1, 8, .inl u2)), ((q 67), .inl (cy 1, 8, .inl f6)), (b1, .inl (cy 1, 8, .inl u4)), (b2, .inl (cy 1, 8, .inl h2))]) [0, 4, 3, 6, 5, 1, 2] (by decide) rfl) hS (lv_sub hl [0, 1, 2] rfl)
      · have hf := ifn cx hf
        refine lv_aload_n hx hb d_M_inverse_295 rfl (lv_at hl 0 rfl) ?_
        refine va_get (D := D) (ci := 12) (v := .ref (q 67)) (C := "CoinKeeperModel") (T := F_12) (N := 98) hx hb hts i_12 hown hK hP 0 rfl rfl 76 (by decide) (hts _ gw_1495) (fun _ h9 => h9) rfl d_M_inverse_296 ?_
        refine lv_aload_n hx hb d_M_inverse_299 rfl (lv_at hl 0 rfl) ?_
        refine va_get (D := D) (ci := 12) (v := .ref (q 67)) (C := "CoinKeeperModel") (T := F_12) (N := 98) hx hb hts i_12 hown hK hP 0 rfl rfl 76 (by decide) (hts _ gw_1495) (fun _ h9 => h9) rfl d_M_inverse_300 ?_
        refine lv_aload_n hx hb d_M_inverse_303 rfl (lv_at hl 2 rfl) ?_
        obtain ⟨v7, f8, hc, hf⟩ := bdp2 hf
        refine q_ai (wr := [(o, .inr (12, mo q z)), (b1, .inl (cy 1, 8, .inl u4)), (b2, .inl (cy 1, 8, .inl h2)), ((q 49), .inl (cy 1, 8, .inl f4)), ((q 48), .inl (cy 1, 8, .inl u0)), ((q 66), .inl (cy 1, 8, .inl u2))]) (va_runS (As := [.ref (q 67), .ref (q 67), .ref (ad 22)]) (rest := []) ⟨hx, hb, hml, hown, hts⟩ (c_M_add_e10s2x22 l D cy ad fu (q 67) f6 _ hc H.size) ⟨q_cB hts gw_1389 gw_18 gw_1387 hdm_19 ⟨by decide, by decide⟩, hts _ gw_1388⟩ (q_pre (hP.sub [5] rfl) (hD.sub [5] (by decide) rfl) hK hSt hS (va_free hD hS hA [5] rfl) _) rfl rfl hl.1 rfl (lv_room (Nat.le_of_ble_eq_true rfl)) d_M_inverse_304 ⟨Nat.le_of_ble_eq_true rfl, Nat.le_of_ble_eq_true rfl⟩) hP hD hS hA [5] [0, 1, 2, 3, 4, 6] rfl rfl (by decide) (by decide) (fun H locs hP hD hS => ?_)
        clear hc
        have hP : va_P D classes [(o, .inr (12, mo q z)), (b1, .inl (cy 1, 8, .inl u4)), (b2, .inl (cy 1, 8, .inl h2)), ((q 49), .inl (cy 1, 8, .inl f4)), ((q 48), .inl (cy 1, 8, .inl u0)), ((q 66), .inl (cy 1, 8, .inl u2)), ((q 67), .inl (cy 1, 8, .inl f8))] H := hP
        have hD : va_D A [(o, .inr (12, mo q z)), (b1, .inl (cy 1, 8, .inl u4)), (b2, .inl (cy 1, 8, .inl h2)), ((q 49), .inl (cy 1, 8, .inl f4)), ((q 48), .inl (cy 1, 8, .inl u0)), ((q 66), .inl (cy 1, 8, .inl u2)), ((q 67), .inl (cy 1, 8, .inl f8))] := hD
        refine lv_pop hx hb d_M_inverse_307 rfl ?_
        refine lv_goto (tgt := 57) hx hb d_M_inverse_308 (by decide) ?_
        exact hk_57 _ _ _ _ _ _ hf _ _ _ (hP.sub (ws' := [(o, .inr (12, mo q z)), ((q 48), .inl (cy 1, 8, .inl u0)), ((q 49), .inl (cy 1, 8, .inl f4)), ((q 66), .inl (cy 1, 8, .inl u2)), ((q 67), .inl (cy 1, 8, .inl f8)), (b1, .inl (cy 1, 8, .inl u4)), (b2, .inl (cy 1, 8, .inl h2))]) [0, 4, 3, 5, 6, 1, 2] rfl) (hD.sub (ws' := [(o, .inr (12, mo q z)), ((q 48), .inl (cy 1, 8, .inl u0)), ((q 49), .inl (cy 1, 8, .inl f4)), ((q 66), .inl (cy 1, 8, .inl u2)), ((q 67), .inl (cy 1, 8, .inl f8)), (b1, .inl (cy 1, 8, .inl u4)), (b2, .inl (cy 1, 8, .inl h2))]) [0, 4, 3, 5, 6, 1, 2] (by decide) rfl) hS (lv_sub hl [0, 1, 2] rfl)
    · have hf := ifn cx hf
      refine lv_aload_n hx hb d_M_inverse_211 rfl (lv_at hl 0 rfl) ?_
      refine va_get (D := D) (ci := 12) (v := .ref (q 48)) (C := "CoinKeeperModel") (T := F_12) (N := 98) hx hb hts i_12 hown hK hP 0 rfl rfl 56 (by decide) (hts _ gw_1475) (fun _ h9 => h9) rfl d_M_inverse_212 ?_
      refine lv_aload_n hx hb d_M_inverse_215 rfl (lv_at hl 0 rfl) ?_
      refine va_get (D := D) (ci := 12) (v := .ref (q 48)) (C := "CoinKeeperModel") (T := F_12) (N := 98) hx hb hts i_12 hown hK hP 0 rfl rfl 56 (by decide) (hts _ gw_1475) (fun _ h9 => h9) rfl d_M_inverse_216 ?_
      refine lv_aload_n hx hb d_M_inverse_219 rfl (lv_at hl 0 rfl) ?_
      refine va_get (D := D) (ci := 12) (v := .ref (q 49)) (C := "CoinKeeperModel") (T := F_12) (N := 98) hx hb hts i_12 hown hK hP 0 rfl rfl 57 (by decide) (hts _ gw_1476) (fun _ h9 => h9) rfl d_M_inverse_220 ?_
      obtain ⟨v9, f10, hc, hf⟩ := bdp2 hf
      refine q_ai (wr := [(o, .inr (12, mo q z)), ((q 66), .inl (cy 1, 8, .inl u2)), ((q 67), .inl (cy 1, 8, .inl u3)), (b1, .inl (cy 1, 8, .inl u4)), (b2, .inl (cy 1, 8, .inl h2))]) (va_runS (As := [.ref (q 48), .ref (q 48), .ref (q 49)]) (rest := []) ⟨hx, hb, hml, hown, hts⟩ (c_M_sub_e10 l D cy ad fu (q 48) (q 49) u1 u0 _ hc H.size) ⟨q_cB hts gw_1414 gw_18 gw_1412 hdm_17 ⟨by decide, by decide⟩, hts _ gw_1413⟩ (q_pre (hP.sub [5, 6] rfl) (hD.sub [5, 6] (by decide) rfl) hK hSt hS (va_free hD hS hA [5, 6] rfl) _) rfl rfl hl.1 rfl (lv_room (Nat.le_of_ble_eq_true rfl)) d_M_inverse_223 ⟨Nat.le_of_ble_eq_true rfl, Nat.le_of_ble_eq_true rfl⟩) hP hD hS hA [5, 6] [0, 1, 2, 3, 4] rfl rfl (by decide) (by decide) (fun H locs hP hD hS => ?_)
      clear hc
      have hP : va_P D classes [(o, .inr (12, mo q z)), ((q 66), .inl (cy 1, 8, .inl u2)), ((q 67), .inl (cy 1, 8, .inl u3)), (b1, .inl (cy 1, 8, .inl u4)), (b2, .inl (cy 1, 8, .inl h2)), ((q 48), .inl (cy 1, 8, .inl f10)), ((q 49), .inl (cy 1, 8, .inl u1))] H := hP
      have hD : va_D A [(o, .inr (12, mo q z)), ((q 66), .inl (cy 1, 8, .inl u2)), ((q 67), .inl (cy 1, 8, .inl u3)), (b1, .inl (cy 1, 8, .inl u4)), (b2, .inl (cy 1, 8, .inl h2)), ((q 48), .inl (cy 1, 8, .inl f10)), ((q 49), .inl (cy 1, 8, .inl u1))] := hD
      refine lv_pop hx hb d_M_inverse_226 rfl ?_
      refine lv_aload_n hx hb d_M_inverse_227 rfl (lv_at hl 0 rfl) ?_
      refine va_get (D := D) (ci := 12) (v := .ref (q 66)) (C := "CoinKeeperModel") (T := F_12) (N := 98) hx hb hts i_12 hown hK hP 0 rfl rfl 75 (by decide) (hts _ gw_1494) (fun _ h9 => h9) rfl d_M_inverse_228 ?_
      refine lv_aload_n hx hb d_M_inverse_231 rfl (lv_at hl 0 rfl) ?_
      refine va_get (D := D) (ci := 12) (v := .ref (q 66)) (C := "CoinKeeperModel") (T := F_12) (N := 98) hx hb hts i_12 hown hK hP 0 rfl rfl 75 (by decide) (hts _ gw_1494) (fun _ h9 => h9) rfl d_M_inverse_232 ?_
      refine lv_aload_n hx hb d_M_inverse_235 rfl (lv_at hl 0 rfl) ?_
      refine va_get (D := D) (ci := 12) (v := .ref (q 67)) (C := "CoinKeeperModel") (T := F_12) (N := 98) hx hb hts i_12 hown hK hP 0 rfl rfl 76 (by decide) (hts _ gw_1495) (fun _ h9 => h9) rfl d_M_inverse_236 ?_
      obtain ⟨v11, f12, hc, hf⟩ := bdp2 hf
      refine q_ai (wr := [(o, .inr (12, mo q z)), (b1, .inl (cy 1, 8, .inl u4)), (b2, .inl (cy 1, 8, .inl h2)), ((q 48), .inl (cy 1, 8, .inl f10)), ((q 49), .inl (cy 1, 8, .inl u1))]) (va_runS (As := [.ref (q 66), .ref (q 66), .ref (q 67)]) (rest := []) ⟨hx, hb, hml, hown, hts⟩ (c_M_sub_e10 l D cy ad fu (q 66) (q 67) u3 u2 _ hc H.size) ⟨q_cB hts gw_1414 gw_18 gw_1412 hdm_17 ⟨by decide, by decide⟩, hts _ gw_1413⟩ (q_pre (hP.sub [1, 2] rfl) (hD.sub [1, 2] (by decide) rfl) hK hSt hS (va_free hD hS hA [1, 2] rfl) _) rfl rfl hl.1 rfl (lv_room (Nat.le_of_ble_eq_true rfl)) d_M_inverse_239 ⟨Nat.le_of_ble_eq_true rfl, Nat.le_of_ble_eq_true rfl⟩) hP hD hS hA [1, 2] [0, 3, 4, 5, 6] rfl rfl (by decide) (by decide) (fun H locs hP hD hS => ?_)
      clear hc
      have hP : va_P D classes [(o, .inr (12, mo q z)), (b1, .inl (cy 1, 8, .inl u4)), (b2, .inl (cy 1, 8, .inl h2)), ((q 48), .inl (cy 1, 8, .inl f10)), ((q 49), .inl (cy 1, 8, .inl u1)), ((q 66), .inl (cy 1, 8, .inl f12)), ((q 67), .inl (cy 1, 8, .inl u3))] H := hP
      have hD : va_D A [(o, .inr (12, mo q z)), (b1, .inl (cy 1, 8, .inl u4)), (b2, .inl (cy 1, 8, .inl h2)), ((q 48), .inl (cy 1, 8, .inl f10)), ((q 49), .inl (cy 1, 8, .inl u1)), ((q 66), .inl (cy 1, 8, .inl f12)), ((q 67), .inl (cy 1, 8, .inl u3))] := hD
      refine lv_if_eq (tgt := 57) hx hb d_M_inverse_242 (by decide) (fun cx => ?_) (fun cx => ?_)
      · have hf := ifp cx hf
        exact hk_57 _ _ _ _ _ _ hf _ _ _ (hP.sub (ws' := [(o, .inr (12, mo q z)), ((q 48), .inl (cy 1, 8, .inl f10)), ((q 49), .inl (cy 1, 8, .inl u1)), ((q 66), .inl (cy 1, 8, .inl f12)), ((q 67), .inl (cy 1, 8, .inl u3)), (b1, .inl (cy 1, 8, .inl u4)), (b2, .inl (cy 1, 8, .inl h2))]) [0, 3, 4, 5, 6, 1, 2] rfl) (hD.sub (ws' := [(o, .inr (12, mo q z)), ((q 48), .inl (cy 1, 8, .inl f10)), ((q 49), .inl (cy 1, 8, .inl u1)), ((q 66), .inl (cy 1, 8, .inl f12)), ((q 67), .inl (cy 1, 8, .inl u3)), (b1, .inl (cy 1, 8, .inl u4)), (b2, .inl (cy 1, 8, .inl h2))]) [0, 3, 4, 5, 6, 1, 2] (by decide) rfl) hS (lv_sub hl [0, 1, 2] rfl)
      · have hf := ifn cx hf
        refine lv_aload_n hx hb d_M_inverse_245 rfl (lv_at hl 0 rfl) ?_
        refine va_get (D := D) (ci := 12) (v := .ref (q 66)) (C := "CoinKeeperModel") (T := F_12) (N := 98) hx hb hts i_12 hown hK hP 0 rfl rfl 75 (by decide) (hts _ gw_1494) (fun _ h9 => h9) rfl d_M_inverse_246 ?_
        refine lv_aload_n hx hb d_M_inverse_249 rfl (lv_at hl 0 rfl) ?_
        refine va_get (D := D) (ci := 12) (v := .ref (q 66)) (C := "CoinKeeperModel") (T := F_12) (N := 98) hx hb hts i_12 hown hK hP 0 rfl rfl 75 (by decide) (hts _ gw_1494) (fun _ h9 => h9) rfl d_M_inverse_250 ?_
        refine lv_aload_n hx hb d_M_inverse_253 rfl (lv_at hl 2 rfl) ?_
        obtain ⟨v13, f14, hc, hf⟩ := bdp2 hf
        refine q_ai (wr := [(o, .inr (12, mo q z)), (b1, .inl (cy 1, 8, .inl u4)), (b2, .inl (cy 1, 8, .inl h2)), ((q 48), .inl (cy 1, 8, .inl f10)), ((q 49), .inl (cy 1, 8, .inl u1)), ((q 67), .inl (cy 1, 8, .inl u3))]) (va_runS (As := [.ref (q 66), .ref (q 66), .ref (ad 22)]) (rest := []) ⟨hx, hb, hml, hown, hts⟩ (c_M_add_e10s2x22 l D cy ad fu (q 66) f12 _ hc H.size) ⟨q_cB hts gw_1389 gw_18 gw_1387 hdm_19 ⟨by decide, by decide⟩, hts _ gw_1388⟩ (q_pre (hP.sub [5] rfl) (hD.sub [5] (by decide) rfl) hK hSt hS (va_free hD hS hA [5] rfl) _) rfl rfl hl.1 rfl (lv_room (Nat.le_of_ble_eq_true rfl)) d_M_inverse_254 ⟨Nat.le_of_ble_eq_true rfl, Nat.le_of_ble_eq_true rfl⟩) hP hD hS hA [5] [0, 1, 2, 3, 4, 6] rfl rfl (by decide) (by decide) (fun H locs hP hD hS => ?_)
        clear hc
        have hP : va_P D classes [(o, .inr (12, mo q z)), (b1, .inl (cy 1, 8, .inl u4)), (b2, .inl (cy 1, 8, .inl h2)), ((q 48), .inl (cy 1, 8, .inl f10)), ((q 49), .inl (cy 1, 8, .inl u1)), ((q 67), .inl (cy 1, 8, .inl u3)), ((q 66), .inl (cy 1, 8, .inl f14))] H := hP
        have hD : va_D A [(o, .inr (12, mo q z)), (b1, .inl (cy 1, 8, .inl u4)), (b2, .inl (cy 1, 8, .inl h2)), ((q 48), .inl (cy 1, 8, .inl f10)), ((q 49), .inl (cy 1, 8, .inl u1)), ((q 67), .inl (cy 1, 8, .inl u3)), ((q 66), .inl (cy 1, 8, .inl f14))] := hD
        refine lv_pop hx hb d_M_inverse_257 rfl ?_
        refine lv_goto (tgt := 57) hx hb d_M_inverse_258 (by decide) ?_
        exact hk_57 _ _ _ _ _ _ hf _ _ _ (hP.sub (ws' := [(o, .inr (12, mo q z)), ((q 48), .inl (cy 1, 8, .inl f10)), ((q 49), .inl (cy 1, 8, .inl u1)), ((q 66), .inl (cy 1, 8, .inl f14)), ((q 67), .inl (cy 1, 8, .inl u3)), (b1, .inl (cy 1, 8, .inl u4)), (b2, .inl (cy 1, 8, .inl h2))]) [0, 3, 4, 6, 5, 1, 2] rfl) (hD.sub (ws' := [(o, .inr (12, mo q z)), ((q 48), .inl (cy 1, 8, .inl f10)), ((q 49), .inl (cy 1, 8, .inl u1)), ((q 66), .inl (cy 1, 8, .inl f14)), ((q 67), .inl (cy 1, 8, .inl u3)), (b1, .inl (cy 1, 8, .inl u4)), (b2, .inl (cy 1, 8, .inl h2))]) [0, 3, 4, 6, 5, 1, 2] (by decide) rfl) hS (lv_sub hl [0, 1, 2] rfl)
  · have hf := ifp cx hf
    refine lv_aload_n hx hb d_M_inverse_148 rfl (lv_at hl 0 rfl) ?_
    refine va_get (D := D) (ci := 12) (v := .ref (q 49)) (C := "CoinKeeperModel") (T := F_12) (N := 98) hx hb hts i_12 hown hK hP 0 rfl rfl 57 (by decide) (hts _ gw_1476) (fun _ h9 => h9) rfl d_M_inverse_149 ?_
    refine lv_iconst (v := 0) hx hb d_M_inverse_152 (by decide) ?_
    obtain ⟨f15, hc, hf⟩ := bdp1 hf
    refine q_av (wr := [(o, .inr (12, mo q z)), ((q 48), .inl (cy 1, 8, .inl u0)), ((q 66), .inl (cy 1, 8, .inl u2)), ((q 67), .inl (cy 1, 8, .inl u3)), (b1, .inl (cy 1, 8, .inl u4)), (b2, .inl (cy 1, 8, .inl h2))]) (va_runS (As := [.ref (q 49), .int (0 : Int32)]) (rest := []) ⟨hx, hb, hml, hown, hts⟩ (c_M_half l D cy ad fu (q 49) (0 : Int32) u1 _ hc H.size) ⟨q_cB hts gw_1990 gw_18 gw_1988 hdm_23 ⟨by decide, by decide⟩, hts _ gw_1989⟩ (q_pre (hP.sub [2] rfl) (hD.sub [2] (by decide) rfl) hK hSt hS (va_free hD hS hA [2] rfl) _) rfl rfl hl.1 rfl (lv_room (Nat.le_of_ble_eq_true rfl)) d_M_inverse_153 ⟨Nat.le_of_ble_eq_true rfl, Nat.le_of_ble_eq_true rfl⟩) hP hD hS hA [2] [0, 1, 3, 4, 5, 6] rfl rfl (by decide) (by decide) (fun H locs hP hD hS => ?_)
    clear hc
    have hP : va_P D classes [(o, .inr (12, mo q z)), ((q 48), .inl (cy 1, 8, .inl u0)), ((q 66), .inl (cy 1, 8, .inl u2)), ((q 67), .inl (cy 1, 8, .inl u3)), (b1, .inl (cy 1, 8, .inl u4)), (b2, .inl (cy 1, 8, .inl h2)), ((q 49), .inl (cy 1, 8, .inl f15))] H := hP
    have hD : va_D A [(o, .inr (12, mo q z)), ((q 48), .inl (cy 1, 8, .inl u0)), ((q 66), .inl (cy 1, 8, .inl u2)), ((q 67), .inl (cy 1, 8, .inl u3)), (b1, .inl (cy 1, 8, .inl u4)), (b2, .inl (cy 1, 8, .inl h2)), ((q 49), .inl (cy 1, 8, .inl f15))] := hD
    refine lv_aload_n hx hb d_M_inverse_156 rfl (lv_at hl 0 rfl) ?_
    refine va_get (D := D) (ci := 12) (v := .ref (q 67)) (C := "CoinKeeperModel") (T := F_12) (N := 98) hx hb hts i_12 hown hK hP 0 rfl rfl 76 (by decide) (hts _ gw_1495) (fun _ h9 => h9) rfl d_M_inverse_157 ?_
    refine lv_iconst (v := 0) hx hb d_M_inverse_160 (by decide) ?_
    refine va_iald hx hb hK hP 3 1 rfl rfl (inb_in (by decide)) d_M_inverse_161 ?_
    refine lv_topi (fun v16 ev => ?_)
    have hf := bn ev hf
    clear ev
    refine lv_iconst (v := 1) hx hb d_M_inverse_162 (by decide) ?_
    refine lv_iand hx hb d_M_inverse_163 ?_
    refine lv_if_ne (tgt := 171) hx hb d_M_inverse_164 (by decide) (fun cx => ?_) (fun cx => ?_)
    · have hf := ifn cx hf
      refine lv_aload_n hx hb d_M_inverse_171 rfl (lv_at hl 0 rfl) ?_
      refine va_get (D := D) (ci := 12) (v := .ref (q 67)) (C := "CoinKeeperModel") (T := F_12) (N := 98) hx hb hts i_12 hown hK hP 0 rfl rfl 76 (by decide) (hts _ gw_1495) (fun _ h9 => h9) rfl d_M_inverse_172 ?_
      refine lv_aload_n hx hb d_M_inverse_175 rfl (lv_at hl 0 rfl) ?_
      refine va_get (D := D) (ci := 12) (v := .ref (q 67)) (C := "CoinKeeperModel") (T := F_12) (N := 98) hx hb hts i_12 hown hK hP 0 rfl rfl 76 (by decide) (hts _ gw_1495) (fun _ h9 => h9) rfl d_M_inverse_176 ?_
      refine lv_aload_n hx hb d_M_inverse_179 rfl (lv_at hl 2 rfl) ?_
      obtain ⟨v17, f18, hc, hf⟩ := bdp2 hf
      refine q_ai (wr := [(o, .inr (12, mo q z)), ((q 48), .inl (cy 1, 8, .inl u0)), ((q 66), .inl (cy 1, 8, .inl u2)), (b1, .inl (cy 1, 8, .inl u4)), (b2, .inl (cy 1, 8, .inl h2)), ((q 49), .inl (cy 1, 8, .inl f15))]) (va_runS (As := [.ref (q 67), .ref (q 67), .ref (ad 22)]) (rest := []) ⟨hx, hb, hml, hown, hts⟩ (c_M_add_e10s2x22 l D cy ad fu (q 67) u3 _ hc H.size) ⟨q_cB hts gw_1389 gw_18 gw_1387 hdm_19 ⟨by decide, by decide⟩, hts _ gw_1388⟩ (q_pre (hP.sub [3] rfl) (hD.sub [3] (by decide) rfl) hK hSt hS (va_free hD hS hA [3] rfl) _) rfl rfl hl.1 rfl (lv_room (Nat.le_of_ble_eq_true rfl)) d_M_inverse_180 ⟨Nat.le_of_ble_eq_true rfl, Nat.le_of_ble_eq_true rfl⟩) hP hD hS hA [3] [0, 1, 2, 4, 5, 6] rfl rfl (by decide) (by decide) (fun H locs hP hD hS => ?_)
      clear hc
      have hP : va_P D classes [(o, .inr (12, mo q z)), ((q 48), .inl (cy 1, 8, .inl u0)), ((q 66), .inl (cy 1, 8, .inl u2)), (b1, .inl (cy 1, 8, .inl u4)), (b2, .inl (cy 1, 8, .inl h2)), ((q 49), .inl (cy 1, 8, .inl f15)), ((q 67), .inl (cy 1, 8, .inl f18))] H := hP
      have hD : va_D A [(o, .inr (12, mo q z)), ((q 48), .inl (cy 1, 8, .inl u0)), ((q 66), .inl (cy 1, 8, .inl u2)), (b1, .inl (cy 1, 8, .inl u4)), (b2, .inl (cy 1, 8, .inl h2)), ((q 49), .inl (cy 1, 8, .inl f15)), ((q 67), .inl (cy 1, 8, .inl f18))] := hD
      exact wb_M_inverse_s3x22_183 (fu := fu) F hk_57 hk_137 _ _ _ _ _ _ _ hf _ _ _ (hP.sub (ws' := [(o, .inr (12, mo q z)), ((q 48), .inl (cy 1, 8, .inl u0)), ((q 49), .inl (cy 1, 8, .inl f15)), ((q 66), .inl (cy 1, 8, .inl u2)), ((q 67), .inl (cy 1, 8, .inl f18)), (b1, .inl (cy 1, 8, .inl u4)), (b2, .inl (cy 1, 8, .inl h2))]) [0, 1, 5, 2, 6, 3, 4] rfl) (hD.sub (ws' := [(o, .inr (12, mo q z)), ((q 48), .inl (cy 1, 8, .inl u0)), ((q 49), .inl (cy 1, 8, .inl f15)), ((q 66), .inl (cy 1, 8, .inl u2)), ((q 67), .inl (cy 1, 8, .inl f18)), (b1, .inl (cy 1, 8, .inl u4)), (b2, .inl (cy 1, 8, .inl h2))]) [0, 1, 5, 2, 6, 3, 4] (by decide) rfl) hS (lv_sub hl [0, 1, 2] rfl)
    · have hf := ifp cx hf
      refine lv_iconst (v := 0) hx hb d_M_inverse_167 (by decide) ?_
      refine lv_goto (tgt := 183) hx hb d_M_inverse_168 (by decide) ?_
      exact wb_M_inverse_s3x22_183 (fu := fu) F hk_57 hk_137 _ _ _ _ _ _ _ hf _ _ _ (hP.sub (ws' := [(o, .inr (12, mo q z)), ((q 48), .inl (cy 1, 8, .inl u0)), ((q 49), .inl (cy 1, 8, .inl f15)), ((q 66), .inl (cy 1, 8, .inl u2)), ((q 67), .inl (cy 1, 8, .inl u3)), (b1, .inl (cy 1, 8, .inl u4)), (b2, .inl (cy 1, 8, .inl h2))]) [0, 1, 6, 2, 3, 4, 5] rfl) (hD.sub (ws' := [(o, .inr (12, mo q z)), ((q 48), .inl (cy 1, 8, .inl u0)), ((q 49), .inl (cy 1, 8, .inl f15)), ((q 66), .inl (cy 1, 8, .inl u2)), ((q 67), .inl (cy 1, 8, .inl u3)), (b1, .inl (cy 1, 8, .inl u4)), (b2, .inl (cy 1, 8, .inl h2))]) [0, 1, 6, 2, 3, 4, 5] (by decide) rfl) hS (lv_sub hl [0, 1, 2] rfl)
theorem w_M_inverse_s3x22_137 {p : Program} {l : Launch} {e : Env} {s : State} {m : MethodId} {args : Array Value} {below : List Frame} {meth : Method} {c : Code} {D : va_G} {cy : Nat → ClassId} {A : Nat → Prop} {ad : Nat → Nat} {o : Nat} {q : Nat → Nat} {b1 : Nat} {b2 : Nat} {z : Nat → Int32} {h2 : Nat → Int32} {fu : Nat} {k_57 : (Nat → Int32) → (Nat → Int32) → (Nat → Int32) → (Nat → Int32) → (Nat → Int32) → Option ((Nat → Int32) × (Nat → Int32) × (Nat → Int32) × (Nat → Int32) × (Nat → Int32))} (F : Fx p s m args meth c b_M_inverse 5 "CoinKeeperModel" "inverse" none D cy ad A) (hk_57 : I_M_inverse_s3x22_57 p l e s m args below meth c D cy A ad o q b1 b2 z h2 k_57) : ∀ n : Nat, I_M_inverse_s3x22_137 p l e s m args below meth c D cy A ad o q b1 b2 z h2 (x_M_inverse_s3x22_137 fu z h2 k_57 n)
  | 0 => fun _ _ _ _ _ _ hf => nomatch (show (none : Option ((Nat → Int32) × (Nat → Int32) × (Nat → Int32) × (Nat → Int32) × (Nat → Int32))) = some _ from hf)
  | n + 1 => wb_M_inverse_s3x22_137 F hk_57 (w_M_inverse_s3x22_137 F hk_57 n)
set_option maxHeartbeats 8000000 in
set_option maxRecDepth 100000 in
theorem wb_M_inverse_s3x22_123 {p : Program} {l : Launch} {e : Env} {s : State} {m : MethodId} {args : Array Value} {below : List Frame} {meth : Method} {c : Code} {D : va_G} {cy : Nat → ClassId} {A : Nat → Prop} {ad : Nat → Nat} {o : Nat} {q : Nat → Nat} {b1 : Nat} {b2 : Nat} {z : Nat → Int32} {h2 : Nat → Int32} {fu : Nat} {k_57 : (Nat → Int32) → (Nat → Int32) → (Nat → Int32) → (Nat → Int32) → (Nat → Int32) → Option ((Nat → Int32) × (Nat → Int32) × (Nat → Int32) × (Nat → Int32) × (Nat → Int32))} {k_77 : (Nat → Int32) → (Nat → Int32) → (Nat → Int32) → (Nat → Int32) → (Nat → Int32) → Option ((Nat → Int32) × (Nat → Int32) × (Nat → Int32) × (Nat → Int32) × (Nat → Int32))} (F : Fx p s m args meth c b_M_inverse 5 "CoinKeeperModel" "inverse" none D cy ad A) (hk_57 : I_M_inverse_s3x22_57 p l e s m args below meth c D cy A ad o q b1 b2 z h2 k_57) (hk_77 : I_M_inverse_s3x22_77 p l e s m args below meth c D cy A ad o q b1 b2 z h2 k_77) : I_M_inverse_s3x22_123 p l e s m args below meth c D cy A ad o q b1 b2 z h2 (xb_M_inverse_s3x22_123 fu z h2 k_57 k_77) := by
  obtain ⟨hx, hb, hr, hml, hown, hts, hlocks, hK, hA, hSt, hnm, hex⟩ := id F
  intro y0 u0 u1 u2 u3 u4 res hf H locs ls hP hD hS hl
  unfold xb_M_inverse_s3x22_123 at hf
  refine lv_istore (lv' := [(4, .int y0), (0, .ref o), (1, .ref b1), (3, .ref (ad 22))]) hx hb d_M_inverse_123 hl (by decide) rfl (fun ls hl => ?_)
  refine lv_aload_n hx hb d_M_inverse_125 rfl (lv_at hl 1 rfl) ?_
  refine va_get (D := D) (ci := 12) (v := .ref (q 66)) (C := "CoinKeeperModel") (T := F_12) (N := 98) hx hb hts i_12 hown hK hP 0 rfl rfl 75 (by decide) (hts _ gw_1494) (fun _ h9 => h9) rfl d_M_inverse_126 ?_
  refine lv_iload hx hb d_M_inverse_129 (lv_at hl 0 rfl) ?_
  obtain ⟨f1, hc, hf⟩ := bdp1 hf
  refine q_av (wr := [(o, .inr (12, mo q z)), ((q 48), .inl (cy 1, 8, .inl u0)), ((q 49), .inl (cy 1, 8, .inl u1)), ((q 67), .inl (cy 1, 8, .inl u3)), (b1, .inl (cy 1, 8, .inl u4)), (b2, .inl (cy 1, 8, .inl h2))]) (va_runS (As := [.ref (q 66), .int y0]) (rest := []) ⟨hx, hb, hml, hown, hts⟩ (c_M_half l D cy ad fu (q 66) y0 u2 _ hc H.size) ⟨q_cB hts gw_1990 gw_18 gw_1988 hdm_23 ⟨by decide, by decide⟩, hts _ gw_1989⟩ (q_pre (hP.sub [3] rfl) (hD.sub [3] (by decide) rfl) hK hSt hS (va_free hD hS hA [3] rfl) _) rfl rfl hl.1 rfl (lv_room (Nat.le_of_ble_eq_true rfl)) d_M_inverse_131 ⟨Nat.le_of_ble_eq_true rfl, Nat.le_of_ble_eq_true rfl⟩) hP hD hS hA [3] [0, 1, 2, 4, 5, 6] rfl rfl (by decide) (by decide) (fun H locs hP hD hS => ?_)
  clear hc
  have hP : va_P D classes [(o, .inr (12, mo q z)), ((q 48), .inl (cy 1, 8, .inl u0)), ((q 49), .inl (cy 1, 8, .inl u1)), ((q 67), .inl (cy 1, 8, .inl u3)), (b1, .inl (cy 1, 8, .inl u4)), (b2, .inl (cy 1, 8, .inl h2)), ((q 66), .inl (cy 1, 8, .inl f1))] H := hP
  have hD : va_D A [(o, .inr (12, mo q z)), ((q 48), .inl (cy 1, 8, .inl u0)), ((q 49), .inl (cy 1, 8, .inl u1)), ((q 67), .inl (cy 1, 8, .inl u3)), (b1, .inl (cy 1, 8, .inl u4)), (b2, .inl (cy 1, 8, .inl h2)), ((q 66), .inl (cy 1, 8, .inl f1))] := hD
  refine lv_goto (tgt := 77) hx hb d_M_inverse_134 (by decide) ?_
  exact hk_77 _ _ _ _ _ _ hf _ _ _ (hP.sub (ws' := [(o, .inr (12, mo q z)), ((q 48), .inl (cy 1, 8, .inl u0)), ((q 49), .inl (cy 1, 8, .inl u1)), ((q 66), .inl (cy 1, 8, .inl f1)), ((q 67), .inl (cy 1, 8, .inl u3)), (b1, .inl (cy 1, 8, .inl u4)), (b2, .inl (cy 1, 8, .inl h2))]) [0, 1, 2, 6, 3, 4, 5] rfl) (hD.sub (ws' := [(o, .inr (12, mo q z)), ((q 48), .inl (cy 1, 8, .inl u0)), ((q 49), .inl (cy 1, 8, .inl u1)), ((q 66), .inl (cy 1, 8, .inl f1)), ((q 67), .inl (cy 1, 8, .inl u3)), (b1, .inl (cy 1, 8, .inl u4)), (b2, .inl (cy 1, 8, .inl h2))]) [0, 1, 2, 6, 3, 4, 5] (by decide) rfl) hS (lv_sub hl [1, 2, 3] rfl)
set_option maxHeartbeats 8000000 in
set_option maxRecDepth 100000 in
theorem wb_M_inverse_s3x22_77 {p : Program} {l : Launch} {e : Env} {s : State} {m : MethodId} {args : Array Value} {below : List Frame} {meth : Method} {c : Code} {D : va_G} {cy : Nat → ClassId} {A : Nat → Prop} {ad : Nat → Nat} {o : Nat} {q : Nat → Nat} {b1 : Nat} {b2 : Nat} {z : Nat → Int32} {h2 : Nat → Int32} {fu : Nat} {k_57 : (Nat → Int32) → (Nat → Int32) → (Nat → Int32) → (Nat → Int32) → (Nat → Int32) → Option ((Nat → Int32) × (Nat → Int32) × (Nat → Int32) × (Nat → Int32) × (Nat → Int32))} {k_77 : (Nat → Int32) → (Nat → Int32) → (Nat → Int32) → (Nat → Int32) → (Nat → Int32) → Option ((Nat → Int32) × (Nat → Int32) × (Nat → Int32) × (Nat → Int32) × (Nat → Int32))} (F : Fx p s m args meth c b_M_inverse 5 "CoinKeeperModel" "inverse" none D cy ad A) (hk_57 : I_M_inverse_s3x22_57 p l e s m args below meth c D cy A ad o q b1 b2 z h2 k_57) (hk_77 : I_M_inverse_s3x22_77 p l e s m args below meth c D cy A ad o q b1 b2 z h2 k_77) : I_M_inverse_s3x22_77 p l e s m args below meth c D cy A ad o q b1 b2 z h2 (xb_M_inverse_s3x22_77 fu z h2 k_57 k_77) := by
  obtain ⟨hx, hb, hr, hml, hown, hts, hlocks, hK, hA, hSt, hnm, hex⟩ := id F
  intro u0 u1 u2 u3 u4 res hf H locs ls hP hD hS hl
  unfold xb_M_inverse_s3x22_77 at hf
  refine lv_aload_n hx hb d_M_inverse_77 rfl (lv_at hl 0 rfl) ?_
  refine va_get (D := D) (ci := 12) (v := .ref (q 48)) (C := "CoinKeeperModel") (T := F_12) (N := 98) hx hb hts i_12 hown hK hP 0 rfl rfl 56 (by decide) (hts _ gw_1475) (fun _ h9 => h9) rfl d_M_inverse_78 ?_
  refine lv_iconst (v := 0) hx hb d_M_inverse_81 (by decide) ?_
  refine va_iald hx hb hK hP 1 1 rfl rfl (inb_in (by decide)) d_M_inverse_82 ?_
  refine lv_topi (fun v1 ev => ?_)
  have hf := bn ev hf
  clear ev
  refine lv_iconst (v := 1) hx hb d_M_inverse_83 (by decide) ?_
  refine lv_iand hx hb d_M_inverse_84 ?_
  refine lv_if_ne (tgt := 137) hx hb d_M_inverse_85 (by decide) (fun cx => ?_) (fun cx => ?_)
  · have hf := ifn cx hf
    exact w_M_inverse_s3x22_137 F hk_57 fu _ _ _ _ _ _ hf _ _ _ hP hD hS (lv_sub hl [0, 1, 2] rfl)
  · have hf := ifp cx hf
    refine lv_aload_n hx hb d_M_inverse_88 rfl (lv_at hl 0 rfl) ?_
    refine va_get (D := D) (ci := 12) (v := .ref (q 48)) (C := "CoinKeeperModel") (T := F_12) (N := 98) hx hb hts i_12 hown hK hP 0 rfl rfl 56 (by decide) (hts _ gw_1475) (fun _ h9 => h9) rfl d_M_inverse_89 ?_
    refine lv_iconst (v := 0) hx hb d_M_inverse_92 (by decide) ?_
    obtain ⟨f2, hc, hf⟩ := bdp1 hf
    refine q_av (wr := [(o, .inr (12, mo q z)), ((q 49), .inl (cy 1, 8, .inl u1)), ((q 66), .inl (cy 1, 8, .inl u2)), ((q 67), .inl (cy 1, 8, .inl u3)), (b1, .inl (cy 1, 8, .inl u4)), (b2, .inl (cy 1, 8, .inl h2))]) (va_runS (As := [.ref (q 48), .int (0 : Int32)]) (rest := []) ⟨hx, hb, hml, hown, hts⟩ (c_M_half l D cy ad fu (q 48) (0 : Int32) u0 _ hc H.size) ⟨q_cB hts gw_1990 gw_18 gw_1988 hdm_23 ⟨by decide, by decide⟩, hts _ gw_1989⟩ (q_pre (hP.sub [1] rfl) (hD.sub [1] (by decide) rfl) hK hSt hS (va_free hD hS hA [1] rfl) _) rfl rfl hl.1 rfl (lv_room (Nat.le_of_ble_eq_true rfl)) d_M_inverse_93 ⟨Nat.le_of_ble_eq_true rfl, Nat.le_of_ble_eq_true rfl⟩) hP hD hS hA [1] [0, 2, 3, 4, 5, 6] rfl rfl (by decide) (by decide) (fun H locs hP hD hS => ?_)
    clear hc
    have hP : va_P D classes [(o, .inr (12, mo q z)), ((q 49), .inl (cy 1, 8, .inl u1)), ((q 66), .inl (cy 1, 8, .inl u2)), ((q 67), .inl (cy 1, 8, .inl u3)), (b1, .inl (cy 1, 8, .inl u4)), (b2, .inl (cy 1, 8, .inl h2)), ((q 48), .inl (cy 1, 8, .inl f2))] H := hP
    have hD : va_D A [(o, .inr (12, mo q z)), ((q 49), .inl (cy 1, 8, .inl u1)), ((q 66), .inl (cy 1, 8, .inl u2)), ((q 67), .inl (cy 1, 8, .inl u3)), (b1, .inl (cy 1, 8, .inl u4)), (b2, .inl (cy 1, 8, .inl h2)), ((q 48), .inl (cy 1, 8, .inl f2))] := hD
    refine lv_aload_n hx hb d_M_inverse_96 rfl (lv_at hl 0 rfl) ?_
    refine va_get (D := D) (ci := 12) (v := .ref (q 66)) (C := "CoinKeeperModel") (T := F_12) (N := 98) hx hb hts i_12 hown hK hP 0 rfl rfl 75 (by decide) (hts _ gw_1494) (fun _ h9 => h9) rfl d_M_inverse_97 ?_
    refine lv_iconst (v := 0) hx hb d_M_inverse_100 (by decide) ?_
    refine va_iald hx hb hK hP 2 1 rfl rfl (inb_in (by decide)) d_M_inverse_101 ?_
    refine lv_topi (fun v3 ev => ?_)
    have hf := bn ev hf
    clear ev
    refine lv_iconst (v := 1) hx hb d_M_inverse_102 (by decide) ?_
    refine lv_iand hx hb d_M_inverse_103 ?_
    refine lv_if_ne (tgt := 111) hx hb d_M_inverse_104 (by decide) (fun cx => ?_) (fun cx => ?_)
    · have hf := ifn cx hf
      refine lv_aload_n hx hb d_M_inverse_111 rfl (lv_at hl 0 rfl) ?_
      refine va_get (D := D) (ci := 12) (v := .ref (q 66)) (C := "CoinKeeperModel") (T := F_12) (N := 98) hx hb hts i_12 hown hK hP 0 rfl rfl 75 (by decide) (hts _ gw_1494) (fun _ h9 => h9) rfl d_M_inverse_112 ?_
      refine lv_aload_n hx hb d_M_inverse_115 rfl (lv_at hl 0 rfl) ?_
      refine va_get (D := D) (ci := 12) (v := .ref (q 66)) (C := "CoinKeeperModel") (T := F_12) (N := 98) hx hb hts i_12 hown hK hP 0 rfl rfl 75 (by decide) (hts _ gw_1494) (fun _ h9 => h9) rfl d_M_inverse_116 ?_
      refine lv_aload_n hx hb d_M_inverse_119 rfl (lv_at hl 2 rfl) ?_
      obtain ⟨v4, f5, hc, hf⟩ := bdp2 hf
      refine q_ai (wr := [(o, .inr (12, mo q z)), ((q 49), .inl (cy 1, 8, .inl u1)), ((q 67), .inl (cy 1, 8, .inl u3)), (b1, .inl (cy 1, 8, .inl u4)), (b2, .inl (cy 1, 8, .inl h2)), ((q 48), .inl (cy 1, 8, .inl f2))]) (va_runS (As := [.ref (q 66), .ref (q 66), .ref (ad 22)]) (rest := []) ⟨hx, hb, hml, hown, hts⟩ (c_M_add_e10s2x22 l D cy ad fu (q 66) u2 _ hc H.size) ⟨q_cB hts gw_1389 gw_18 gw_1387 hdm_19 ⟨by decide, by decide⟩, hts _ gw_1388⟩ (q_pre (hP.sub [2] rfl) (hD.sub [2] (by decide) rfl) hK hSt hS (va_free hD hS hA [2] rfl) _) rfl rfl hl.1 rfl (lv_room (Nat.le_of_ble_eq_true rfl)) d_M_inverse_120 ⟨Nat.le_of_ble_eq_true rfl, Nat.le_of_ble_eq_true rfl⟩) hP hD hS hA [2] [0, 1, 3, 4, 5, 6] rfl rfl (by decide) (by decide) (fun H locs hP hD hS => ?_)
      clear hc
      have hP : va_P D classes [(o, .inr (12, mo q z)), ((q 49), .inl (cy 1, 8, .inl u1)), ((q 67), .inl (cy 1, 8, .inl u3)), (b1, .inl (cy 1, 8, .inl u4)), (b2, .inl (cy 1, 8, .inl h2)), ((q 48), .inl (cy 1, 8, .inl f2)), ((q 66), .inl (cy 1, 8, .inl f5))] H := hP
      have hD : va_D A [(o, .inr (12, mo q z)), ((q 49), .inl (cy 1, 8, .inl u1)), ((q 67), .inl (cy 1, 8, .inl u3)), (b1, .inl (cy 1, 8, .inl u4)), (b2, .inl (cy 1, 8, .inl h2)), ((q 48), .inl (cy 1, 8, .inl f2)), ((q 66), .inl (cy 1, 8, .inl f5))] := hD
      exact wb_M_inverse_s3x22_123 (fu := fu) F hk_57 hk_77 _ _ _ _ _ _ _ hf _ _ _ (hP.sub (ws' := [(o, .inr (12, mo q z)), ((q 48), .inl (cy 1, 8, .inl f2)), ((q 49), .inl (cy 1, 8, .inl u1)), ((q 66), .inl (cy 1, 8, .inl f5)), ((q 67), .inl (cy 1, 8, .inl u3)), (b1, .inl (cy 1, 8, .inl u4)), (b2, .inl (cy 1, 8, .inl h2))]) [0, 5, 1, 6, 2, 3, 4] rfl) (hD.sub (ws' := [(o, .inr (12, mo q z)), ((q 48), .inl (cy 1, 8, .inl f2)), ((q 49), .inl (cy 1, 8, .inl u1)), ((q 66), .inl (cy 1, 8, .inl f5)), ((q 67), .inl (cy 1, 8, .inl u3)), (b1, .inl (cy 1, 8, .inl u4)), (b2, .inl (cy 1, 8, .inl h2))]) [0, 5, 1, 6, 2, 3, 4] (by decide) rfl) hS (lv_sub hl [0, 1, 2] rfl)
    · have hf := ifp cx hf
      refine lv_iconst (v := 0) hx hb d_M_inverse_107 (by decide) ?_
      refine lv_goto (tgt := 123) hx hb d_M_inverse_108 (by decide) ?_
      exact wb_M_inverse_s3x22_123 (fu := fu) F hk_57 hk_77 _ _ _ _ _ _ _ hf _ _ _ (hP.sub (ws' := [(o, .inr (12, mo q z)), ((q 48), .inl (cy 1, 8, .inl f2)), ((q 49), .inl (cy 1, 8, .inl u1)), ((q 66), .inl (cy 1, 8, .inl u2)), ((q 67), .inl (cy 1, 8, .inl u3)), (b1, .inl (cy 1, 8, .inl u4)), (b2, .inl (cy 1, 8, .inl h2))]) [0, 6, 1, 2, 3, 4, 5] rfl) (hD.sub (ws' := [(o, .inr (12, mo q z)), ((q 48), .inl (cy 1, 8, .inl f2)), ((q 49), .inl (cy 1, 8, .inl u1)), ((q 66), .inl (cy 1, 8, .inl u2)), ((q 67), .inl (cy 1, 8, .inl u3)), (b1, .inl (cy 1, 8, .inl u4)), (b2, .inl (cy 1, 8, .inl h2))]) [0, 6, 1, 2, 3, 4, 5] (by decide) rfl) hS (lv_sub hl [0, 1, 2] rfl)
theorem w_M_inverse_s3x22_77 {p : Program} {l : Launch} {e : Env} {s : State} {m : MethodId} {args : Array Value} {below : List Frame} {meth : Method} {c : Code} {D : va_G} {cy : Nat → ClassId} {A : Nat → Prop} {ad : Nat → Nat} {o : Nat} {q : Nat → Nat} {b1 : Nat} {b2 : Nat} {z : Nat → Int32} {h2 : Nat → Int32} {fu : Nat} {k_57 : (Nat → Int32) → (Nat → Int32) → (Nat → Int32) → (Nat → Int32) → (Nat → Int32) → Option ((Nat → Int32) × (Nat → Int32) × (Nat → Int32) × (Nat → Int32) × (Nat → Int32))} (F : Fx p s m args meth c b_M_inverse 5 "CoinKeeperModel" "inverse" none D cy ad A) (hk_57 : I_M_inverse_s3x22_57 p l e s m args below meth c D cy A ad o q b1 b2 z h2 k_57) : ∀ n : Nat, I_M_inverse_s3x22_77 p l e s m args below meth c D cy A ad o q b1 b2 z h2 (x_M_inverse_s3x22_77 fu z h2 k_57 n)
  | 0 => fun _ _ _ _ _ _ hf => nomatch (show (none : Option ((Nat → Int32) × (Nat → Int32) × (Nat → Int32) × (Nat → Int32) × (Nat → Int32))) = some _ from hf)
  | n + 1 => wb_M_inverse_s3x22_77 F hk_57 (w_M_inverse_s3x22_77 F hk_57 n)
set_option maxHeartbeats 8000000 in
set_option maxRecDepth 100000 in
theorem wb_M_inverse_s3x22_57 {p : Program} {l : Launch} {e : Env} {s : State} {m : MethodId} {args : Array Value} {below : List Frame} {meth : Method} {c : Code} {D : va_G} {cy : Nat → ClassId} {A : Nat → Prop} {ad : Nat → Nat} {o : Nat} {q : Nat → Nat} {b1 : Nat} {b2 : Nat} {z : Nat → Int32} {h2 : Nat → Int32} {fu : Nat} {k_57 : (Nat → Int32) → (Nat → Int32) → (Nat → Int32) → (Nat → Int32) → (Nat → Int32) → Option ((Nat → Int32) × (Nat → Int32) × (Nat → Int32) × (Nat → Int32) × (Nat → Int32))} (F : Fx p s m args meth c b_M_inverse 5 "CoinKeeperModel" "inverse" none D cy ad A) (hk_57 : I_M_inverse_s3x22_57 p l e s m args below meth c D cy A ad o q b1 b2 z h2 k_57) : I_M_inverse_s3x22_57 p l e s m args below meth c D cy A ad o q b1 b2 z h2 (xb_M_inverse_s3x22_57 fu z h2 k_57) := by
  obtain ⟨hx, hb, hr, hml, hown, hts, hlocks, hK, hA, hSt, hnm, hex⟩ := id F
  intro u0 u1 u2 u3 u4 res hf H locs ls hP hD hS hl
  unfold xb_M_inverse_s3x22_57 at hf
  refine lv_aload_n hx hb d_M_inverse_57 rfl (lv_at hl 0 rfl) ?_
  refine va_get (D := D) (ci := 12) (v := .ref (q 48)) (C := "CoinKeeperModel") (T := F_12) (N := 98) hx hb hts i_12 hown hK hP 0 rfl rfl 56 (by decide) (hts _ gw_1475) (fun _ h9 => h9) rfl d_M_inverse_58 ?_
  obtain ⟨v1, hc, hf⟩ := bdp1 hf
  refine q_ai (wr := [(o, .inr (12, mo q z)), ((q 49), .inl (cy 1, 8, .inl u1)), ((q 66), .inl (cy 1, 8, .inl u2)), ((q 67), .inl (cy 1, 8, .inl u3)), (b1, .inl (cy 1, 8, .inl u4)), (b2, .inl (cy 1, 8, .inl h2))]) (va_runS (As := [.ref (q 48)]) (rest := []) ⟨hx, hb, hml, hown, hts⟩ (c_M_isOne l D cy ad fu (q 48) u0 _ hc H.size) ⟨q_cB hts gw_2011 gw_18 gw_2009 hdm_28 ⟨by decide, by decide⟩, hts _ gw_2010⟩ (q_pre (hP.sub [1] rfl) (hD.sub [1] (by decide) rfl) hK hSt hS (va_free hD hS hA [1] rfl) _) rfl rfl hl.1 rfl (lv_room (Nat.le_of_ble_eq_true rfl)) d_M_inverse_61 ⟨Nat.le_of_ble_eq_true rfl, Nat.le_of_ble_eq_true rfl⟩) hP hD hS hA [1] [0, 2, 3, 4, 5, 6] rfl rfl (by decide) (by decide) (fun H locs hP hD hS => ?_)
  clear hc
  have hP : va_P D classes [(o, .inr (12, mo q z)), ((q 49), .inl (cy 1, 8, .inl u1)), ((q 66), .inl (cy 1, 8, .inl u2)), ((q 67), .inl (cy 1, 8, .inl u3)), (b1, .inl (cy 1, 8, .inl u4)), (b2, .inl (cy 1, 8, .inl h2)), ((q 48), .inl (cy 1, 8, .inl u0))] H := hP
  have hD : va_D A [(o, .inr (12, mo q z)), ((q 49), .inl (cy 1, 8, .inl u1)), ((q 66), .inl (cy 1, 8, .inl u2)), ((q 67), .inl (cy 1, 8, .inl u3)), (b1, .inl (cy 1, 8, .inl u4)), (b2, .inl (cy 1, 8, .inl h2)), ((q 48), .inl (cy 1, 8, .inl u0))] := hD
  refine lv_if_ne (tgt := 311) hx hb d_M_inverse_64 (by decide) (fun cx => ?_) (fun cx => ?_)
  · have hf := ifn cx hf
    exact wb_M_inverse_s3x22_311 (fu := fu) F _ _ _ _ _ _ hf _ _ _ (hP.sub (ws' := [(o, .inr (12, mo q z)), ((q 48), .inl (cy 1, 8, .inl u0)), ((q 49), .inl (cy 1, 8, .inl u1)), ((q 66), .inl (cy 1, 8, .inl u2)), ((q 67), .inl (cy 1, 8, .inl u3)), (b1, .inl (cy 1, 8, .inl u4)), (b2, .inl (cy 1, 8, .inl h2))]) [0, 6, 1, 2, 3, 4, 5] rfl) (hD.sub (ws' := [(o, .inr (12, mo q z)), ((q 48), .inl (cy 1, 8, .inl u0)), ((q 49), .inl (cy 1, 8, .inl u1)), ((q 66), .inl (cy 1, 8, .inl u2)), ((q 67), .inl (cy 1, 8, .inl u3)), (b1, .inl (cy 1, 8, .inl u4)), (b2, .inl (cy 1, 8, .inl h2))]) [0, 6, 1, 2, 3, 4, 5] (by decide) rfl) hS (lv_sub hl [0, 1] rfl)
  · have hf := ifp cx hf
    refine lv_aload_n hx hb d_M_inverse_67 rfl (lv_at hl 0 rfl) ?_
    refine va_get (D := D) (ci := 12) (v := .ref (q 49)) (C := "CoinKeeperModel") (T := F_12) (N := 98) hx hb hts i_12 hown hK hP 0 rfl rfl 57 (by decide) (hts _ gw_1476) (fun _ h9 => h9) rfl d_M_inverse_68 ?_
    obtain ⟨v2, hc, hf⟩ := bdp1 hf
    refine q_ai (wr := [(o, .inr (12, mo q z)), ((q 66), .inl (cy 1, 8, .inl u2)), ((q 67), .inl (cy 1, 8, .inl u3)), (b1, .inl (cy 1, 8, .inl u4)), (b2, .inl (cy 1, 8, .inl h2)), ((q 48), .inl (cy 1, 8, .inl u0))]) (va_runS (As := [.ref (q 49)]) (rest := []) ⟨hx, hb, hml, hown, hts⟩ (c_M_isOne l D cy ad fu (q 49) u1 _ hc H.size) ⟨q_cB hts gw_2011 gw_18 gw_2009 hdm_28 ⟨by decide, by decide⟩, hts _ gw_2010⟩ (q_pre (hP.sub [1] rfl) (hD.sub [1] (by decide) rfl) hK hSt hS (va_free hD hS hA [1] rfl) _) rfl rfl hl.1 rfl (lv_room (Nat.le_of_ble_eq_true rfl)) d_M_inverse_71 ⟨Nat.le_of_ble_eq_true rfl, Nat.le_of_ble_eq_true rfl⟩) hP hD hS hA [1] [0, 2, 3, 4, 5, 6] rfl rfl (by decide) (by decide) (fun H locs hP hD hS => ?_)
    clear hc
    have hP : va_P D classes [(o, .inr (12, mo q z)), ((q 66), .inl (cy 1, 8, .inl u2)), ((q 67), .inl (cy 1, 8, .inl u3)), (b1, .inl (cy 1, 8, .inl u4)), (b2, .inl (cy 1, 8, .inl h2)), ((q 48), .inl (cy 1, 8, .inl u0)), ((q 49), .inl (cy 1, 8, .inl u1))] H := hP
    have hD : va_D A [(o, .inr (12, mo q z)), ((q 66), .inl (cy 1, 8, .inl u2)), ((q 67), .inl (cy 1, 8, .inl u3)), (b1, .inl (cy 1, 8, .inl u4)), (b2, .inl (cy 1, 8, .inl h2)), ((q 48), .inl (cy 1, 8, .inl u0)), ((q 49), .inl (cy 1, 8, .inl u1))] := hD
    refine lv_if_ne (tgt := 311) hx hb d_M_inverse_74 (by decide) (fun cx => ?_) (fun cx => ?_)
    · have hf := ifn cx hf
      exact wb_M_inverse_s3x22_311 (fu := fu) F _ _ _ _ _ _ hf _ _ _ (hP.sub (ws' := [(o, .inr (12, mo q z)), ((q 48), .inl (cy 1, 8, .inl u0)), ((q 49), .inl (cy 1, 8, .inl u1)), ((q 66), .inl (cy 1, 8, .inl u2)), ((q 67), .inl (cy 1, 8, .inl u3)), (b1, .inl (cy 1, 8, .inl u4)), (b2, .inl (cy 1, 8, .inl h2))]) [0, 5, 6, 1, 2, 3, 4] rfl) (hD.sub (ws' := [(o, .inr (12, mo q z)), ((q 48), .inl (cy 1, 8, .inl u0)), ((q 49), .inl (cy 1, 8, .inl u1)), ((q 66), .inl (cy 1, 8, .inl u2)), ((q 67), .inl (cy 1, 8, .inl u3)), (b1, .inl (cy 1, 8, .inl u4)), (b2, .inl (cy 1, 8, .inl h2))]) [0, 5, 6, 1, 2, 3, 4] (by decide) rfl) hS (lv_sub hl [0, 1] rfl)
    · have hf := ifp cx hf
      exact w_M_inverse_s3x22_77 F hk_57 fu _ _ _ _ _ _ hf _ _ _ (hP.sub (ws' := [(o, .inr (12, mo q z)), ((q 48), .inl (cy 1, 8, .inl u0)), ((q 49), .inl (cy 1, 8, .inl u1)), ((q 66), .inl (cy 1, 8, .inl u2)), ((q 67), .inl (cy 1, 8, .inl u3)), (b1, .inl (cy 1, 8, .inl u4)), (b2, .inl (cy 1, 8, .inl h2))]) [0, 5, 6, 1, 2, 3, 4] rfl) (hD.sub (ws' := [(o, .inr (12, mo q z)), ((q 48), .inl (cy 1, 8, .inl u0)), ((q 49), .inl (cy 1, 8, .inl u1)), ((q 66), .inl (cy 1, 8, .inl u2)), ((q 67), .inl (cy 1, 8, .inl u3)), (b1, .inl (cy 1, 8, .inl u4)), (b2, .inl (cy 1, 8, .inl h2))]) [0, 5, 6, 1, 2, 3, 4] (by decide) rfl) hS (lv_sub hl [0, 1, 2] rfl)
theorem w_M_inverse_s3x22_57 {p : Program} {l : Launch} {e : Env} {s : State} {m : MethodId} {args : Array Value} {below : List Frame} {meth : Method} {c : Code} {D : va_G} {cy : Nat → ClassId} {A : Nat → Prop} {ad : Nat → Nat} {o : Nat} {q : Nat → Nat} {b1 : Nat} {b2 : Nat} {z : Nat → Int32} {h2 : Nat → Int32} {fu : Nat} (F : Fx p s m args meth c b_M_inverse 5 "CoinKeeperModel" "inverse" none D cy ad A) : ∀ n : Nat, I_M_inverse_s3x22_57 p l e s m args below meth c D cy A ad o q b1 b2 z h2 (x_M_inverse_s3x22_57 fu z h2 n)
  | 0 => fun _ _ _ _ _ _ hf => nomatch (show (none : Option ((Nat → Int32) × (Nat → Int32) × (Nat → Int32) × (Nat → Int32) × (Nat → Int32))) = some _ from hf)
  | n + 1 => wb_M_inverse_s3x22_57 F (w_M_inverse_s3x22_57 F n)
set_option maxHeartbeats 8000000 in
set_option maxRecDepth 100000 in
theorem wb_M_inverse_s3x22_42 {p : Program} {l : Launch} {e : Env} {s : State} {m : MethodId} {args : Array Value} {below : List Frame} {meth : Method} {c : Code} {D : va_G} {cy : Nat → ClassId} {A : Nat → Prop} {ad : Nat → Nat} {o : Nat} {q : Nat → Nat} {b1 : Nat} {b2 : Nat} {z : Nat → Int32} {h2 : Nat → Int32} {fu : Nat} {k_19 : Int32 → (Nat → Int32) → (Nat → Int32) → (Nat → Int32) → (Nat → Int32) → (Nat → Int32) → Option ((Nat → Int32) × (Nat → Int32) × (Nat → Int32) × (Nat → Int32) × (Nat → Int32))} (F : Fx p s m args meth c b_M_inverse 5 "CoinKeeperModel" "inverse" none D cy ad A) (hk_19 : I_M_inverse_s3x22_19 p l e s m args below meth c D cy A ad o q b1 b2 z h2 k_19) : I_M_inverse_s3x22_42 p l e s m args below meth c D cy A ad o q b1 b2 z h2 (xb_M_inverse_s3x22_42 fu z h2 k_19) := by
  obtain ⟨hx, hb, hr, hml, hown, hts, hlocks, hK, hA, hSt, hnm, hex⟩ := id F
  intro x4 y0 y1 u0 u1 u2 u3 u4 res hf H locs ls hP hD hS hl
  unfold xb_M_inverse_s3x22_42 at hf
  obtain ⟨hg, hf⟩ := gdp hf
  refine va_iast hx hb hK hP hD hS 3 1 rfl rfl (inb_in hg) d_M_inverse_42 (fun H locs hP hD hS => ?_)
  obtain ⟨f1, ev, hf⟩ := bne hf
  have hP : va_P D classes [(o, .inr (12, mo q z)), ((q 48), .inl (cy 1, 8, .inl u0)), ((q 49), .inl (cy 1, 8, .inl u1)), ((q 66), .inl (cy 1, 8, .inl f1)), ((q 67), .inl (cy 1, 8, .inl u3)), (b1, .inl (cy 1, 8, .inl u4)), (b2, .inl (cy 1, 8, .inl h2))] H := by rw [ev]; exact hP
  have hD : va_D A [(o, .inr (12, mo q z)), ((q 48), .inl (cy 1, 8, .inl u0)), ((q 49), .inl (cy 1, 8, .inl u1)), ((q 66), .inl (cy 1, 8, .inl f1)), ((q 67), .inl (cy 1, 8, .inl u3)), (b1, .inl (cy 1, 8, .inl u4)), (b2, .inl (cy 1, 8, .inl h2))] := by rw [ev]; exact hD
  clear ev
  refine lv_aload_n hx hb d_M_inverse_43 rfl (lv_at hl 0 rfl) ?_
  refine va_get (D := D) (ci := 12) (v := .ref (q 67)) (C := "CoinKeeperModel") (T := F_12) (N := 98) hx hb hts i_12 hown hK hP 0 rfl rfl 76 (by decide) (hts _ gw_1495) (fun _ h9 => h9) rfl d_M_inverse_44 ?_
  refine lv_iload hx hb d_M_inverse_47 (lv_at hl 3 rfl) ?_
  refine lv_iconst (v := 0) hx hb d_M_inverse_49 (by decide) ?_
  obtain ⟨hg, hf⟩ := gdp hf
  refine va_iast hx hb hK hP hD hS 4 1 rfl rfl (inb_in hg) d_M_inverse_50 (fun H locs hP hD hS => ?_)
  obtain ⟨f2, ev, hf⟩ := bne hf
  have hP : va_P D classes [(o, .inr (12, mo q z)), ((q 48), .inl (cy 1, 8, .inl u0)), ((q 49), .inl (cy 1, 8, .inl u1)), ((q 66), .inl (cy 1, 8, .inl f1)), ((q 67), .inl (cy 1, 8, .inl f2)), (b1, .inl (cy 1, 8, .inl u4)), (b2, .inl (cy 1, 8, .inl h2))] H := by rw [ev]; exact hP
  have hD : va_D A [(o, .inr (12, mo q z)), ((q 48), .inl (cy 1, 8, .inl u0)), ((q 49), .inl (cy 1, 8, .inl u1)), ((q 66), .inl (cy 1, 8, .inl f1)), ((q 67), .inl (cy 1, 8, .inl f2)), (b1, .inl (cy 1, 8, .inl u4)), (b2, .inl (cy 1, 8, .inl h2))] := by rw [ev]; exact hD
  clear ev
  obtain ⟨v3, ev, hf⟩ := bne hf
  refine lv_iinc (v := v3) (lv' := [(4, .int v3), (0, .ref o), (1, .ref b1), (3, .ref (ad 22))]) hx hb d_M_inverse_51 hl (k := 3) rfl (by rw [ev]; rfl) (by decide) rfl (fun ls hl => ?_)
  clear ev
  refine lv_goto (tgt := 19) hx hb d_M_inverse_54 (by decide) ?_
  exact hk_19 _ _ _ _ _ _ _ hf _ _ _ hP hD hS (lv_sub hl [1, 2, 3, 0] rfl)
set_option maxHeartbeats 8000000 in
set_option maxRecDepth 100000 in
theorem wb_M_inverse_s3x22_19 {p : Program} {l : Launch} {e : Env} {s : State} {m : MethodId} {args : Array Value} {below : List Frame} {meth : Method} {c : Code} {D : va_G} {cy : Nat → ClassId} {A : Nat → Prop} {ad : Nat → Nat} {o : Nat} {q : Nat → Nat} {b1 : Nat} {b2 : Nat} {z : Nat → Int32} {h2 : Nat → Int32} {fu : Nat} {k_19 : Int32 → (Nat → Int32) → (Nat → Int32) → (Nat → Int32) → (Nat → Int32) → (Nat → Int32) → Option ((Nat → Int32) × (Nat → Int32) × (Nat → Int32) × (Nat → Int32) × (Nat → Int32))} (F : Fx p s m args meth c b_M_inverse 5 "CoinKeeperModel" "inverse" none D cy ad A) (hk_19 : I_M_inverse_s3x22_19 p l e s m args below meth c D cy A ad o q b1 b2 z h2 k_19) : I_M_inverse_s3x22_19 p l e s m args below meth c D cy A ad o q b1 b2 z h2 (xb_M_inverse_s3x22_19 fu z h2 k_19) := by
  obtain ⟨hx, hb, hr, hml, hown, hts, hlocks, hK, hA, hSt, hnm, hex⟩ := id F
  intro x4 u0 u1 u2 u3 u4 res hf H locs ls hP hD hS hl
  unfold xb_M_inverse_s3x22_19 at hf
  refine lv_iload hx hb d_M_inverse_19 (lv_at hl 3 rfl) ?_
  refine lv_bipush (v := 8) hx hb d_M_inverse_21 (by decide) ?_
  refine lv_icmp_ge (tgt := 57) hx hb d_M_inverse_23 (by decide) (fun cx => ?_) (fun cx => ?_)
  · have hf := ifp cx hf
    exact w_M_inverse_s3x22_57 F fu _ _ _ _ _ _ hf _ _ _ hP hD hS (lv_sub hl [0, 1, 2] rfl)
  · have hf := ifn cx hf
    refine lv_aload_n hx hb d_M_inverse_26 rfl (lv_at hl 0 rfl) ?_
    refine va_get (D := D) (ci := 12) (v := .ref (q 66)) (C := "CoinKeeperModel") (T := F_12) (N := 98) hx hb hts i_12 hown hK hP 0 rfl rfl 75 (by decide) (hts _ gw_1494) (fun _ h9 => h9) rfl d_M_inverse_27 ?_
    refine lv_iload hx hb d_M_inverse_30 (lv_at hl 3 rfl) ?_
    refine lv_iload hx hb d_M_inverse_32 (lv_at hl 3 rfl) ?_
    refine lv_if_ne (tgt := 41) hx hb d_M_inverse_34 (by decide) (fun cx => ?_) (fun cx => ?_)
    · have hf := ifn cx hf
      refine lv_iconst (v := 0) hx hb d_M_inverse_41 (by decide) ?_
      exact wb_M_inverse_s3x22_42 (fu := fu) F hk_19 _ _ _ _ _ _ _ _ _ hf _ _ _ hP hD hS (lv_sub hl [0, 1, 2, 3] rfl)
    · have hf := ifp cx hf
      refine lv_iconst (v := 1) hx hb d_M_inverse_37 (by decide) ?_
      refine lv_goto (tgt := 42) hx hb d_M_inverse_38 (by decide) ?_
      exact wb_M_inverse_s3x22_42 (fu := fu) F hk_19 _ _ _ _ _ _ _ _ _ hf _ _ _ hP hD hS (lv_sub hl [0, 1, 2, 3] rfl)
theorem w_M_inverse_s3x22_19 {p : Program} {l : Launch} {e : Env} {s : State} {m : MethodId} {args : Array Value} {below : List Frame} {meth : Method} {c : Code} {D : va_G} {cy : Nat → ClassId} {A : Nat → Prop} {ad : Nat → Nat} {o : Nat} {q : Nat → Nat} {b1 : Nat} {b2 : Nat} {z : Nat → Int32} {h2 : Nat → Int32} {fu : Nat} (F : Fx p s m args meth c b_M_inverse 5 "CoinKeeperModel" "inverse" none D cy ad A) : ∀ n : Nat, I_M_inverse_s3x22_19 p l e s m args below meth c D cy A ad o q b1 b2 z h2 (x_M_inverse_s3x22_19 fu z h2 n)
  | 0 => fun _ _ _ _ _ _ _ hf => nomatch (show (none : Option ((Nat → Int32) × (Nat → Int32) × (Nat → Int32) × (Nat → Int32) × (Nat → Int32))) = some _ from hf)
  | n + 1 => wb_M_inverse_s3x22_19 F (w_M_inverse_s3x22_19 F n)
set_option maxHeartbeats 8000000 in
set_option maxRecDepth 100000 in
theorem we_M_inverse_s3x22 {p : Program} {l : Launch} {e : Env} {s : State} {m : MethodId} {args : Array Value} {below : List Frame} {meth : Method} {c : Code} {D : va_G} {cy : Nat → ClassId} {A : Nat → Prop} {ad : Nat → Nat} {o : Nat} {q : Nat → Nat} {b1 : Nat} {b2 : Nat} {z : Nat → Int32} {h2 : Nat → Int32} {fu : Nat} (F : Fx p s m args meth c b_M_inverse 5 "CoinKeeperModel" "inverse" none D cy ad A) : I_M_inverse_s3x22_e p l e s m args below meth c D cy A ad o q b1 b2 z h2 (x_M_inverse_s3x22 fu z h2) := by
  obtain ⟨hx, hb, hr, hml, hown, hts, hlocks, hK, hA, hSt, hnm, hex⟩ := id F
  intro u0 u1 u2 u3 u4 res hf H locs ls hP hD hS hl
  unfold x_M_inverse_s3x22 at hf
  refine lv_aload_n hx hb d_M_inverse_0 rfl (lv_at hl 0 rfl) ?_
  refine va_get (D := D) (ci := 12) (v := .ref (q 48)) (C := "CoinKeeperModel") (T := F_12) (N := 98) hx hb hts i_12 hown hK hP 0 rfl rfl 56 (by decide) (hts _ gw_1475) (fun _ h9 => h9) rfl d_M_inverse_1 ?_
  refine lv_aload_n hx hb d_M_inverse_4 rfl (lv_at hl 2 rfl) ?_
  obtain ⟨f1, hc, hf⟩ := bdp1 hf
  refine q_av (wr := [(o, .inr (12, mo q z)), ((q 49), .inl (cy 1, 8, .inl u1)), ((q 66), .inl (cy 1, 8, .inl u2)), ((q 67), .inl (cy 1, 8, .inl u3)), (b1, .inl (cy 1, 8, .inl u4))]) (va_runS (As := [.ref (q 48), .ref b2]) (rest := []) ⟨hx, hb, hml, hown, hts⟩ (c_M_copy l D cy ad fu (q 48) b2 h2 u0 _ hc H.size) ⟨q_cB hts gw_1397 gw_18 gw_1395 hdm_24 ⟨by decide, by decide⟩, hts _ gw_1396⟩ (q_pre (hP.sub [1, 6] rfl) (hD.sub [1, 6] (by decide) rfl) hK hSt hS (va_free hD hS hA [1, 6] rfl) _) rfl rfl hl.1 rfl (lv_room (Nat.le_of_ble_eq_true rfl)) d_M_inverse_5 ⟨Nat.le_of_ble_eq_true rfl, Nat.le_of_ble_eq_true rfl⟩) hP hD hS hA [1, 6] [0, 2, 3, 4, 5] rfl rfl (by decide) (by decide) (fun H locs hP hD hS => ?_)
  clear hc
  have hP : va_P D classes [(o, .inr (12, mo q z)), ((q 49), .inl (cy 1, 8, .inl u1)), ((q 66), .inl (cy 1, 8, .inl u2)), ((q 67), .inl (cy 1, 8, .inl u3)), (b1, .inl (cy 1, 8, .inl u4)), ((q 48), .inl (cy 1, 8, .inl f1)), (b2, .inl (cy 1, 8, .inl h2))] H := hP
  have hD : va_D A [(o, .inr (12, mo q z)), ((q 49), .inl (cy 1, 8, .inl u1)), ((q 66), .inl (cy 1, 8, .inl u2)), ((q 67), .inl (cy 1, 8, .inl u3)), (b1, .inl (cy 1, 8, .inl u4)), ((q 48), .inl (cy 1, 8, .inl f1)), (b2, .inl (cy 1, 8, .inl h2))] := hD
  refine lv_aload_n hx hb d_M_inverse_8 rfl (lv_at hl 0 rfl) ?_
  refine va_get (D := D) (ci := 12) (v := .ref (q 49)) (C := "CoinKeeperModel") (T := F_12) (N := 98) hx hb hts i_12 hown hK hP 0 rfl rfl 57 (by decide) (hts _ gw_1476) (fun _ h9 => h9) rfl d_M_inverse_9 ?_
  refine lv_aload_n hx hb d_M_inverse_12 rfl (lv_at hl 3 rfl) ?_
  obtain ⟨f2, hc, hf⟩ := bdp1 hf
  refine q_av (wr := [(o, .inr (12, mo q z)), ((q 66), .inl (cy 1, 8, .inl u2)), ((q 67), .inl (cy 1, 8, .inl u3)), (b1, .inl (cy 1, 8, .inl u4)), ((q 48), .inl (cy 1, 8, .inl f1)), (b2, .inl (cy 1, 8, .inl h2))]) (va_runS (As := [.ref (q 49), .ref (ad 22)]) (rest := []) ⟨hx, hb, hml, hown, hts⟩ (c_M_copy_s1x22 l D cy ad fu (q 49) u1 _ hc H.size) ⟨q_cB hts gw_1397 gw_18 gw_1395 hdm_24 ⟨by decide, by decide⟩, hts _ gw_1396⟩ (q_pre (hP.sub [1] rfl) (hD.sub [1] (by decide) rfl) hK hSt hS (va_free hD hS hA [1] rfl) _) rfl rfl hl.1 rfl (lv_room (Nat.le_of_ble_eq_true rfl)) d_M_inverse_13 ⟨Nat.le_of_ble_eq_true rfl, Nat.le_of_ble_eq_true rfl⟩) hP hD hS hA [1] [0, 2, 3, 4, 5, 6] rfl rfl (by decide) (by decide) (fun H locs hP hD hS => ?_)
  clear hc
  have hP : va_P D classes [(o, .inr (12, mo q z)), ((q 66), .inl (cy 1, 8, .inl u2)), ((q 67), .inl (cy 1, 8, .inl u3)), (b1, .inl (cy 1, 8, .inl u4)), ((q 48), .inl (cy 1, 8, .inl f1)), (b2, .inl (cy 1, 8, .inl h2)), ((q 49), .inl (cy 1, 8, .inl f2))] H := hP
  have hD : va_D A [(o, .inr (12, mo q z)), ((q 66), .inl (cy 1, 8, .inl u2)), ((q 67), .inl (cy 1, 8, .inl u3)), (b1, .inl (cy 1, 8, .inl u4)), ((q 48), .inl (cy 1, 8, .inl f1)), (b2, .inl (cy 1, 8, .inl h2)), ((q 49), .inl (cy 1, 8, .inl f2))] := hD
  refine lv_iconst (v := 0) hx hb d_M_inverse_16 (by decide) ?_
  refine lv_istore (lv' := [(4, .int (0 : Int32)), (0, .ref o), (1, .ref b1), (2, .ref b2), (3, .ref (ad 22))]) hx hb d_M_inverse_17 hl (by decide) rfl (fun ls hl => ?_)
  exact w_M_inverse_s3x22_19 F fu _ _ _ _ _ _ _ hf _ _ _ (hP.sub (ws' := [(o, .inr (12, mo q z)), ((q 48), .inl (cy 1, 8, .inl f1)), ((q 49), .inl (cy 1, 8, .inl f2)), ((q 66), .inl (cy 1, 8, .inl u2)), ((q 67), .inl (cy 1, 8, .inl u3)), (b1, .inl (cy 1, 8, .inl u4)), (b2, .inl (cy 1, 8, .inl h2))]) [0, 4, 6, 1, 2, 3, 5] rfl) (hD.sub (ws' := [(o, .inr (12, mo q z)), ((q 48), .inl (cy 1, 8, .inl f1)), ((q 49), .inl (cy 1, 8, .inl f2)), ((q 66), .inl (cy 1, 8, .inl u2)), ((q 67), .inl (cy 1, 8, .inl u3)), (b1, .inl (cy 1, 8, .inl u4)), (b2, .inl (cy 1, 8, .inl h2))]) [0, 4, 6, 1, 2, 3, 5] (by decide) rfl) hS (lv_sub hl [1, 2, 4, 0] rfl)
theorem c_M_inverse_s3x22 (l : Launch) (D : va_G) (cy : Nat → ClassId) (ad : Nat → Nat) (fu : Nat) (o : Nat) (q : Nat → Nat) (b1 : Nat) (b2 : Nat) (z : Nat → Int32) (h2 : Nat → Int32) (u0 : Nat → Int32) (u1 : Nat → Int32) (u2 : Nat → Int32) (u3 : Nat → Int32) (u4 : Nat → Int32) (res : (Nat → Int32) × (Nat → Int32) × (Nat → Int32) × (Nat → Int32) × (Nat → Int32)) (hf : x_M_inverse_s3x22 fu z h2 u0 u1 u2 u3 u4 = some res) (sz : Nat) : Met l ({ cls := "CoinKeeperModel", name := "inverse", desc := "([I[I[I)V" } : Jvm.MethodName) (.code ({ cls := "CoinKeeperModel", name := "inverse", desc := "([I[I[I)V" } : Jvm.MethodName) b_M_inverse 5 none :: gw) rm_M_inverse_s3x22 (va_Pc [.ref o, .ref b1, .ref b2, .ref (ad 22)] (Pr D cy ad [(o, .inr (12, mo q z)), ((q 48), .inl (cy 1, 8, .inl u0)), ((q 49), .inl (cy 1, 8, .inl u1)), ((q 66), .inl (cy 1, 8, .inl u2)), ((q 67), .inl (cy 1, 8, .inl u3)), (b1, .inl (cy 1, 8, .inl u4)), (b2, .inl (cy 1, 8, .inl h2))] sz)) (q_M_inverse_s3x22 D cy (va_A [(o, .inr (12, mo q z)), ((q 48), .inl (cy 1, 8, .inl u0)), ((q 49), .inl (cy 1, 8, .inl u1)), ((q 66), .inl (cy 1, 8, .inl u2)), ((q 67), .inl (cy 1, 8, .inl u3)), (b1, .inl (cy 1, 8, .inl u4)), (b2, .inl (cy 1, 8, .inl h2))] sz) o q b1 b2 z h2 res) 0 0 (va_A [(o, .inr (12, mo q z)), ((q 48), .inl (cy 1, 8, .inl u0)), ((q 49), .inl (cy 1, 8, .inl u1)), ((q 66), .inl (cy 1, 8, .inl u2)), ((q 67), .inl (cy 1, 8, .inl u3)), (b1, .inl (cy 1, 8, .inl u4)), (b2, .inl (cy 1, 8, .inl h2))] sz) :=
  q_met (Qc := fun A => q_M_inverse_s3x22 D cy A o q b1 b2 z h2 res) (by decide) rfl rfl (Nat.le_of_ble_eq_true rfl) (fun p e s m below meth c ls F hP hD hS hl => we_M_inverse_s3x22 (fu := fu) F u0 u1 u2 u3 u4 res hf _ _ _ hP hD hS hl) sz
abbrev rm_M_times : Room := { frames := 3, cells := 0, slots := 0, locals := 64 }
abbrev q_M_times (D : va_G) (cy : Nat → ClassId) (A : Nat → Prop) (o : Nat) (q : Nat → Nat) (b1 : Nat) (b2 : Nat) (b3 : Nat) (z : Nat → Int32) (h2 : Nat → Int32) (h3 : Nat → Int32) (res : (Nat → Int32) × (Nat → Int32)) : Array Value → State → Outcome → State → Prop := va_Qv (fun (_ : Unit) => True) (fun _ t => Po D cy A [(o, .inr (12, mo q z)), ((q 50), .inl (cy 1, 16, .inl res.1)), (b1, .inl (cy 1, 8, .inl res.2)), (b2, .inl (cy 1, 8, .inl h2)), (b3, .inl (cy 1, 8, .inl h3))] t) A
def I_M_times_175 (p : Program) (l : Launch) (e : Env) (s : State) (m : MethodId) (args : Array Value) (below : List Frame) (meth : Method) (c : Code) (D : va_G) (cy : Nat → ClassId) (A : Nat → Prop) (ad : Nat → Nat) (o : Nat) (q : Nat → Nat) (b1 : Nat) (b2 : Nat) (b3 : Nat) (z : Nat → Int32) (h2 : Nat → Int32) (h3 : Nat → Int32) (k : Int64 → Int32 → Int64 → Int64 → Int64 → (Nat → Int32) → (Nat → Int32) → Option ((Nat → Int32) × (Nat → Int32))) : Prop :=
  ∀ (x6 : Int64) (x8 : Int32) (y0 : Int64) (y1 : Int64) (y2 : Int64) (u0 : Nat → Int32) (u1 : Nat → Int32) (res : (Nat → Int32) × (Nat → Int32)), k x6 x8 y0 y1 y2 u0 u1 = some res → ∀ (H : Heap) (locs : List Loc) (ls : Array Slot), va_P D classes [(o, .inr (12, mo q z)), ((q 50), .inl (cy 1, 16, .inl u0)), (b1, .inl (cy 1, 8, .inl u1)), (b2, .inl (cy 1, 8, .inl h2)), (b3, .inl (cy 1, 8, .inl h3))] H → va_D A [(o, .inr (12, mo q z)), ((q 50), .inl (cy 1, 16, .inl u0)), (b1, .inl (cy 1, 8, .inl u1)), (b2, .inl (cy 1, 8, .inl h2)), (b3, .inl (cy 1, 8, .inl h3))] → va_S A s.heap H locs → lv_has ls 9 [(1, .ref b1), (6, .long x6), (8, .int x8)] → W p l e rm_M_times s m args below meth c H locs 0 0 (MQ below (q_M_times D cy A o q b1 b2 b3 z h2 h3 res) args s 0 0 A) (F0 m 175 ls [.long y0, .long y1, .long y2])
def I_M_times_131 (p : Program) (l : Launch) (e : Env) (s : State) (m : MethodId) (args : Array Value) (below : List Frame) (meth : Method) (c : Code) (D : va_G) (cy : Nat → ClassId) (A : Nat → Prop) (ad : Nat → Nat) (o : Nat) (q : Nat → Nat) (b1 : Nat) (b2 : Nat) (b3 : Nat) (z : Nat → Int32) (h2 : Nat → Int32) (h3 : Nat → Int32) (k : Int64 → Int64 → Int32 → (Nat → Int32) → (Nat → Int32) → Option ((Nat → Int32) × (Nat → Int32))) : Prop :=
  ∀ (x4 : Int64) (x6 : Int64) (x8 : Int32) (u0 : Nat → Int32) (u1 : Nat → Int32) (res : (Nat → Int32) × (Nat → Int32)), k x4 x6 x8 u0 u1 = some res → ∀ (H : Heap) (locs : List Loc) (ls : Array Slot), va_P D classes [(o, .inr (12, mo q z)), ((q 50), .inl (cy 1, 16, .inl u0)), (b1, .inl (cy 1, 8, .inl u1)), (b2, .inl (cy 1, 8, .inl h2)), (b3, .inl (cy 1, 8, .inl h3))] H → va_D A [(o, .inr (12, mo q z)), ((q 50), .inl (cy 1, 16, .inl u0)), (b1, .inl (cy 1, 8, .inl u1)), (b2, .inl (cy 1, 8, .inl h2)), (b3, .inl (cy 1, 8, .inl h3))] → va_S A s.heap H locs → lv_has ls 9 [(1, .ref b1), (4, .long x4), (6, .long x6), (8, .int x8)] → W p l e rm_M_times s m args below meth c H locs 0 0 (MQ below (q_M_times D cy A o q b1 b2 b3 z h2 h3 res) args s 0 0 A) (F0 m 131 ls [])
def I_M_times_118 (p : Program) (l : Launch) (e : Env) (s : State) (m : MethodId) (args : Array Value) (below : List Frame) (meth : Method) (c : Code) (D : va_G) (cy : Nat → ClassId) (A : Nat → Prop) (ad : Nat → Nat) (o : Nat) (q : Nat → Nat) (b1 : Nat) (b2 : Nat) (b3 : Nat) (z : Nat → Int32) (h2 : Nat → Int32) (h3 : Nat → Int32) (k : Int64 → (Nat → Int32) → (Nat → Int32) → Option ((Nat → Int32) × (Nat → Int32))) : Prop :=
  ∀ (x6 : Int64) (u0 : Nat → Int32) (u1 : Nat → Int32) (res : (Nat → Int32) × (Nat → Int32)), k x6 u0 u1 = some res → ∀ (H : Heap) (locs : List Loc) (ls : Array Slot), va_P D classes [(o, .inr (12, mo q z)), ((q 50), .inl (cy 1, 16, .inl u0)), (b1, .inl (cy 1, 8, .inl u1)), (b2, .inl (cy 1, 8, .inl h2)), (b3, .inl (cy 1, 8, .inl h3))] H → va_D A [(o, .inr (12, mo q z)), ((q 50), .inl (cy 1, 16, .inl u0)), (b1, .inl (cy 1, 8, .inl u1)), (b2, .inl (cy 1, 8, .inl h2)), (b3, .inl (cy 1, 8, .inl h3))] → va_S A s.heap H locs → lv_has ls 9 [(1, .ref b1), (6, .long x6)] → W p l e rm_M_times s m args below meth c H locs 0 0 (MQ below (q_M_times D cy A o q b1 b2 b3 z h2 h3 res) args s 0 0 A) (F0 m 118 ls [])
def I_M_times_77 (p : Program) (l : Launch) (e : Env) (s : State) (m : MethodId) (args : Array Value) (below : List Frame) (meth : Method) (c : Code) (D : va_G) (cy : Nat → ClassId) (A : Nat → Prop) (ad : Nat → Nat) (o : Nat) (q : Nat → Nat) (b1 : Nat) (b2 : Nat) (b3 : Nat) (z : Nat → Int32) (h2 : Nat → Int32) (h3 : Nat → Int32) (k : Int32 → Int64 → Int64 → Int64 → (Nat → Int32) → (Nat → Int32) → Option ((Nat → Int32) × (Nat → Int32))) : Prop :=
  ∀ (x6 : Int32) (y0 : Int64) (y1 : Int64) (y2 : Int64) (u0 : Nat → Int32) (u1 : Nat → Int32) (res : (Nat → Int32) × (Nat → Int32)), k x6 y0 y1 y2 u0 u1 = some res → ∀ (H : Heap) (locs : List Loc) (ls : Array Slot), va_P D classes [(o, .inr (12, mo q z)), ((q 50), .inl (cy 1, 16, .inl u0)), (b1, .inl (cy 1, 8, .inl u1)), (b2, .inl (cy 1, 8, .inl h2)), (b3, .inl (cy 1, 8, .inl h3))] H → va_D A [(o, .inr (12, mo q z)), ((q 50), .inl (cy 1, 16, .inl u0)), (b1, .inl (cy 1, 8, .inl u1)), (b2, .inl (cy 1, 8, .inl h2)), (b3, .inl (cy 1, 8, .inl h3))] → va_S A s.heap H locs → lv_has ls 9 [(0, .ref o), (1, .ref b1), (6, .int x6)] → W p l e rm_M_times s m args below meth c H locs 0 0 (MQ below (q_M_times D cy A o q b1 b2 b3 z h2 h3 res) args s 0 0 A) (F0 m 77 ls [.long y0, .long y1, .long y2])
def I_M_times_12 (p : Program) (l : Launch) (e : Env) (s : State) (m : MethodId) (args : Array Value) (below : List Frame) (meth : Method) (c : Code) (D : va_G) (cy : Nat → ClassId) (A : Nat → Prop) (ad : Nat → Nat) (o : Nat) (q : Nat → Nat) (b1 : Nat) (b2 : Nat) (b3 : Nat) (z : Nat → Int32) (h2 : Nat → Int32) (h3 : Nat → Int32) (k : Int64 → Int32 → (Nat → Int32) → (Nat → Int32) → Option ((Nat → Int32) × (Nat → Int32))) : Prop :=
  ∀ (x4 : Int64) (x6 : Int32) (u0 : Nat → Int32) (u1 : Nat → Int32) (res : (Nat → Int32) × (Nat → Int32)), k x4 x6 u0 u1 = some res → ∀ (H : Heap) (locs : List Loc) (ls : Array Slot), va_P D classes [(o, .inr (12, mo q z)), ((q 50), .inl (cy 1, 16, .inl u0)), (b1, .inl (cy 1, 8, .inl u1)), (b2, .inl (cy 1, 8, .inl h2)), (b3, .inl (cy 1, 8, .inl h3))] H → va_D A [(o, .inr (12, mo q z)), ((q 50), .inl (cy 1, 16, .inl u0)), (b1, .inl (cy 1, 8, .inl u1)), (b2, .inl (cy 1, 8, .inl h2)), (b3, .inl (cy 1, 8, .inl h3))] → va_S A s.heap H locs → lv_has ls 9 [(0, .ref o), (1, .ref b1), (4, .long x4), (6, .int x6)] → W p l e rm_M_times s m args below meth c H locs 0 0 (MQ below (q_M_times D cy A o q b1 b2 b3 z h2 h3 res) args s 0 0 A) (F0 m 12 ls [])
def I_M_times_e (p : Program) (l : Launch) (e : Env) (s : State) (m : MethodId) (args : Array Value) (below : List Frame) (meth : Method) (c : Code) (D : va_G) (cy : Nat → ClassId) (A : Nat → Prop) (ad : Nat → Nat) (o : Nat) (q : Nat → Nat) (b1 : Nat) (b2 : Nat) (b3 : Nat) (z : Nat → Int32) (h2 : Nat → Int32) (h3 : Nat → Int32) (k : (Nat → Int32) → (Nat → Int32) → Option ((Nat → Int32) × (Nat → Int32))) : Prop :=
  ∀ (u0 : Nat → Int32) (u1 : Nat → Int32) (res : (Nat → Int32) × (Nat → Int32)), k u0 u1 = some res → ∀ (H : Heap) (locs : List Loc) (ls : Array Slot), va_P D classes [(o, .inr (12, mo q z)), ((q 50), .inl (cy 1, 16, .inl u0)), (b1, .inl (cy 1, 8, .inl u1)), (b2, .inl (cy 1, 8, .inl h2)), (b3, .inl (cy 1, 8, .inl h3))] H → va_D A [(o, .inr (12, mo q z)), ((q 50), .inl (cy 1, 16, .inl u0)), (b1, .inl (cy 1, 8, .inl u1)), (b2, .inl (cy 1, 8, .inl h2)), (b3, .inl (cy 1, 8, .inl h3))] → va_S A s.heap H locs → lv_has ls 9 [(0, .ref o), (1, .ref b1), (2, .ref b2), (3, .ref b3)] → W p l e rm_M_times s m args below meth c H locs 0 0 (MQ below (q_M_times D cy A o q b1 b2 b3 z h2 h3 res) args s 0 0 A) (F0 m 0 ls [])
set_option maxHeartbeats 8000000 in
set_option maxRecDepth 100000 in
theorem wb_M_times_175 {p : Program} {l : Launch} {e : Env} {s : State} {m : MethodId} {args : Array Value} {below : List Frame} {meth : Method} {c : Code} {D : va_G} {cy : Nat → ClassId} {A : Nat → Prop} {ad : Nat → Nat} {o : Nat} {q : Nat → Nat} {b1 : Nat} {b2 : Nat} {b3 : Nat} {z : Nat → Int32} {h2 : Nat → Int32} {h3 : Nat → Int32} {fu : Nat} {k_118 : Int64 → (Nat → Int32) → (Nat → Int32) → Option ((Nat → Int32) × (Nat → Int32))} {k_131 : Int64 → Int64 → Int32 → (Nat → Int32) → (Nat → Int32) → Option ((Nat → Int32) × (Nat → Int32))} (F : Fx p s m args meth c b_M_times 9 "CoinKeeperModel" "times" none D cy ad A) (hk_118 : I_M_times_118 p l e s m args below meth c D cy A ad o q b1 b2 b3 z h2 h3 k_118) (hk_131 : I_M_times_131 p l e s m args below meth c D cy A ad o q b1 b2 b3 z h2 h3 k_131) : I_M_times_175 p l e s m args below meth c D cy A ad o q b1 b2 b3 z h2 h3 (xb_M_times_175 fu z h2 h3 k_118 k_131) := by
  obtain ⟨hx, hb, hr, hml, hown, hts, hlocks, hK, hA, hSt, hnm, hex⟩ := id F
  intro x6 x8 y0 y1 y2 u0 u1 res hf H locs ls hP hD hS hl
  unfold xb_M_times_175 at hf
  refine lv_ladd hx hb d_M_times_175 ?_
  refine lv_ladd hx hb d_M_times_176 ?_
  refine lv_topl (fun v1 ev => ?_)
  have hf := bn ev hf
  clear ev
  refine lv_lstore (lv' := [(4, .long v1), (1, .ref b1), (6, .long x6), (8, .int x8)]) hx hb d_M_times_177 hl (by decide) rfl (fun ls hl => ?_)
  refine lv_aload_n hx hb d_M_times_179 rfl (lv_at hl 1 rfl) ?_
  refine lv_iload hx hb d_M_times_180 (lv_at hl 3 rfl) ?_
  refine lv_lload hx hb d_M_times_182 (lv_at hl 0 rfl) ?_
  refine lv_l2i hx hb d_M_times_184 rfl ?_
  refine lv_topi (fun v2 ev => ?_)
  have hf := bn ev hf
  clear ev
  obtain ⟨hg, hf⟩ := gdp hf
  refine va_iast hx hb hK hP hD hS 2 1 rfl rfl (inb_in hg) d_M_times_185 (fun H locs hP hD hS => ?_)
  obtain ⟨f3, ev, hf⟩ := bne hf
  have hP : va_P D classes [(o, .inr (12, mo q z)), ((q 50), .inl (cy 1, 16, .inl u0)), (b1, .inl (cy 1, 8, .inl f3)), (b2, .inl (cy 1, 8, .inl h2)), (b3, .inl (cy 1, 8, .inl h3))] H := by rw [ev]; exact hP
  have hD : va_D A [(o, .inr (12, mo q z)), ((q 50), .inl (cy 1, 16, .inl u0)), (b1, .inl (cy 1, 8, .inl f3)), (b2, .inl (cy 1, 8, .inl h2)), (b3, .inl (cy 1, 8, .inl h3))] := by rw [ev]; exact hD
  clear ev
  refine lv_lload hx hb d_M_times_186 (lv_at hl 0 rfl) ?_
  refine lv_bipush (v := 32) hx hb d_M_times_188 (by decide) ?_
  refine lv_lushr hx hb d_M_times_190 rfl ?_
  refine lv_topl (fun v4 ev => ?_)
  have hf := bn ev hf
  clear ev
  refine lv_lstore (lv' := [(4, .long v4), (1, .ref b1), (6, .long x6), (8, .int x8)]) hx hb d_M_times_191 hl (by decide) rfl (fun ls hl => ?_)
  obtain ⟨v5, ev, hf⟩ := bne hf
  refine lv_iinc (v := v5) (lv' := [(8, .int v5), (4, .long v4), (1, .ref b1), (6, .long x6)]) hx hb d_M_times_193 hl (k := 3) rfl (by rw [ev]; rfl) (by decide) rfl (fun ls hl => ?_)
  clear ev
  refine lv_goto (tgt := 131) hx hb d_M_times_196 (by decide) ?_
  exact hk_131 _ _ _ _ _ _ hf _ _ _ hP hD hS (lv_sub hl [2, 1, 3, 0] rfl)
set_option maxHeartbeats 8000000 in
set_option maxRecDepth 100000 in
theorem wb_M_times_131 {p : Program} {l : Launch} {e : Env} {s : State} {m : MethodId} {args : Array Value} {below : List Frame} {meth : Method} {c : Code} {D : va_G} {cy : Nat → ClassId} {A : Nat → Prop} {ad : Nat → Nat} {o : Nat} {q : Nat → Nat} {b1 : Nat} {b2 : Nat} {b3 : Nat} {z : Nat → Int32} {h2 : Nat → Int32} {h3 : Nat → Int32} {fu : Nat} {k_118 : Int64 → (Nat → Int32) → (Nat → Int32) → Option ((Nat → Int32) × (Nat → Int32))} {k_131 : Int64 → Int64 → Int32 → (Nat → Int32) → (Nat → Int32) → Option ((Nat → Int32) × (Nat → Int32))} (F : Fx p s m args meth c b_M_times 9 "CoinKeeperModel" "times" none D cy ad A) (hk_118 : I_M_times_118 p l e s m args below meth c D cy A ad o q b1 b2 b3 z h2 h3 k_118) (hk_131 : I_M_times_131 p l e s m args below meth c D cy A ad o q b1 b2 b3 z h2 h3 k_131) : I_M_times_131 p l e s m args below meth c D cy A ad o q b1 b2 b3 z h2 h3 (xb_M_times_131 fu z h2 h3 k_118 k_131) := by
  obtain ⟨hx, hb, hr, hml, hown, hts, hlocks, hK, hA, hSt, hnm, hex⟩ := id F
  intro x4 x6 x8 u0 u1 res hf H locs ls hP hD hS hl
  unfold xb_M_times_131 at hf
  refine lv_iload hx hb d_M_times_131 (lv_at hl 3 rfl) ?_
  refine lv_bipush (v := 8) hx hb d_M_times_133 (by decide) ?_
  refine lv_icmp_ge (tgt := 199) hx hb d_M_times_135 (by decide) (fun cx => ?_) (fun cx => ?_)
  · have hf := ifp cx hf
    refine lv_lload hx hb d_M_times_199 (lv_at hl 1 rfl) ?_
    refine lv_lstore (lv' := [(6, .long x4), (1, .ref b1), (4, .long x4), (8, .int x8)]) hx hb d_M_times_201 hl (by decide) rfl (fun ls hl => ?_)
    refine lv_goto (tgt := 118) hx hb d_M_times_203 (by decide) ?_
    exact hk_118 _ _ _ _ hf _ _ _ hP hD hS (lv_sub hl [1, 0] rfl)
  · have hf := ifn cx hf
    refine lv_lload hx hb d_M_times_138 (lv_at hl 1 rfl) ?_
    refine lv_aload_n hx hb d_M_times_140 rfl (lv_at hl 0 rfl) ?_
    refine lv_iload hx hb d_M_times_141 (lv_at hl 3 rfl) ?_
    obtain ⟨hg, hf⟩ := gdp hf
    refine va_iald hx hb hK hP 2 1 rfl rfl (inb_in hg) d_M_times_143 ?_
    refine lv_topi (fun v1 ev => ?_)
    have hf := bn ev hf
    clear ev
    refine lv_i2l hx hb d_M_times_144 rfl ?_
    refine lv_topl (fun v2 ev => ?_)
    have hf := bn ev hf
    clear ev
    refine lv_ldc2 (v := 4294967295) hx hb hown (hts _ gw_1390) d_M_times_145 ?_
    refine lv_land hx hb d_M_times_148 ?_
    refine lv_topl (fun v3 ev => ?_)
    have hf := bn ev hf
    clear ev
    refine lv_iload hx hb d_M_times_149 (lv_at hl 3 rfl) ?_
    refine lv_if_ne (tgt := 163) hx hb d_M_times_151 (by decide) (fun cx => ?_) (fun cx => ?_)
    · have hf := ifn cx hf
      refine lv_iload hx hb d_M_times_163 (lv_at hl 3 rfl) ?_
      refine lv_iconst (v := 1) hx hb d_M_times_165 (by decide) ?_
      refine lv_icmp_ne (tgt := 174) hx hb d_M_times_166 (by decide) (fun cx => ?_) (fun cx => ?_)
      · have hf := ifn cx hf
        refine lv_lconst (v := 0) hx hb d_M_times_174 (by decide) ?_
        exact wb_M_times_175 (fu := fu) F hk_118 hk_131 _ _ _ _ _ _ _ _ hf _ _ _ hP hD hS (lv_sub hl [0, 2, 3] rfl)
      · have hf := ifp cx hf
        refine lv_lload hx hb d_M_times_169 (lv_at hl 2 rfl) ?_
        refine lv_goto (tgt := 175) hx hb d_M_times_171 (by decide) ?_
        exact wb_M_times_175 (fu := fu) F hk_118 hk_131 _ _ _ _ _ _ _ _ hf _ _ _ hP hD hS (lv_sub hl [0, 2, 3] rfl)
    · have hf := ifp cx hf
      refine lv_lload hx hb d_M_times_154 (lv_at hl 2 rfl) ?_
      refine lv_ldc2 (v := 977) hx hb hown (hts _ gw_1984) d_M_times_156 ?_
      refine lv_lmul hx hb d_M_times_159 ?_
      refine lv_goto (tgt := 175) hx hb d_M_times_160 (by decide) ?_
      exact wb_M_times_175 (fu := fu) F hk_118 hk_131 _ _ _ _ _ _ _ _ hf _ _ _ hP hD hS (lv_sub hl [0, 2, 3] rfl)
theorem w_M_times_131 {p : Program} {l : Launch} {e : Env} {s : State} {m : MethodId} {args : Array Value} {below : List Frame} {meth : Method} {c : Code} {D : va_G} {cy : Nat → ClassId} {A : Nat → Prop} {ad : Nat → Nat} {o : Nat} {q : Nat → Nat} {b1 : Nat} {b2 : Nat} {b3 : Nat} {z : Nat → Int32} {h2 : Nat → Int32} {h3 : Nat → Int32} {fu : Nat} {k_118 : Int64 → (Nat → Int32) → (Nat → Int32) → Option ((Nat → Int32) × (Nat → Int32))} (F : Fx p s m args meth c b_M_times 9 "CoinKeeperModel" "times" none D cy ad A) (hk_118 : I_M_times_118 p l e s m args below meth c D cy A ad o q b1 b2 b3 z h2 h3 k_118) : ∀ n : Nat, I_M_times_131 p l e s m args below meth c D cy A ad o q b1 b2 b3 z h2 h3 (x_M_times_131 fu z h2 h3 k_118 n)
  | 0 => fun _ _ _ _ _ _ hf => nomatch (show (none : Option ((Nat → Int32) × (Nat → Int32))) = some _ from hf)
  | n + 1 => wb_M_times_131 F hk_118 (w_M_times_131 F hk_118 n)
set_option maxHeartbeats 8000000 in
set_option maxRecDepth 100000 in
theorem wb_M_times_118 {p : Program} {l : Launch} {e : Env} {s : State} {m : MethodId} {args : Array Value} {below : List Frame} {meth : Method} {c : Code} {D : va_G} {cy : Nat → ClassId} {A : Nat → Prop} {ad : Nat → Nat} {o : Nat} {q : Nat → Nat} {b1 : Nat} {b2 : Nat} {b3 : Nat} {z : Nat → Int32} {h2 : Nat → Int32} {h3 : Nat → Int32} {fu : Nat} {k_118 : Int64 → (Nat → Int32) → (Nat → Int32) → Option ((Nat → Int32) × (Nat → Int32))} (F : Fx p s m args meth c b_M_times 9 "CoinKeeperModel" "times" none D cy ad A) (hk_118 : I_M_times_118 p l e s m args below meth c D cy A ad o q b1 b2 b3 z h2 h3 k_118) : I_M_times_118 p l e s m args below meth c D cy A ad o q b1 b2 b3 z h2 h3 (xb_M_times_118 fu z h2 h3 k_118) := by
  obtain ⟨hx, hb, hr, hml, hown, hts, hlocks, hK, hA, hSt, hnm, hex⟩ := id F
  intro x6 u0 u1 res hf H locs ls hP hD hS hl
  unfold xb_M_times_118 at hf
  refine lv_lload hx hb d_M_times_118 (lv_at hl 1 rfl) ?_
  refine lv_lconst (v := 0) hx hb d_M_times_120 (by decide) ?_
  refine W.lcmp hx hb d_M_times_121 ?_
  refine lv_if_le (tgt := 206) hx hb d_M_times_122 (by decide) (fun cx => ?_) (fun cx => ?_)
  · have hf := ifp cx hf
    refine lv_aload_n hx hb d_M_times_206 rfl (lv_at hl 0 rfl) ?_
    refine va_gets hx hb (hSt.1 22 _ rfl).1 hS hown (hts _ gw_1974) (fun _ h9 => h9) d_M_times_207 ?_
    obtain ⟨v1, hc, hf⟩ := bdp1 hf
    refine q_ai (wr := [(o, .inr (12, mo q z)), ((q 50), .inl (cy 1, 16, .inl u0)), (b2, .inl (cy 1, 8, .inl h2)), (b3, .inl (cy 1, 8, .inl h3))]) (va_runS (As := [.ref b1, .ref (ad 22)]) (rest := []) ⟨hx, hb, hml, hown, hts⟩ (c_M_compare_s1x22 l D cy ad fu b1 u1 _ hc H.size) ⟨q_cB hts gw_1404 gw_18 gw_1402 hdm_16 ⟨by decide, by decide⟩, hts _ gw_1403⟩ (q_pre (hP.sub [2] rfl) (hD.sub [2] (by decide) rfl) hK hSt hS (va_free hD hS hA [2] rfl) _) rfl rfl hl.1 rfl (lv_room (Nat.le_of_ble_eq_true rfl)) d_M_times_210 ⟨Nat.le_of_ble_eq_true rfl, Nat.le_of_ble_eq_true rfl⟩) hP hD hS hA [2] [0, 1, 3, 4] rfl rfl (by decide) (by decide) (fun H locs hP hD hS => ?_)
    clear hc
    have hP : va_P D classes [(o, .inr (12, mo q z)), ((q 50), .inl (cy 1, 16, .inl u0)), (b2, .inl (cy 1, 8, .inl h2)), (b3, .inl (cy 1, 8, .inl h3)), (b1, .inl (cy 1, 8, .inl u1))] H := hP
    have hD : va_D A [(o, .inr (12, mo q z)), ((q 50), .inl (cy 1, 16, .inl u0)), (b2, .inl (cy 1, 8, .inl h2)), (b3, .inl (cy 1, 8, .inl h3)), (b1, .inl (cy 1, 8, .inl u1))] := hD
    refine lv_if_lt (tgt := 225) hx hb d_M_times_213 (by decide) (fun cx => ?_) (fun cx => ?_)
    · have hf := ifp cx hf
      obtain rfl := Option.some.inj hf
      exact q_rv hx hb hr hlocks hK (hP.sub [0, 1, 4, 2, 3] rfl) (hD.sub [0, 1, 4, 2, 3] (by decide) rfl) hS d_M_times_225
    · have hf := ifn cx hf
      refine lv_aload_n hx hb d_M_times_216 rfl (lv_at hl 0 rfl) ?_
      refine lv_aload_n hx hb d_M_times_217 rfl (lv_at hl 0 rfl) ?_
      refine va_gets hx hb (hSt.1 22 _ rfl).1 hS hown (hts _ gw_1974) (fun _ h9 => h9) d_M_times_218 ?_
      obtain ⟨v2, f3, hc, hf⟩ := bdp2 hf
      refine q_ai (wr := [(o, .inr (12, mo q z)), ((q 50), .inl (cy 1, 16, .inl u0)), (b2, .inl (cy 1, 8, .inl h2)), (b3, .inl (cy 1, 8, .inl h3))]) (va_runS (As := [.ref b1, .ref b1, .ref (ad 22)]) (rest := []) ⟨hx, hb, hml, hown, hts⟩ (c_M_sub_e10s2x22 l D cy ad fu b1 u1 _ hc H.size) ⟨q_cB hts gw_1414 gw_18 gw_1412 hdm_17 ⟨by decide, by decide⟩, hts _ gw_1413⟩ (q_pre (hP.sub [4] rfl) (hD.sub [4] (by decide) rfl) hK hSt hS (va_free hD hS hA [4] rfl) _) rfl rfl hl.1 rfl (lv_room (Nat.le_of_ble_eq_true rfl)) d_M_times_221 ⟨Nat.le_of_ble_eq_true rfl, Nat.le_of_ble_eq_true rfl⟩) hP hD hS hA [4] [0, 1, 2, 3] rfl rfl (by decide) (by decide) (fun H locs hP hD hS => ?_)
      clear hc
      have hP : va_P D classes [(o, .inr (12, mo q z)), ((q 50), .inl (cy 1, 16, .inl u0)), (b2, .inl (cy 1, 8, .inl h2)), (b3, .inl (cy 1, 8, .inl h3)), (b1, .inl (cy 1, 8, .inl f3))] H := hP
      have hD : va_D A [(o, .inr (12, mo q z)), ((q 50), .inl (cy 1, 16, .inl u0)), (b2, .inl (cy 1, 8, .inl h2)), (b3, .inl (cy 1, 8, .inl h3)), (b1, .inl (cy 1, 8, .inl f3))] := hD
      refine lv_pop hx hb d_M_times_224 rfl ?_
      obtain rfl := Option.some.inj hf
      exact q_rv hx hb hr hlocks hK (hP.sub [0, 1, 4, 2, 3] rfl) (hD.sub [0, 1, 4, 2, 3] (by decide) rfl) hS d_M_times_225
  · have hf := ifn cx hf
    refine lv_lconst (v := 0) hx hb d_M_times_125 (by decide) ?_
    refine lv_lstore (lv' := [(4, .long (0 : Int64)), (1, .ref b1), (6, .long x6)]) hx hb d_M_times_126 hl (by decide) rfl (fun ls hl => ?_)
    refine lv_iconst (v := 0) hx hb d_M_times_128 (by decide) ?_
    refine lv_istore (lv' := [(8, .int (0 : Int32)), (4, .long (0 : Int64)), (1, .ref b1), (6, .long x6)]) hx hb d_M_times_129 hl (by decide) rfl (fun ls hl => ?_)
    exact w_M_times_131 F hk_118 fu _ _ _ _ _ _ hf _ _ _ hP hD hS (lv_sub hl [2, 1, 3, 0] rfl)
theorem w_M_times_118 {p : Program} {l : Launch} {e : Env} {s : State} {m : MethodId} {args : Array Value} {below : List Frame} {meth : Method} {c : Code} {D : va_G} {cy : Nat → ClassId} {A : Nat → Prop} {ad : Nat → Nat} {o : Nat} {q : Nat → Nat} {b1 : Nat} {b2 : Nat} {b3 : Nat} {z : Nat → Int32} {h2 : Nat → Int32} {h3 : Nat → Int32} {fu : Nat} (F : Fx p s m args meth c b_M_times 9 "CoinKeeperModel" "times" none D cy ad A) : ∀ n : Nat, I_M_times_118 p l e s m args below meth c D cy A ad o q b1 b2 b3 z h2 h3 (x_M_times_118 fu z h2 h3 n)
  | 0 => fun _ _ _ _ hf => nomatch (show (none : Option ((Nat → Int32) × (Nat → Int32))) = some _ from hf)
  | n + 1 => wb_M_times_118 F (w_M_times_118 F n)
set_option maxHeartbeats 8000000 in
set_option maxRecDepth 100000 in
theorem wb_M_times_77 {p : Program} {l : Launch} {e : Env} {s : State} {m : MethodId} {args : Array Value} {below : List Frame} {meth : Method} {c : Code} {D : va_G} {cy : Nat → ClassId} {A : Nat → Prop} {ad : Nat → Nat} {o : Nat} {q : Nat → Nat} {b1 : Nat} {b2 : Nat} {b3 : Nat} {z : Nat → Int32} {h2 : Nat → Int32} {h3 : Nat → Int32} {fu : Nat} {k_12 : Int64 → Int32 → (Nat → Int32) → (Nat → Int32) → Option ((Nat → Int32) × (Nat → Int32))} (F : Fx p s m args meth c b_M_times 9 "CoinKeeperModel" "times" none D cy ad A) (hk_12 : I_M_times_12 p l e s m args below meth c D cy A ad o q b1 b2 b3 z h2 h3 k_12) : I_M_times_77 p l e s m args below meth c D cy A ad o q b1 b2 b3 z h2 h3 (xb_M_times_77 fu z h2 h3 k_12) := by
  obtain ⟨hx, hb, hr, hml, hown, hts, hlocks, hK, hA, hSt, hnm, hex⟩ := id F
  intro x6 y0 y1 y2 u0 u1 res hf H locs ls hP hD hS hl
  unfold xb_M_times_77 at hf
  refine lv_ladd hx hb d_M_times_77 ?_
  refine lv_ladd hx hb d_M_times_78 ?_
  refine lv_topl (fun v1 ev => ?_)
  have hf := bn ev hf
  clear ev
  refine lv_lstore (lv' := [(4, .long v1), (0, .ref o), (1, .ref b1), (6, .int x6)]) hx hb d_M_times_79 hl (by decide) rfl (fun ls hl => ?_)
  refine lv_aload_n hx hb d_M_times_81 rfl (lv_at hl 2 rfl) ?_
  refine lv_iload hx hb d_M_times_82 (lv_at hl 3 rfl) ?_
  refine lv_lload hx hb d_M_times_84 (lv_at hl 0 rfl) ?_
  refine lv_l2i hx hb d_M_times_86 rfl ?_
  refine lv_topi (fun v2 ev => ?_)
  have hf := bn ev hf
  clear ev
  obtain ⟨hg, hf⟩ := gdp hf
  refine va_iast hx hb hK hP hD hS 2 1 rfl rfl (inb_in hg) d_M_times_87 (fun H locs hP hD hS => ?_)
  obtain ⟨f3, ev, hf⟩ := bne hf
  have hP : va_P D classes [(o, .inr (12, mo q z)), ((q 50), .inl (cy 1, 16, .inl u0)), (b1, .inl (cy 1, 8, .inl f3)), (b2, .inl (cy 1, 8, .inl h2)), (b3, .inl (cy 1, 8, .inl h3))] H := by rw [ev]; exact hP
  have hD : va_D A [(o, .inr (12, mo q z)), ((q 50), .inl (cy 1, 16, .inl u0)), (b1, .inl (cy 1, 8, .inl f3)), (b2, .inl (cy 1, 8, .inl h2)), (b3, .inl (cy 1, 8, .inl h3))] := by rw [ev]; exact hD
  clear ev
  refine lv_lload hx hb d_M_times_88 (lv_at hl 0 rfl) ?_
  refine lv_bipush (v := 32) hx hb d_M_times_90 (by decide) ?_
  refine lv_lushr hx hb d_M_times_92 rfl ?_
  refine lv_topl (fun v4 ev => ?_)
  have hf := bn ev hf
  clear ev
  refine lv_lstore (lv' := [(4, .long v4), (0, .ref o), (1, .ref b1), (6, .int x6)]) hx hb d_M_times_93 hl (by decide) rfl (fun ls hl => ?_)
  obtain ⟨v5, ev, hf⟩ := bne hf
  refine lv_iinc (v := v5) (lv' := [(6, .int v5), (4, .long v4), (0, .ref o), (1, .ref b1)]) hx hb d_M_times_95 hl (k := 3) rfl (by rw [ev]; rfl) (by decide) rfl (fun ls hl => ?_)
  clear ev
  refine lv_goto (tgt := 12) hx hb d_M_times_98 (by decide) ?_
  exact hk_12 _ _ _ _ _ hf _ _ _ hP hD hS (lv_sub hl [2, 3, 1, 0] rfl)
set_option maxHeartbeats 8000000 in
set_option maxRecDepth 100000 in
theorem wb_M_times_12 {p : Program} {l : Launch} {e : Env} {s : State} {m : MethodId} {args : Array Value} {below : List Frame} {meth : Method} {c : Code} {D : va_G} {cy : Nat → ClassId} {A : Nat → Prop} {ad : Nat → Nat} {o : Nat} {q : Nat → Nat} {b1 : Nat} {b2 : Nat} {b3 : Nat} {z : Nat → Int32} {h2 : Nat → Int32} {h3 : Nat → Int32} {fu : Nat} {k_12 : Int64 → Int32 → (Nat → Int32) → (Nat → Int32) → Option ((Nat → Int32) × (Nat → Int32))} (F : Fx p s m args meth c b_M_times 9 "CoinKeeperModel" "times" none D cy ad A) (hk_12 : I_M_times_12 p l e s m args below meth c D cy A ad o q b1 b2 b3 z h2 h3 k_12) : I_M_times_12 p l e s m args below meth c D cy A ad o q b1 b2 b3 z h2 h3 (xb_M_times_12 fu z h2 h3 k_12) := by
  obtain ⟨hx, hb, hr, hml, hown, hts, hlocks, hK, hA, hSt, hnm, hex⟩ := id F
  intro x4 x6 u0 u1 res hf H locs ls hP hD hS hl
  unfold xb_M_times_12 at hf
  refine lv_iload hx hb d_M_times_12 (lv_at hl 3 rfl) ?_
  refine lv_bipush (v := 8) hx hb d_M_times_14 (by decide) ?_
  refine lv_icmp_ge (tgt := 101) hx hb d_M_times_16 (by decide) (fun cx => ?_) (fun cx => ?_)
  · have hf := ifp cx hf
    refine lv_lload hx hb d_M_times_101 (lv_at hl 2 rfl) ?_
    refine lv_aload_n hx hb d_M_times_103 rfl (lv_at hl 0 rfl) ?_
    refine va_get (D := D) (ci := 12) (v := .ref (q 50)) (C := "CoinKeeperModel") (T := F_12) (N := 98) hx hb hts i_12 hown hK hP 0 rfl rfl 58 (by decide) (hts _ gw_1477) (fun _ h9 => h9) rfl d_M_times_104 ?_
    refine lv_bipush (v := 15) hx hb d_M_times_107 (by decide) ?_
    refine va_iald hx hb hK hP 1 1 rfl rfl (inb_in (by decide)) d_M_times_109 ?_
    refine lv_topi (fun v1 ev => ?_)
    have hf := bn ev hf
    clear ev
    refine lv_i2l hx hb d_M_times_110 rfl ?_
    refine lv_topl (fun v2 ev => ?_)
    have hf := bn ev hf
    clear ev
    refine lv_ldc2 (v := 4294967295) hx hb hown (hts _ gw_1390) d_M_times_111 ?_
    refine lv_land hx hb d_M_times_114 ?_
    refine lv_ladd hx hb d_M_times_115 ?_
    refine lv_topl (fun v3 ev => ?_)
    have hf := bn ev hf
    clear ev
    refine lv_lstore (lv' := [(6, .long v3), (0, .ref o), (1, .ref b1), (4, .long x4)]) hx hb d_M_times_116 hl (by decide) rfl (fun ls hl => ?_)
    exact w_M_times_118 F fu _ _ _ _ hf _ _ _ hP hD hS (lv_sub hl [2, 0] rfl)
  · have hf := ifn cx hf
    refine lv_lload hx hb d_M_times_19 (lv_at hl 2 rfl) ?_
    refine lv_aload_n hx hb d_M_times_21 rfl (lv_at hl 0 rfl) ?_
    refine va_get (D := D) (ci := 12) (v := .ref (q 50)) (C := "CoinKeeperModel") (T := F_12) (N := 98) hx hb hts i_12 hown hK hP 0 rfl rfl 58 (by decide) (hts _ gw_1477) (fun _ h9 => h9) rfl d_M_times_22 ?_
    refine lv_iload hx hb d_M_times_25 (lv_at hl 3 rfl) ?_
    obtain ⟨hg, hf⟩ := gdp hf
    refine va_iald hx hb hK hP 1 1 rfl rfl (inb_in hg) d_M_times_27 ?_
    refine lv_topi (fun v4 ev => ?_)
    have hf := bn ev hf
    clear ev
    refine lv_i2l hx hb d_M_times_28 rfl ?_
    refine lv_topl (fun v5 ev => ?_)
    have hf := bn ev hf
    clear ev
    refine lv_ldc2 (v := 4294967295) hx hb hown (hts _ gw_1390) d_M_times_29 ?_
    refine lv_land hx hb d_M_times_32 ?_
    refine lv_topl (fun v6 ev => ?_)
    have hf := bn ev hf
    clear ev
    refine lv_aload_n hx hb d_M_times_33 rfl (lv_at hl 0 rfl) ?_
    refine va_get (D := D) (ci := 12) (v := .ref (q 50)) (C := "CoinKeeperModel") (T := F_12) (N := 98) hx hb hts i_12 hown hK hP 0 rfl rfl 58 (by decide) (hts _ gw_1477) (fun _ h9 => h9) rfl d_M_times_34 ?_
    refine lv_bipush (v := 8) hx hb d_M_times_37 (by decide) ?_
    refine lv_iload hx hb d_M_times_39 (lv_at hl 3 rfl) ?_
    refine lv_iadd hx hb d_M_times_41 ?_
    refine lv_topi (fun v7 ev => ?_)
    have hf := bn ev hf
    clear ev
    obtain ⟨hg, hf⟩ := gdp hf
    refine va_iald hx hb hK hP 1 1 rfl rfl (inb_in hg) d_M_times_42 ?_
    refine lv_topi (fun v8 ev => ?_)
    have hf := bn ev hf
    clear ev
    refine lv_i2l hx hb d_M_times_43 rfl ?_
    refine lv_topl (fun v9 ev => ?_)
    have hf := bn ev hf
    clear ev
    refine lv_ldc2 (v := 4294967295) hx hb hown (hts _ gw_1390) d_M_times_44 ?_
    refine lv_land hx hb d_M_times_47 ?_
    refine lv_topl (fun v10 ev => ?_)
    have hf := bn ev hf
    clear ev
    refine lv_ldc2 (v := 977) hx hb hown (hts _ gw_1984) d_M_times_48 ?_
    refine lv_lmul hx hb d_M_times_51 ?_
    refine lv_ladd hx hb d_M_times_52 ?_
    refine lv_topl (fun v11 ev => ?_)
    have hf := bn ev hf
    clear ev
    refine lv_iload hx hb d_M_times_53 (lv_at hl 3 rfl) ?_
    refine lv_if_le (tgt := 76) hx hb d_M_times_55 (by decide) (fun cx => ?_) (fun cx => ?_)
    · have hf := ifp cx hf
      refine lv_lconst (v := 0) hx hb d_M_times_76 (by decide) ?_
      exact wb_M_times_77 (fu := fu) F hk_12 _ _ _ _ _ _ _ hf _ _ _ hP hD hS (lv_sub hl [0, 1, 3] rfl)
    · have hf := ifn cx hf
      refine lv_aload_n hx hb d_M_times_58 rfl (lv_at hl 0 rfl) ?_
      refine va_get (D := D) (ci := 12) (v := .ref (q 50)) (C := "CoinKeeperModel") (T := F_12) (N := 98) hx hb hts i_12 hown hK hP 0 rfl rfl 58 (by decide) (hts _ gw_1477) (fun _ h9 => h9) rfl d_M_times_59 ?_
      refine lv_bipush (v := 7) hx hb d_M_times_62 (by decide) ?_
      refine lv_iload hx hb d_M_times_64 (lv_at hl 3 rfl) ?_
      refine lv_iadd hx hb d_M_times_66 ?_
      refine lv_topi (fun v12 ev => ?_)
      have hf := bn ev hf
      clear ev
      obtain ⟨hg, hf⟩ := gdp hf
      refine va_iald hx hb hK hP 1 1 rfl rfl (inb_in hg) d_M_times_67 ?_
      refine lv_topi (fun v13 ev => ?_)
      have hf := bn ev hf
      clear ev
      refine lv_i2l hx hb d_M_times_68 rfl ?_
      refine lv_topl (fun v14 ev => ?_)
      have hf := bn ev hf
      clear ev
      refine lv_ldc2 (v := 4294967295) hx hb hown (hts _ gw_1390) d_M_times_69 ?_
      refine lv_land hx hb d_M_times_72 ?_
      refine lv_goto (tgt := 77) hx hb d_M_times_73 (by decide) ?_
      exact wb_M_times_77 (fu := fu) F hk_12 _ _ _ _ _ _ _ hf _ _ _ hP hD hS (lv_sub hl [0, 1, 3] rfl)
theorem w_M_times_12 {p : Program} {l : Launch} {e : Env} {s : State} {m : MethodId} {args : Array Value} {below : List Frame} {meth : Method} {c : Code} {D : va_G} {cy : Nat → ClassId} {A : Nat → Prop} {ad : Nat → Nat} {o : Nat} {q : Nat → Nat} {b1 : Nat} {b2 : Nat} {b3 : Nat} {z : Nat → Int32} {h2 : Nat → Int32} {h3 : Nat → Int32} {fu : Nat} (F : Fx p s m args meth c b_M_times 9 "CoinKeeperModel" "times" none D cy ad A) : ∀ n : Nat, I_M_times_12 p l e s m args below meth c D cy A ad o q b1 b2 b3 z h2 h3 (x_M_times_12 fu z h2 h3 n)
  | 0 => fun _ _ _ _ _ hf => nomatch (show (none : Option ((Nat → Int32) × (Nat → Int32))) = some _ from hf)
  | n + 1 => wb_M_times_12 F (w_M_times_12 F n)
set_option maxHeartbeats 8000000 in
set_option maxRecDepth 100000 in
theorem we_M_times {p : Program} {l : Launch} {e : Env} {s : State} {m : MethodId} {args : Array Value} {below : List Frame} {meth : Method} {c : Code} {D : va_G} {cy : Nat → ClassId} {A : Nat → Prop} {ad : Nat → Nat} {o : Nat} {q : Nat → Nat} {b1 : Nat} {b2 : Nat} {b3 : Nat} {z : Nat → Int32} {h2 : Nat → Int32} {h3 : Nat → Int32} {fu : Nat} (F : Fx p s m args meth c b_M_times 9 "CoinKeeperModel" "times" none D cy ad A) : I_M_times_e p l e s m args below meth c D cy A ad o q b1 b2 b3 z h2 h3 (x_M_times fu z h2 h3) := by
  obtain ⟨hx, hb, hr, hml, hown, hts, hlocks, hK, hA, hSt, hnm, hex⟩ := id F
  intro u0 u1 res hf H locs ls hP hD hS hl
  unfold x_M_times at hf
  refine lv_aload_n hx hb d_M_times_0 rfl (lv_at hl 0 rfl) ?_
  refine lv_aload_n hx hb d_M_times_1 rfl (lv_at hl 2 rfl) ?_
  refine lv_aload_n hx hb d_M_times_2 rfl (lv_at hl 3 rfl) ?_
  obtain ⟨f1, hc, hf⟩ := bdp1 hf
  refine q_av (wr := [(b1, .inl (cy 1, 8, .inl u1))]) (va_runV (C := "CoinKeeperModel") (As := [.ref b2, .ref b3]) (rest := []) ⟨hx, hb, hml, hown, hts⟩ (c_M_multiply l D cy ad fu o q b2 b3 z h2 h3 u0 _ hc H.size) ⟨q_cB hts gw_1983 gw_18 gw_1980 hdm_18 ⟨by decide, by decide⟩, hts _ gw_1982, hts _ gs_113⟩ (q_preV (q_pre (hP.sub [0, 1, 3, 4] rfl) (hD.sub [0, 1, 3, 4] (by decide) rfl) hK hSt hS (va_free hD hS hA [0, 1, 3, 4] rfl) _) (va_recv hK (hP.sub [0, 1, 3, 4] rfl) (ci := 12) (q0 := 0) rfl rfl)) rfl rfl hl.1 rfl (lv_room (Nat.le_of_ble_eq_true rfl)) d_M_times_3 ⟨Nat.le_of_ble_eq_true rfl, Nat.le_of_ble_eq_true rfl⟩) hP hD hS hA [0, 1, 3, 4] [2] rfl rfl (by decide) (by decide) (fun H locs hP hD hS => ?_)
  clear hc
  have hP : va_P D classes [(b1, .inl (cy 1, 8, .inl u1)), (o, .inr (12, mo q z)), ((q 50), .inl (cy 1, 16, .inl f1)), (b2, .inl (cy 1, 8, .inl h2)), (b3, .inl (cy 1, 8, .inl h3))] H := hP
  have hD : va_D A [(b1, .inl (cy 1, 8, .inl u1)), (o, .inr (12, mo q z)), ((q 50), .inl (cy 1, 16, .inl f1)), (b2, .inl (cy 1, 8, .inl h2)), (b3, .inl (cy 1, 8, .inl h3))] := hD
  refine lv_lconst (v := 0) hx hb d_M_times_6 (by decide) ?_
  refine lv_lstore (lv' := [(4, .long (0 : Int64)), (0, .ref o), (1, .ref b1), (2, .ref b2), (3, .ref b3)]) hx hb d_M_times_7 hl (by decide) rfl (fun ls hl => ?_)
  refine lv_iconst (v := 0) hx hb d_M_times_9 (by decide) ?_
  refine lv_istore (lv' := [(6, .int (0 : Int32)), (4, .long (0 : Int64)), (0, .ref o), (1, .ref b1), (2, .ref b2), (3, .ref b3)]) hx hb d_M_times_10 hl (by decide) rfl (fun ls hl => ?_)
  exact w_M_times_12 F fu _ _ _ _ _ hf _ _ _ (hP.sub (ws' := [(o, .inr (12, mo q z)), ((q 50), .inl (cy 1, 16, .inl f1)), (b1, .inl (cy 1, 8, .inl u1)), (b2, .inl (cy 1, 8, .inl h2)), (b3, .inl (cy 1, 8, .inl h3))]) [1, 2, 0, 3, 4] rfl) (hD.sub (ws' := [(o, .inr (12, mo q z)), ((q 50), .inl (cy 1, 16, .inl f1)), (b1, .inl (cy 1, 8, .inl u1)), (b2, .inl (cy 1, 8, .inl h2)), (b3, .inl (cy 1, 8, .inl h3))]) [1, 2, 0, 3, 4] (by decide) rfl) hS (lv_sub hl [2, 3, 1, 0] rfl)
theorem c_M_times (l : Launch) (D : va_G) (cy : Nat → ClassId) (ad : Nat → Nat) (fu : Nat) (o : Nat) (q : Nat → Nat) (b1 : Nat) (b2 : Nat) (b3 : Nat) (z : Nat → Int32) (h2 : Nat → Int32) (h3 : Nat → Int32) (u0 : Nat → Int32) (u1 : Nat → Int32) (res : (Nat → Int32) × (Nat → Int32)) (hf : x_M_times fu z h2 h3 u0 u1 = some res) (sz : Nat) : Met l ({ cls := "CoinKeeperModel", name := "times", desc := "([I[I[I)V" } : Jvm.MethodName) (.code ({ cls := "CoinKeeperModel", name := "times", desc := "([I[I[I)V" } : Jvm.MethodName) b_M_times 9 none :: gw) rm_M_times (va_Pc [.ref o, .ref b1, .ref b2, .ref b3] (Pr D cy ad [(o, .inr (12, mo q z)), ((q 50), .inl (cy 1, 16, .inl u0)), (b1, .inl (cy 1, 8, .inl u1)), (b2, .inl (cy 1, 8, .inl h2)), (b3, .inl (cy 1, 8, .inl h3))] sz)) (q_M_times D cy (va_A [(o, .inr (12, mo q z)), ((q 50), .inl (cy 1, 16, .inl u0)), (b1, .inl (cy 1, 8, .inl u1)), (b2, .inl (cy 1, 8, .inl h2)), (b3, .inl (cy 1, 8, .inl h3))] sz) o q b1 b2 b3 z h2 h3 res) 0 0 (va_A [(o, .inr (12, mo q z)), ((q 50), .inl (cy 1, 16, .inl u0)), (b1, .inl (cy 1, 8, .inl u1)), (b2, .inl (cy 1, 8, .inl h2)), (b3, .inl (cy 1, 8, .inl h3))] sz) :=
  q_met (Qc := fun A => q_M_times D cy A o q b1 b2 b3 z h2 h3 res) (by decide) rfl rfl (Nat.le_of_ble_eq_true rfl) (fun p e s m below meth c ls F hP hD hS hl => we_M_times (fu := fu) F u0 u1 res hf _ _ _ hP hD hS hl) sz
abbrev rm_M_minus_e10 : Room := { frames := 1, cells := 0, slots := 0, locals := 25 }
abbrev q_M_minus_e10 (D : va_G) (cy : Nat → ClassId) (A : Nat → Prop) (b0 : Nat) (b2 : Nat) (h2 : Nat → Int32) (res : (Nat → Int32)) : Array Value → State → Outcome → State → Prop := va_Qv (fun (_ : Unit) => True) (fun _ t => Po D cy A [(b0, .inl (cy 1, 8, .inl res)), (b2, .inl (cy 1, 8, .inl h2))] t) A
def I_M_minus_e10_e (p : Program) (l : Launch) (e : Env) (s : State) (m : MethodId) (args : Array Value) (below : List Frame) (meth : Method) (c : Code) (D : va_G) (cy : Nat → ClassId) (A : Nat → Prop) (ad : Nat → Nat) (b0 : Nat) (b2 : Nat) (h2 : Nat → Int32) (k : (Nat → Int32) → Option ((Nat → Int32))) : Prop :=
  ∀ (u0 : Nat → Int32) (res : (Nat → Int32)), k u0 = some res → ∀ (H : Heap) (locs : List Loc) (ls : Array Slot), va_P D classes [(b0, .inl (cy 1, 8, .inl u0)), (b2, .inl (cy 1, 8, .inl h2))] H → va_D A [(b0, .inl (cy 1, 8, .inl u0)), (b2, .inl (cy 1, 8, .inl h2))] → va_S A s.heap H locs → lv_has ls 3 [(0, .ref b0), (1, .ref b0), (2, .ref b2)] → W p l e rm_M_minus_e10 s m args below meth c H locs 0 0 (MQ below (q_M_minus_e10 D cy A b0 b2 h2 res) args s 0 0 A) (F0 m 0 ls [])
set_option maxHeartbeats 8000000 in
set_option maxRecDepth 100000 in
theorem we_M_minus_e10 {p : Program} {l : Launch} {e : Env} {s : State} {m : MethodId} {args : Array Value} {below : List Frame} {meth : Method} {c : Code} {D : va_G} {cy : Nat → ClassId} {A : Nat → Prop} {ad : Nat → Nat} {b0 : Nat} {b2 : Nat} {h2 : Nat → Int32} {fu : Nat} (F : Fx p s m args meth c b_M_minus 3 "CoinKeeperModel" "minus" none D cy ad A) : I_M_minus_e10_e p l e s m args below meth c D cy A ad b0 b2 h2 (x_M_minus_e10 fu h2) := by
  obtain ⟨hx, hb, hr, hml, hown, hts, hlocks, hK, hA, hSt, hnm, hex⟩ := id F
  intro u0 res hf H locs ls hP hD hS hl
  unfold x_M_minus_e10 at hf
  refine lv_aload_n hx hb d_M_minus_0 rfl (lv_at hl 0 rfl) ?_
  refine lv_aload_n hx hb d_M_minus_1 rfl (lv_at hl 1 rfl) ?_
  refine lv_aload_n hx hb d_M_minus_2 rfl (lv_at hl 2 rfl) ?_
  obtain ⟨v1, f2, hc, hf⟩ := bdp2 hf
  refine q_ai (wr := []) (va_runS (As := [.ref b0, .ref b0, .ref b2]) (rest := []) ⟨hx, hb, hml, hown, hts⟩ (c_M_sub_e10 l D cy ad fu b0 b2 h2 u0 _ hc H.size) ⟨q_cB hts gw_1414 gw_18 gw_1412 hdm_17 ⟨by decide, by decide⟩, hts _ gw_1413⟩ (q_pre (hP.sub [0, 1] rfl) (hD.sub [0, 1] (by decide) rfl) hK hSt hS (va_free hD hS hA [0, 1] rfl) _) rfl rfl hl.1 rfl (lv_room (Nat.le_of_ble_eq_true rfl)) d_M_minus_3 ⟨Nat.le_of_ble_eq_true rfl, Nat.le_of_ble_eq_true rfl⟩) hP hD hS hA [0, 1] [] rfl rfl (by decide) (by decide) (fun H locs hP hD hS => ?_)
  clear hc
  have hP : va_P D classes [(b0, .inl (cy 1, 8, .inl f2)), (b2, .inl (cy 1, 8, .inl h2))] H := hP
  have hD : va_D A [(b0, .inl (cy 1, 8, .inl f2)), (b2, .inl (cy 1, 8, .inl h2))] := hD
  refine lv_if_eq (tgt := 18) hx hb d_M_minus_6 (by decide) (fun cx => ?_) (fun cx => ?_)
  · have hf := ifp cx hf
    obtain rfl := Option.some.inj hf
    exact q_rv hx hb hr hlocks hK hP hD hS d_M_minus_18
  · have hf := ifn cx hf
    refine lv_aload_n hx hb d_M_minus_9 rfl (lv_at hl 0 rfl) ?_
    refine lv_aload_n hx hb d_M_minus_10 rfl (lv_at hl 0 rfl) ?_
    refine va_gets hx hb (hSt.1 22 _ rfl).1 hS hown (hts _ gw_1974) (fun _ h9 => h9) d_M_minus_11 ?_
    obtain ⟨v3, f4, hc, hf⟩ := bdp2 hf
    refine q_ai (wr := [(b2, .inl (cy 1, 8, .inl h2))]) (va_runS (As := [.ref b0, .ref b0, .ref (ad 22)]) (rest := []) ⟨hx, hb, hml, hown, hts⟩ (c_M_add_e10s2x22 l D cy ad fu b0 f2 _ hc H.size) ⟨q_cB hts gw_1389 gw_18 gw_1387 hdm_19 ⟨by decide, by decide⟩, hts _ gw_1388⟩ (q_pre (hP.sub [0] rfl) (hD.sub [0] (by decide) rfl) hK hSt hS (va_free hD hS hA [0] rfl) _) rfl rfl hl.1 rfl (lv_room (Nat.le_of_ble_eq_true rfl)) d_M_minus_14 ⟨Nat.le_of_ble_eq_true rfl, Nat.le_of_ble_eq_true rfl⟩) hP hD hS hA [0] [1] rfl rfl (by decide) (by decide) (fun H locs hP hD hS => ?_)
    clear hc
    have hP : va_P D classes [(b2, .inl (cy 1, 8, .inl h2)), (b0, .inl (cy 1, 8, .inl f4))] H := hP
    have hD : va_D A [(b2, .inl (cy 1, 8, .inl h2)), (b0, .inl (cy 1, 8, .inl f4))] := hD
    refine lv_pop hx hb d_M_minus_17 rfl ?_
    obtain rfl := Option.some.inj hf
    exact q_rv hx hb hr hlocks hK (hP.sub [1, 0] rfl) (hD.sub [1, 0] (by decide) rfl) hS d_M_minus_18
theorem c_M_minus_e10 (l : Launch) (D : va_G) (cy : Nat → ClassId) (ad : Nat → Nat) (fu : Nat) (b0 : Nat) (b2 : Nat) (h2 : Nat → Int32) (u0 : Nat → Int32) (res : (Nat → Int32)) (hf : x_M_minus_e10 fu h2 u0 = some res) (sz : Nat) : Met l ({ cls := "CoinKeeperModel", name := "minus", desc := "([I[I[I)V" } : Jvm.MethodName) (.code ({ cls := "CoinKeeperModel", name := "minus", desc := "([I[I[I)V" } : Jvm.MethodName) b_M_minus 3 none :: gw) rm_M_minus_e10 (va_Pc [.ref b0, .ref b0, .ref b2] (Pr D cy ad [(b0, .inl (cy 1, 8, .inl u0)), (b2, .inl (cy 1, 8, .inl h2))] sz)) (q_M_minus_e10 D cy (va_A [(b0, .inl (cy 1, 8, .inl u0)), (b2, .inl (cy 1, 8, .inl h2))] sz) b0 b2 h2 res) 0 0 (va_A [(b0, .inl (cy 1, 8, .inl u0)), (b2, .inl (cy 1, 8, .inl h2))] sz) :=
  q_met (Qc := fun A => q_M_minus_e10 D cy A b0 b2 h2 res) (by decide) rfl rfl (Nat.le_of_ble_eq_true rfl) (fun p e s m below meth c ls F hP hD hS hl => we_M_minus_e10 (fu := fu) F u0 res hf _ _ _ hP hD hS hl) sz
abbrev rm_M_sub_e20 : Room := { frames := 0, cells := 0, slots := 0, locals := 0 }
abbrev q_M_sub_e20 (D : va_G) (cy : Nat → ClassId) (A : Nat → Prop) (b0 : Nat) (b1 : Nat) (h1 : Nat → Int32) (res : Int32 × (Nat → Int32)) : Array Value → State → Outcome → State → Prop := va_Qi (fun r' (_ : Unit) => r' = res.1) (fun _ t => Po D cy A [(b0, .inl (cy 1, 8, .inl res.2)), (b1, .inl (cy 1, 8, .inl h1))] t) A
def I_M_sub_e20_5 (p : Program) (l : Launch) (e : Env) (s : State) (m : MethodId) (args : Array Value) (below : List Frame) (meth : Method) (c : Code) (D : va_G) (cy : Nat → ClassId) (A : Nat → Prop) (ad : Nat → Nat) (b0 : Nat) (b1 : Nat) (h1 : Nat → Int32) (k : Int64 → Int32 → (Nat → Int32) → Option (Int32 × (Nat → Int32))) : Prop :=
  ∀ (x3 : Int64) (x5 : Int32) (u0 : Nat → Int32) (res : Int32 × (Nat → Int32)), k x3 x5 u0 = some res → ∀ (H : Heap) (locs : List Loc) (ls : Array Slot), va_P D classes [(b0, .inl (cy 1, 8, .inl u0)), (b1, .inl (cy 1, 8, .inl h1))] H → va_D A [(b0, .inl (cy 1, 8, .inl u0)), (b1, .inl (cy 1, 8, .inl h1))] → va_S A s.heap H locs → lv_has ls 6 [(0, .ref b0), (1, .ref b1), (2, .ref b0), (3, .long x3), (5, .int x5)] → W p l e rm_M_sub_e20 s m args below meth c H locs 0 0 (MQ below (q_M_sub_e20 D cy A b0 b1 h1 res) args s 0 0 A) (F0 m 5 ls [])
def I_M_sub_e20_e (p : Program) (l : Launch) (e : Env) (s : State) (m : MethodId) (args : Array Value) (below : List Frame) (meth : Method) (c : Code) (D : va_G) (cy : Nat → ClassId) (A : Nat → Prop) (ad : Nat → Nat) (b0 : Nat) (b1 : Nat) (h1 : Nat → Int32) (k : (Nat → Int32) → Option (Int32 × (Nat → Int32))) : Prop :=
  ∀ (u0 : Nat → Int32) (res : Int32 × (Nat → Int32)), k u0 = some res → ∀ (H : Heap) (locs : List Loc) (ls : Array Slot), va_P D classes [(b0, .inl (cy 1, 8, .inl u0)), (b1, .inl (cy 1, 8, .inl h1))] H → va_D A [(b0, .inl (cy 1, 8, .inl u0)), (b1, .inl (cy 1, 8, .inl h1))] → va_S A s.heap H locs → lv_has ls 6 [(0, .ref b0), (1, .ref b1), (2, .ref b0)] → W p l e rm_M_sub_e20 s m args below meth c H locs 0 0 (MQ below (q_M_sub_e20 D cy A b0 b1 h1 res) args s 0 0 A) (F0 m 0 ls [])
set_option maxHeartbeats 8000000 in
set_option maxRecDepth 100000 in
theorem wb_M_sub_e20_5 {p : Program} {l : Launch} {e : Env} {s : State} {m : MethodId} {args : Array Value} {below : List Frame} {meth : Method} {c : Code} {D : va_G} {cy : Nat → ClassId} {A : Nat → Prop} {ad : Nat → Nat} {b0 : Nat} {b1 : Nat} {h1 : Nat → Int32} {fu : Nat} {k_5 : Int64 → Int32 → (Nat → Int32) → Option (Int32 × (Nat → Int32))} (F : Fx p s m args meth c b_M_sub 6 "CoinKeeperModel" "sub" (some .int) D cy ad A) (hk_5 : I_M_sub_e20_5 p l e s m args below meth c D cy A ad b0 b1 h1 k_5) : I_M_sub_e20_5 p l e s m args below meth c D cy A ad b0 b1 h1 (xb_M_sub_e20_5 fu h1 k_5) := by
  obtain ⟨hx, hb, hr, hml, hown, hts, hlocks, hK, hA, hSt, hnm, hex⟩ := id F
  intro x3 x5 u0 res hf H locs ls hP hD hS hl
  unfold xb_M_sub_e20_5 at hf
  refine lv_iload hx hb d_M_sub_5 (lv_at hl 4 rfl) ?_
  refine lv_bipush (v := 8) hx hb d_M_sub_7 (by decide) ?_
  refine lv_icmp_ge (tgt := 51) hx hb d_M_sub_9 (by decide) (fun cx => ?_) (fun cx => ?_)
  · have hf := ifp cx hf
    refine lv_lload_n hx hb d_M_sub_51 rfl (lv_at hl 3 rfl) ?_
    refine lv_l2i hx hb d_M_sub_52 rfl ?_
    refine lv_topi (fun v1 ev => ?_)
    have hf := bn ev hf
    clear ev
    obtain rfl := Option.some.inj hf
    exact q_ri hx hb hr hlocks hK hP hD hS d_M_sub_53
  · have hf := ifn cx hf
    refine lv_aload_n hx hb d_M_sub_12 rfl (lv_at hl 1 rfl) ?_
    refine lv_iload hx hb d_M_sub_13 (lv_at hl 4 rfl) ?_
    obtain ⟨hg, hf⟩ := gdp hf
    refine va_iald hx hb hK hP 1 1 rfl rfl (inb_in hg) d_M_sub_15 ?_
    refine lv_topi (fun v2 ev => ?_)
    have hf := bn ev hf
    clear ev
    refine lv_i2l hx hb d_M_sub_16 rfl ?_
    refine lv_topl (fun v3 ev => ?_)
    have hf := bn ev hf
    clear ev
    refine lv_ldc2 (v := 4294967295) hx hb hown (hts _ gw_1390) d_M_sub_17 ?_
    refine lv_land hx hb d_M_sub_20 ?_
    refine lv_topl (fun v4 ev => ?_)
    have hf := bn ev hf
    clear ev
    refine lv_aload_n hx hb d_M_sub_21 rfl (lv_at hl 2 rfl) ?_
    refine lv_iload hx hb d_M_sub_22 (lv_at hl 4 rfl) ?_
    obtain ⟨hg, hf⟩ := gdp hf
    refine va_iald hx hb hK hP 0 1 rfl rfl (inb_in hg) d_M_sub_24 ?_
    refine lv_topi (fun v5 ev => ?_)
    have hf := bn ev hf
    clear ev
    refine lv_i2l hx hb d_M_sub_25 rfl ?_
    refine lv_topl (fun v6 ev => ?_)
    have hf := bn ev hf
    clear ev
    refine lv_ldc2 (v := 4294967295) hx hb hown (hts _ gw_1390) d_M_sub_26 ?_
    refine lv_land hx hb d_M_sub_29 ?_
    refine lv_lsub hx hb d_M_sub_30 ?_
    refine lv_topl (fun v7 ev => ?_)
    have hf := bn ev hf
    clear ev
    refine lv_lload_n hx hb d_M_sub_31 rfl (lv_at hl 3 rfl) ?_
    refine lv_ladd hx hb d_M_sub_32 ?_
    refine lv_topl (fun v8 ev => ?_)
    have hf := bn ev hf
    clear ev
    refine lv_lstore_n (lv' := [(3, .long v8), (0, .ref b0), (1, .ref b1), (2, .ref b0), (5, .int x5)]) hx hb d_M_sub_33 rfl hl (by decide) rfl (fun ls hl => ?_)
    refine lv_aload_n hx hb d_M_sub_34 rfl (lv_at hl 1 rfl) ?_
    refine lv_iload hx hb d_M_sub_35 (lv_at hl 4 rfl) ?_
    refine lv_lload_n hx hb d_M_sub_37 rfl (lv_at hl 0 rfl) ?_
    refine lv_l2i hx hb d_M_sub_38 rfl ?_
    refine lv_topi (fun v9 ev => ?_)
    have hf := bn ev hf
    clear ev
    obtain ⟨hg, hf⟩ := gdp hf
    refine va_iast hx hb hK hP hD hS 0 1 rfl rfl (inb_in hg) d_M_sub_39 (fun H locs hP hD hS => ?_)
    obtain ⟨f10, ev, hf⟩ := bne hf
    have hP : va_P D classes [(b0, .inl (cy 1, 8, .inl f10)), (b1, .inl (cy 1, 8, .inl h1))] H := by rw [ev]; exact hP
    have hD : va_D A [(b0, .inl (cy 1, 8, .inl f10)), (b1, .inl (cy 1, 8, .inl h1))] := by rw [ev]; exact hD
    clear ev
    refine lv_lload_n hx hb d_M_sub_40 rfl (lv_at hl 0 rfl) ?_
    refine lv_bipush (v := 32) hx hb d_M_sub_41 (by decide) ?_
    refine lv_lshr hx hb d_M_sub_43 rfl ?_
    refine lv_topl (fun v11 ev => ?_)
    have hf := bn ev hf
    clear ev
    refine lv_lstore_n (lv' := [(3, .long v11), (0, .ref b0), (1, .ref b1), (2, .ref b0), (5, .int x5)]) hx hb d_M_sub_44 rfl hl (by decide) rfl (fun ls hl => ?_)
    obtain ⟨v12, ev, hf⟩ := bne hf
    refine lv_iinc (v := v12) (lv' := [(5, .int v12), (3, .long v11), (0, .ref b0), (1, .ref b1), (2, .ref b0)]) hx hb d_M_sub_45 hl (k := 4) rfl (by rw [ev]; rfl) (by decide) rfl (fun ls hl => ?_)
    clear ev
    refine lv_goto (tgt := 5) hx hb d_M_sub_48 (by decide) ?_
    exact hk_5 _ _ _ _ hf _ _ _ hP hD hS (lv_sub hl [2, 3, 4, 1, 0] rfl)
theorem w_M_sub_e20_5 {p : Program} {l : Launch} {e : Env} {s : State} {m : MethodId} {args : Array Value} {below : List Frame} {meth : Method} {c : Code} {D : va_G} {cy : Nat → ClassId} {A : Nat → Prop} {ad : Nat → Nat} {b0 : Nat} {b1 : Nat} {h1 : Nat → Int32} {fu : Nat} (F : Fx p s m args meth c b_M_sub 6 "CoinKeeperModel" "sub" (some .int) D cy ad A) : ∀ n : Nat, I_M_sub_e20_5 p l e s m args below meth c D cy A ad b0 b1 h1 (x_M_sub_e20_5 fu h1 n)
  | 0 => fun _ _ _ _ hf => nomatch (show (none : Option (Int32 × (Nat → Int32))) = some _ from hf)
  | n + 1 => wb_M_sub_e20_5 F (w_M_sub_e20_5 F n)
set_option maxHeartbeats 8000000 in
set_option maxRecDepth 100000 in
theorem we_M_sub_e20 {p : Program} {l : Launch} {e : Env} {s : State} {m : MethodId} {args : Array Value} {below : List Frame} {meth : Method} {c : Code} {D : va_G} {cy : Nat → ClassId} {A : Nat → Prop} {ad : Nat → Nat} {b0 : Nat} {b1 : Nat} {h1 : Nat → Int32} {fu : Nat} (F : Fx p s m args meth c b_M_sub 6 "CoinKeeperModel" "sub" (some .int) D cy ad A) : I_M_sub_e20_e p l e s m args below meth c D cy A ad b0 b1 h1 (x_M_sub_e20 fu h1) := by
  obtain ⟨hx, hb, hr, hml, hown, hts, hlocks, hK, hA, hSt, hnm, hex⟩ := id F
  intro u0 res hf H locs ls hP hD hS hl
  unfold x_M_sub_e20 at hf
  refine lv_lconst (v := 0) hx hb d_M_sub_0 (by decide) ?_
  refine lv_lstore_n (lv' := [(3, .long (0 : Int64)), (0, .ref b0), (1, .ref b1), (2, .ref b0)]) hx hb d_M_sub_1 rfl hl (by decide) rfl (fun ls hl => ?_)
  refine lv_iconst (v := 0) hx hb d_M_sub_2 (by decide) ?_
  refine lv_istore (lv' := [(5, .int (0 : Int32)), (3, .long (0 : Int64)), (0, .ref b0), (1, .ref b1), (2, .ref b0)]) hx hb d_M_sub_3 hl (by decide) rfl (fun ls hl => ?_)
  exact w_M_sub_e20_5 F fu _ _ _ _ hf _ _ _ hP hD hS (lv_sub hl [2, 3, 4, 1, 0] rfl)
theorem c_M_sub_e20 (l : Launch) (D : va_G) (cy : Nat → ClassId) (ad : Nat → Nat) (fu : Nat) (b0 : Nat) (b1 : Nat) (h1 : Nat → Int32) (u0 : Nat → Int32) (res : Int32 × (Nat → Int32)) (hf : x_M_sub_e20 fu h1 u0 = some res) (sz : Nat) : Met l ({ cls := "CoinKeeperModel", name := "sub", desc := "([I[I[I)I" } : Jvm.MethodName) (.code ({ cls := "CoinKeeperModel", name := "sub", desc := "([I[I[I)I" } : Jvm.MethodName) b_M_sub 6 (some .int) :: gw) rm_M_sub_e20 (va_Pc [.ref b0, .ref b1, .ref b0] (Pr D cy ad [(b0, .inl (cy 1, 8, .inl u0)), (b1, .inl (cy 1, 8, .inl h1))] sz)) (q_M_sub_e20 D cy (va_A [(b0, .inl (cy 1, 8, .inl u0)), (b1, .inl (cy 1, 8, .inl h1))] sz) b0 b1 h1 res) 0 0 (va_A [(b0, .inl (cy 1, 8, .inl u0)), (b1, .inl (cy 1, 8, .inl h1))] sz) :=
  q_met (Qc := fun A => q_M_sub_e20 D cy A b0 b1 h1 res) (by decide) rfl rfl (Nat.le_of_ble_eq_true rfl) (fun p e s m below meth c ls F hP hD hS hl => we_M_sub_e20 (fu := fu) F u0 res hf _ _ _ hP hD hS hl) sz
abbrev rm_M_minus_e20 : Room := { frames := 1, cells := 0, slots := 0, locals := 25 }
abbrev q_M_minus_e20 (D : va_G) (cy : Nat → ClassId) (A : Nat → Prop) (b0 : Nat) (b1 : Nat) (h1 : Nat → Int32) (res : (Nat → Int32)) : Array Value → State → Outcome → State → Prop := va_Qv (fun (_ : Unit) => True) (fun _ t => Po D cy A [(b0, .inl (cy 1, 8, .inl res)), (b1, .inl (cy 1, 8, .inl h1))] t) A
def I_M_minus_e20_e (p : Program) (l : Launch) (e : Env) (s : State) (m : MethodId) (args : Array Value) (below : List Frame) (meth : Method) (c : Code) (D : va_G) (cy : Nat → ClassId) (A : Nat → Prop) (ad : Nat → Nat) (b0 : Nat) (b1 : Nat) (h1 : Nat → Int32) (k : (Nat → Int32) → Option ((Nat → Int32))) : Prop :=
  ∀ (u0 : Nat → Int32) (res : (Nat → Int32)), k u0 = some res → ∀ (H : Heap) (locs : List Loc) (ls : Array Slot), va_P D classes [(b0, .inl (cy 1, 8, .inl u0)), (b1, .inl (cy 1, 8, .inl h1))] H → va_D A [(b0, .inl (cy 1, 8, .inl u0)), (b1, .inl (cy 1, 8, .inl h1))] → va_S A s.heap H locs → lv_has ls 3 [(0, .ref b0), (1, .ref b1), (2, .ref b0)] → W p l e rm_M_minus_e20 s m args below meth c H locs 0 0 (MQ below (q_M_minus_e20 D cy A b0 b1 h1 res) args s 0 0 A) (F0 m 0 ls [])
set_option maxHeartbeats 8000000 in
set_option maxRecDepth 100000 in
theorem we_M_minus_e20 {p : Program} {l : Launch} {e : Env} {s : State} {m : MethodId} {args : Array Value} {below : List Frame} {meth : Method} {c : Code} {D : va_G} {cy : Nat → ClassId} {A : Nat → Prop} {ad : Nat → Nat} {b0 : Nat} {b1 : Nat} {h1 : Nat → Int32} {fu : Nat} (F : Fx p s m args meth c b_M_minus 3 "CoinKeeperModel" "minus" none D cy ad A) : I_M_minus_e20_e p l e s m args below meth c D cy A ad b0 b1 h1 (x_M_minus_e20 fu h1) := by
  obtain ⟨hx, hb, hr, hml, hown, hts, hlocks, hK, hA, hSt, hnm, hex⟩ := id F
  intro u0 res hf H locs ls hP hD hS hl
  unfold x_M_minus_e20 at hf
  refine lv_aload_n hx hb d_M_minus_0 rfl (lv_at hl 0 rfl) ?_
  refine lv_aload_n hx hb d_M_minus_1 rfl (lv_at hl 1 rfl) ?_
  refine lv_aload_n hx hb d_M_minus_2 rfl (lv_at hl 2 rfl) ?_
  obtain ⟨v1, f2, hc, hf⟩ := bdp2 hf
  refine q_ai (wr := []) (va_runS (As := [.ref b0, .ref b1, .ref b0]) (rest := []) ⟨hx, hb, hml, hown, hts⟩ (c_M_sub_e20 l D cy ad fu b0 b1 h1 u0 _ hc H.size) ⟨q_cB hts gw_1414 gw_18 gw_1412 hdm_17 ⟨by decide, by decide⟩, hts _ gw_1413⟩ (q_pre (hP.sub [0, 1] rfl) (hD.sub [0, 1] (by decide) rfl) hK hSt hS (va_free hD hS hA [0, 1] rfl) _) rfl rfl hl.1 rfl (lv_room (Nat.le_of_ble_eq_true rfl)) d_M_minus_3 ⟨Nat.le_of_ble_eq_true rfl, Nat.le_of_ble_eq_true rfl⟩) hP hD hS hA [0, 1] [] rfl rfl (by decide) (by decide) (fun H locs hP hD hS => ?_)
  clear hc
  have hP : va_P D classes [(b0, .inl (cy 1, 8, .inl f2)), (b1, .inl (cy 1, 8, .inl h1))] H := hP
  have hD : va_D A [(b0, .inl (cy 1, 8, .inl f2)), (b1, .inl (cy 1, 8, .inl h1))] := hD
  refine lv_if_eq (tgt := 18) hx hb d_M_minus_6 (by decide) (fun cx => ?_) (fun cx => ?_)
  · have hf := ifp cx hf
    obtain rfl := Option.some.inj hf
    exact q_rv hx hb hr hlocks hK hP hD hS d_M_minus_18
  · have hf := ifn cx hf
    refine lv_aload_n hx hb d_M_minus_9 rfl (lv_at hl 0 rfl) ?_
    refine lv_aload_n hx hb d_M_minus_10 rfl (lv_at hl 0 rfl) ?_
    refine va_gets hx hb (hSt.1 22 _ rfl).1 hS hown (hts _ gw_1974) (fun _ h9 => h9) d_M_minus_11 ?_
    obtain ⟨v3, f4, hc, hf⟩ := bdp2 hf
    refine q_ai (wr := [(b1, .inl (cy 1, 8, .inl h1))]) (va_runS (As := [.ref b0, .ref b0, .ref (ad 22)]) (rest := []) ⟨hx, hb, hml, hown, hts⟩ (c_M_add_e10s2x22 l D cy ad fu b0 f2 _ hc H.size) ⟨q_cB hts gw_1389 gw_18 gw_1387 hdm_19 ⟨by decide, by decide⟩, hts _ gw_1388⟩ (q_pre (hP.sub [0] rfl) (hD.sub [0] (by decide) rfl) hK hSt hS (va_free hD hS hA [0] rfl) _) rfl rfl hl.1 rfl (lv_room (Nat.le_of_ble_eq_true rfl)) d_M_minus_14 ⟨Nat.le_of_ble_eq_true rfl, Nat.le_of_ble_eq_true rfl⟩) hP hD hS hA [0] [1] rfl rfl (by decide) (by decide) (fun H locs hP hD hS => ?_)
    clear hc
    have hP : va_P D classes [(b1, .inl (cy 1, 8, .inl h1)), (b0, .inl (cy 1, 8, .inl f4))] H := hP
    have hD : va_D A [(b1, .inl (cy 1, 8, .inl h1)), (b0, .inl (cy 1, 8, .inl f4))] := hD
    refine lv_pop hx hb d_M_minus_17 rfl ?_
    obtain rfl := Option.some.inj hf
    exact q_rv hx hb hr hlocks hK (hP.sub [1, 0] rfl) (hD.sub [1, 0] (by decide) rfl) hS d_M_minus_18
theorem c_M_minus_e20 (l : Launch) (D : va_G) (cy : Nat → ClassId) (ad : Nat → Nat) (fu : Nat) (b0 : Nat) (b1 : Nat) (h1 : Nat → Int32) (u0 : Nat → Int32) (res : (Nat → Int32)) (hf : x_M_minus_e20 fu h1 u0 = some res) (sz : Nat) : Met l ({ cls := "CoinKeeperModel", name := "minus", desc := "([I[I[I)V" } : Jvm.MethodName) (.code ({ cls := "CoinKeeperModel", name := "minus", desc := "([I[I[I)V" } : Jvm.MethodName) b_M_minus 3 none :: gw) rm_M_minus_e20 (va_Pc [.ref b0, .ref b1, .ref b0] (Pr D cy ad [(b0, .inl (cy 1, 8, .inl u0)), (b1, .inl (cy 1, 8, .inl h1))] sz)) (q_M_minus_e20 D cy (va_A [(b0, .inl (cy 1, 8, .inl u0)), (b1, .inl (cy 1, 8, .inl h1))] sz) b0 b1 h1 res) 0 0 (va_A [(b0, .inl (cy 1, 8, .inl u0)), (b1, .inl (cy 1, 8, .inl h1))] sz) :=
  q_met (Qc := fun A => q_M_minus_e20 D cy A b0 b1 h1 res) (by decide) rfl rfl (Nat.le_of_ble_eq_true rfl) (fun p e s m below meth c ls F hP hD hS hl => we_M_minus_e20 (fu := fu) F u0 res hf _ _ _ hP hD hS hl) sz
