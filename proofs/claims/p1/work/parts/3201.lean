abbrev b_M_isZero : ByteArray := prog_14_method_11_code
theorem d_M_isZero_0 : decode b_M_isZero 0 = .ok (.iconst 0, 1) := by decide +kernel
theorem d_M_isZero_1 : decode b_M_isZero 1 = .ok (.istore_n 1, 1) := by decide +kernel
theorem d_M_isZero_2 : decode b_M_isZero 2 = .ok (.iload_n 1, 1) := by decide +kernel
theorem d_M_isZero_3 : decode b_M_isZero 3 = .ok (.bipush 8, 2) := by decide +kernel
theorem d_M_isZero_5 : decode b_M_isZero 5 = .ok (.if_icmp .ge 17, 3) := by decide +kernel
theorem d_M_isZero_8 : decode b_M_isZero 8 = .ok (.aload_n 0, 1) := by decide +kernel
theorem d_M_isZero_9 : decode b_M_isZero 9 = .ok (.iload_n 1, 1) := by decide +kernel
theorem d_M_isZero_10 : decode b_M_isZero 10 = .ok (.iaload, 1) := by decide +kernel
theorem d_M_isZero_11 : decode b_M_isZero 11 = .ok (.ifCond .eq 5, 3) := by decide +kernel
theorem d_M_isZero_14 : decode b_M_isZero 14 = .ok (.iconst 0, 1) := by decide +kernel
theorem d_M_isZero_15 : decode b_M_isZero 15 = .ok (.ireturn, 1) := by decide +kernel
theorem d_M_isZero_16 : decode b_M_isZero 16 = .ok (.iinc 1 1, 3) := by decide +kernel
theorem d_M_isZero_19 : decode b_M_isZero 19 = .ok (.goto (-17), 3) := by decide +kernel
theorem d_M_isZero_22 : decode b_M_isZero 22 = .ok (.iconst 1, 1) := by decide +kernel
theorem d_M_isZero_23 : decode b_M_isZero 23 = .ok (.ireturn, 1) := by decide +kernel
abbrev rm_M_isZero : Room := { frames := 0, cells := 0, slots := 0, locals := 0 }
abbrev q_M_isZero (D : va_G) (cy : Nat → ClassId) (A : Nat → Prop) (b0 : Nat) (h0 : Nat → Int32) (res : Int32) : Array Value → State → Outcome → State → Prop := va_Qi (fun r' (_ : Unit) => r' = res) (fun _ t => Po D cy A [(b0, .inl (cy 1, 8, .inl h0))] t) A
def I_M_isZero_2 (p : Program) (l : Launch) (e : Env) (s : State) (m : MethodId) (args : Array Value) (below : List Frame) (meth : Method) (c : Code) (D : va_G) (cy : Nat → ClassId) (A : Nat → Prop) (ad : Nat → Nat) (b0 : Nat) (h0 : Nat → Int32) (k : Int32 → Option (Int32)) : Prop :=
  ∀ (x1 : Int32) (res : Int32), k x1 = some res → ∀ (H : Heap) (locs : List Loc) (ls : Array Slot), va_P D classes [(b0, .inl (cy 1, 8, .inl h0))] H → va_D A [(b0, .inl (cy 1, 8, .inl h0))] → va_S A s.heap H locs → lv_has ls 2 [(0, .ref b0), (1, .int x1)] → W p l e rm_M_isZero s m args below meth c H locs 0 0 (MQ below (q_M_isZero D cy A b0 h0 res) args s 0 0 A) (F0 m 2 ls [])
def I_M_isZero_e (p : Program) (l : Launch) (e : Env) (s : State) (m : MethodId) (args : Array Value) (below : List Frame) (meth : Method) (c : Code) (D : va_G) (cy : Nat → ClassId) (A : Nat → Prop) (ad : Nat → Nat) (b0 : Nat) (h0 : Nat → Int32) (k : Option (Int32)) : Prop :=
  ∀ (res : Int32), k  = some res → ∀ (H : Heap) (locs : List Loc) (ls : Array Slot), va_P D classes [(b0, .inl (cy 1, 8, .inl h0))] H → va_D A [(b0, .inl (cy 1, 8, .inl h0))] → va_S A s.heap H locs → lv_has ls 2 [(0, .ref b0)] → W p l e rm_M_isZero s m args below meth c H locs 0 0 (MQ below (q_M_isZero D cy A b0 h0 res) args s 0 0 A) (F0 m 0 ls [])
def xb_M_isZero_2 (fu : Nat) (h0 : Nat → Int32) (k_2 : Int32 → Option (Int32)) (x1 : Int32) : Option (Int32) :=
  if (8 : Int32) ≤ x1 then (some ((1 : Int32))) else (gd (inb x1 8) <| bnd (h0 x1.toNatClampNeg) fun v1 => if v1 = 0 then (bnd (x1 + (1 : Int32)) fun v2 => k_2 v2) else (some ((0 : Int32))))
set_option maxHeartbeats 8000000 in
set_option maxRecDepth 100000 in
theorem wb_M_isZero_2 {p : Program} {l : Launch} {e : Env} {s : State} {m : MethodId} {args : Array Value} {below : List Frame} {meth : Method} {c : Code} {D : va_G} {cy : Nat → ClassId} {A : Nat → Prop} {ad : Nat → Nat} {b0 : Nat} {h0 : Nat → Int32} {fu : Nat} {k_2 : Int32 → Option (Int32)} (F : Fx p s m args meth c b_M_isZero 2 "CoinKeeperModel" "isZero" (some .boolean) D cy ad A) (hk_2 : I_M_isZero_2 p l e s m args below meth c D cy A ad b0 h0 k_2) : I_M_isZero_2 p l e s m args below meth c D cy A ad b0 h0 (xb_M_isZero_2 fu h0 k_2) := by
  obtain ⟨hx, hb, hr, hml, hown, hts, hlocks, hK, hA, hSt, hnm, hex⟩ := id F
  intro x1 res hf H locs ls hP hD hS hl
  unfold xb_M_isZero_2 at hf
  refine lv_iload_n hx hb d_M_isZero_2 rfl (lv_at hl 1 rfl) ?_
  refine lv_bipush (v := 8) hx hb d_M_isZero_3 (by decide) ?_
  refine lv_icmp_ge (tgt := 22) hx hb d_M_isZero_5 (by decide) (fun cx => ?_) (fun cx => ?_)
  · have hf := ifp cx hf
    refine lv_iconst (v := 1) hx hb d_M_isZero_22 (by decide) ?_
    obtain rfl := Option.some.inj hf
    exact q_rz hx hb hr hlocks hK hP hD hS (isb_n (v := 1) (by decide)) d_M_isZero_23
  · have hf := ifn cx hf
    refine lv_aload_n hx hb d_M_isZero_8 rfl (lv_at hl 0 rfl) ?_
    refine lv_iload_n hx hb d_M_isZero_9 rfl (lv_at hl 1 rfl) ?_
    obtain ⟨hg, hf⟩ := gdp hf
    refine va_iald hx hb hK hP 0 1 rfl rfl (inb_in hg) d_M_isZero_10 ?_
    refine lv_topi (fun v1 ev => ?_)
    have hf := bn ev hf
    clear ev
    refine lv_if_eq (tgt := 16) hx hb d_M_isZero_11 (by decide) (fun cx => ?_) (fun cx => ?_)
    · have hf := ifp cx hf
      obtain ⟨v2, ev, hf⟩ := bne hf
      refine lv_iinc (v := v2) (lv' := [(1, .int v2), (0, .ref b0)]) hx hb d_M_isZero_16 hl (k := 1) rfl (by rw [ev]; rfl) (by decide) rfl (fun ls hl => ?_)
      clear ev
      refine lv_goto (tgt := 2) hx hb d_M_isZero_19 (by decide) ?_
      exact hk_2 _ _ hf _ _ _ hP hD hS (lv_sub hl [1, 0] rfl)
    · have hf := ifn cx hf
      refine lv_iconst (v := 0) hx hb d_M_isZero_14 (by decide) ?_
      obtain rfl := Option.some.inj hf
      exact q_rz hx hb hr hlocks hK hP hD hS (isb_n (v := 0) (by decide)) d_M_isZero_15
def x_M_isZero_2 (fu : Nat) (h0 : Nat → Int32) : Nat → Int32 → Option (Int32)
  | 0 => fun _ => none
  | n + 1 => xb_M_isZero_2 fu h0 (x_M_isZero_2 fu h0 n)
theorem w_M_isZero_2 {p : Program} {l : Launch} {e : Env} {s : State} {m : MethodId} {args : Array Value} {below : List Frame} {meth : Method} {c : Code} {D : va_G} {cy : Nat → ClassId} {A : Nat → Prop} {ad : Nat → Nat} {b0 : Nat} {h0 : Nat → Int32} {fu : Nat} (F : Fx p s m args meth c b_M_isZero 2 "CoinKeeperModel" "isZero" (some .boolean) D cy ad A) : ∀ n : Nat, I_M_isZero_2 p l e s m args below meth c D cy A ad b0 h0 (x_M_isZero_2 fu h0 n)
  | 0 => fun _ _ hf => nomatch (show (none : Option (Int32)) = some _ from hf)
  | n + 1 => wb_M_isZero_2 F (w_M_isZero_2 F n)
def x_M_isZero (fu : Nat) (h0 : Nat → Int32) : Option (Int32) :=
  x_M_isZero_2 fu h0 fu (0 : Int32)
set_option maxHeartbeats 8000000 in
set_option maxRecDepth 100000 in
theorem we_M_isZero {p : Program} {l : Launch} {e : Env} {s : State} {m : MethodId} {args : Array Value} {below : List Frame} {meth : Method} {c : Code} {D : va_G} {cy : Nat → ClassId} {A : Nat → Prop} {ad : Nat → Nat} {b0 : Nat} {h0 : Nat → Int32} {fu : Nat} (F : Fx p s m args meth c b_M_isZero 2 "CoinKeeperModel" "isZero" (some .boolean) D cy ad A) : I_M_isZero_e p l e s m args below meth c D cy A ad b0 h0 (x_M_isZero fu h0) := by
  obtain ⟨hx, hb, hr, hml, hown, hts, hlocks, hK, hA, hSt, hnm, hex⟩ := id F
  intro  res hf H locs ls hP hD hS hl
  unfold x_M_isZero at hf
  refine lv_iconst (v := 0) hx hb d_M_isZero_0 (by decide) ?_
  refine lv_istore_n (lv' := [(1, .int (0 : Int32)), (0, .ref b0)]) hx hb d_M_isZero_1 rfl hl (by decide) rfl (fun ls hl => ?_)
  exact w_M_isZero_2 F fu _ _ hf _ _ _ hP hD hS (lv_sub hl [1, 0] rfl)
theorem c_M_isZero (l : Launch) (D : va_G) (cy : Nat → ClassId) (ad : Nat → Nat) (fu : Nat) (b0 : Nat) (h0 : Nat → Int32) (res : Int32) (hf : x_M_isZero fu h0 = some res) (sz : Nat) : Met l ({ cls := "CoinKeeperModel", name := "isZero", desc := "([I)Z" } : Jvm.MethodName) (.code ({ cls := "CoinKeeperModel", name := "isZero", desc := "([I)Z" } : Jvm.MethodName) b_M_isZero 2 (some .boolean) :: gw) rm_M_isZero (va_Pc [.ref b0] (Pr D cy ad [(b0, .inl (cy 1, 8, .inl h0))] sz)) (q_M_isZero D cy (va_A [(b0, .inl (cy 1, 8, .inl h0))] sz) b0 h0 res) 0 0 (va_A [(b0, .inl (cy 1, 8, .inl h0))] sz) :=
  q_met (Qc := fun A => q_M_isZero D cy A b0 h0 res) (by decide) rfl rfl (Nat.le_of_ble_eq_true rfl) (fun p e s m below meth c ls F hP hD hS hl => we_M_isZero (fu := fu) F  res hf _ _ _ hP hD hS hl) sz
abbrev b_M_isLow : ByteArray := prog_14_method_18_code
theorem d_M_isLow_0 : decode b_M_isLow 0 = .ok (.iconst 0, 1) := by decide +kernel
theorem d_M_isLow_1 : decode b_M_isLow 1 = .ok (.istore_n 1, 1) := by decide +kernel
theorem d_M_isLow_2 : decode b_M_isLow 2 = .ok (.iload_n 1, 1) := by decide +kernel
theorem d_M_isLow_3 : decode b_M_isLow 3 = .ok (.bipush 7, 2) := by decide +kernel
theorem d_M_isLow_5 : decode b_M_isLow 5 = .ok (.if_icmp .ge 20, 3) := by decide +kernel
theorem d_M_isLow_8 : decode b_M_isLow 8 = .ok (.aload_n 0, 1) := by decide +kernel
theorem d_M_isLow_9 : decode b_M_isLow 9 = .ok (.getfield 130, 3) := by decide +kernel
theorem d_M_isLow_12 : decode b_M_isLow 12 = .ok (.iload_n 1, 1) := by decide +kernel
theorem d_M_isLow_13 : decode b_M_isLow 13 = .ok (.iaload, 1) := by decide +kernel
theorem d_M_isLow_14 : decode b_M_isLow 14 = .ok (.ifCond .eq 5, 3) := by decide +kernel
theorem d_M_isLow_17 : decode b_M_isLow 17 = .ok (.iconst 0, 1) := by decide +kernel
theorem d_M_isLow_18 : decode b_M_isLow 18 = .ok (.ireturn, 1) := by decide +kernel
theorem d_M_isLow_19 : decode b_M_isLow 19 = .ok (.iinc 1 1, 3) := by decide +kernel
theorem d_M_isLow_22 : decode b_M_isLow 22 = .ok (.goto (-20), 3) := by decide +kernel
theorem d_M_isLow_25 : decode b_M_isLow 25 = .ok (.iconst 1, 1) := by decide +kernel
theorem d_M_isLow_26 : decode b_M_isLow 26 = .ok (.ireturn, 1) := by decide +kernel
abbrev rm_M_isLow : Room := { frames := 0, cells := 0, slots := 0, locals := 0 }
abbrev q_M_isLow (D : va_G) (cy : Nat → ClassId) (A : Nat → Prop) (o : Nat) (q : Nat → Nat) (z : Nat → Int32) (g_target : Nat → Int32) (res : Int32) : Array Value → State → Outcome → State → Prop := va_Qi (fun r' (_ : Unit) => r' = res) (fun _ t => Po D cy A [(o, .inr (12, mo q z)), ((q 38), .inl (cy 1, 8, .inl g_target))] t) A
def I_M_isLow_2 (p : Program) (l : Launch) (e : Env) (s : State) (m : MethodId) (args : Array Value) (below : List Frame) (meth : Method) (c : Code) (D : va_G) (cy : Nat → ClassId) (A : Nat → Prop) (ad : Nat → Nat) (o : Nat) (q : Nat → Nat) (z : Nat → Int32) (g_target : Nat → Int32) (k : Int32 → Option (Int32)) : Prop :=
  ∀ (x1 : Int32) (res : Int32), k x1 = some res → ∀ (H : Heap) (locs : List Loc) (ls : Array Slot), va_P D classes [(o, .inr (12, mo q z)), ((q 38), .inl (cy 1, 8, .inl g_target))] H → va_D A [(o, .inr (12, mo q z)), ((q 38), .inl (cy 1, 8, .inl g_target))] → va_S A s.heap H locs → lv_has ls 2 [(0, .ref o), (1, .int x1)] → W p l e rm_M_isLow s m args below meth c H locs 0 0 (MQ below (q_M_isLow D cy A o q z g_target res) args s 0 0 A) (F0 m 2 ls [])
def I_M_isLow_e (p : Program) (l : Launch) (e : Env) (s : State) (m : MethodId) (args : Array Value) (below : List Frame) (meth : Method) (c : Code) (D : va_G) (cy : Nat → ClassId) (A : Nat → Prop) (ad : Nat → Nat) (o : Nat) (q : Nat → Nat) (z : Nat → Int32) (g_target : Nat → Int32) (k : Option (Int32)) : Prop :=
  ∀ (res : Int32), k  = some res → ∀ (H : Heap) (locs : List Loc) (ls : Array Slot), va_P D classes [(o, .inr (12, mo q z)), ((q 38), .inl (cy 1, 8, .inl g_target))] H → va_D A [(o, .inr (12, mo q z)), ((q 38), .inl (cy 1, 8, .inl g_target))] → va_S A s.heap H locs → lv_has ls 2 [(0, .ref o)] → W p l e rm_M_isLow s m args below meth c H locs 0 0 (MQ below (q_M_isLow D cy A o q z g_target res) args s 0 0 A) (F0 m 0 ls [])
def xb_M_isLow_2 (fu : Nat) (z : Nat → Int32) (g_target : Nat → Int32) (k_2 : Int32 → Option (Int32)) (x1 : Int32) : Option (Int32) :=
  if (7 : Int32) ≤ x1 then (some ((1 : Int32))) else (gd (inb x1 8) <| bnd (g_target x1.toNatClampNeg) fun v1 => if v1 = 0 then (bnd (x1 + (1 : Int32)) fun v2 => k_2 v2) else (some ((0 : Int32))))
set_option maxHeartbeats 8000000 in
set_option maxRecDepth 100000 in
theorem wb_M_isLow_2 {p : Program} {l : Launch} {e : Env} {s : State} {m : MethodId} {args : Array Value} {below : List Frame} {meth : Method} {c : Code} {D : va_G} {cy : Nat → ClassId} {A : Nat → Prop} {ad : Nat → Nat} {o : Nat} {q : Nat → Nat} {z : Nat → Int32} {g_target : Nat → Int32} {fu : Nat} {k_2 : Int32 → Option (Int32)} (F : Fx p s m args meth c b_M_isLow 2 "CoinKeeperModel" "isLow" (some .boolean) D cy ad A) (hk_2 : I_M_isLow_2 p l e s m args below meth c D cy A ad o q z g_target k_2) : I_M_isLow_2 p l e s m args below meth c D cy A ad o q z g_target (xb_M_isLow_2 fu z g_target k_2) := by
  obtain ⟨hx, hb, hr, hml, hown, hts, hlocks, hK, hA, hSt, hnm, hex⟩ := id F
  intro x1 res hf H locs ls hP hD hS hl
  unfold xb_M_isLow_2 at hf
  refine lv_iload_n hx hb d_M_isLow_2 rfl (lv_at hl 1 rfl) ?_
  refine lv_bipush (v := 7) hx hb d_M_isLow_3 (by decide) ?_
  refine lv_icmp_ge (tgt := 25) hx hb d_M_isLow_5 (by decide) (fun cx => ?_) (fun cx => ?_)
  · have hf := ifp cx hf
    refine lv_iconst (v := 1) hx hb d_M_isLow_25 (by decide) ?_
    obtain rfl := Option.some.inj hf
    exact q_rz hx hb hr hlocks hK hP hD hS (isb_n (v := 1) (by decide)) d_M_isLow_26
  · have hf := ifn cx hf
    refine lv_aload_n hx hb d_M_isLow_8 rfl (lv_at hl 0 rfl) ?_
    refine va_get (D := D) (ci := 12) (v := .ref (q 38)) (C := "CoinKeeperModel") (T := F_12) (N := 98) hx hb hts i_12 hown hK hP 0 rfl rfl 46 (by decide) (hts _ gw_1465) (fun _ h9 => h9) rfl d_M_isLow_9 ?_
    refine lv_iload_n hx hb d_M_isLow_12 rfl (lv_at hl 1 rfl) ?_
    obtain ⟨hg, hf⟩ := gdp hf
    refine va_iald hx hb hK hP 1 1 rfl rfl (inb_in hg) d_M_isLow_13 ?_
    refine lv_topi (fun v1 ev => ?_)
    have hf := bn ev hf
    clear ev
    refine lv_if_eq (tgt := 19) hx hb d_M_isLow_14 (by decide) (fun cx => ?_) (fun cx => ?_)
    · have hf := ifp cx hf
      obtain ⟨v2, ev, hf⟩ := bne hf
      refine lv_iinc (v := v2) (lv' := [(1, .int v2), (0, .ref o)]) hx hb d_M_isLow_19 hl (k := 1) rfl (by rw [ev]; rfl) (by decide) rfl (fun ls hl => ?_)
      clear ev
      refine lv_goto (tgt := 2) hx hb d_M_isLow_22 (by decide) ?_
      exact hk_2 _ _ hf _ _ _ hP hD hS (lv_sub hl [1, 0] rfl)
    · have hf := ifn cx hf
      refine lv_iconst (v := 0) hx hb d_M_isLow_17 (by decide) ?_
      obtain rfl := Option.some.inj hf
      exact q_rz hx hb hr hlocks hK hP hD hS (isb_n (v := 0) (by decide)) d_M_isLow_18
def x_M_isLow_2 (fu : Nat) (z : Nat → Int32) (g_target : Nat → Int32) : Nat → Int32 → Option (Int32)
  | 0 => fun _ => none
  | n + 1 => xb_M_isLow_2 fu z g_target (x_M_isLow_2 fu z g_target n)
theorem w_M_isLow_2 {p : Program} {l : Launch} {e : Env} {s : State} {m : MethodId} {args : Array Value} {below : List Frame} {meth : Method} {c : Code} {D : va_G} {cy : Nat → ClassId} {A : Nat → Prop} {ad : Nat → Nat} {o : Nat} {q : Nat → Nat} {z : Nat → Int32} {g_target : Nat → Int32} {fu : Nat} (F : Fx p s m args meth c b_M_isLow 2 "CoinKeeperModel" "isLow" (some .boolean) D cy ad A) : ∀ n : Nat, I_M_isLow_2 p l e s m args below meth c D cy A ad o q z g_target (x_M_isLow_2 fu z g_target n)
  | 0 => fun _ _ hf => nomatch (show (none : Option (Int32)) = some _ from hf)
  | n + 1 => wb_M_isLow_2 F (w_M_isLow_2 F n)
def x_M_isLow (fu : Nat) (z : Nat → Int32) (g_target : Nat → Int32) : Option (Int32) :=
  x_M_isLow_2 fu z g_target fu (0 : Int32)
set_option maxHeartbeats 8000000 in
set_option maxRecDepth 100000 in
theorem we_M_isLow {p : Program} {l : Launch} {e : Env} {s : State} {m : MethodId} {args : Array Value} {below : List Frame} {meth : Method} {c : Code} {D : va_G} {cy : Nat → ClassId} {A : Nat → Prop} {ad : Nat → Nat} {o : Nat} {q : Nat → Nat} {z : Nat → Int32} {g_target : Nat → Int32} {fu : Nat} (F : Fx p s m args meth c b_M_isLow 2 "CoinKeeperModel" "isLow" (some .boolean) D cy ad A) : I_M_isLow_e p l e s m args below meth c D cy A ad o q z g_target (x_M_isLow fu z g_target) := by
  obtain ⟨hx, hb, hr, hml, hown, hts, hlocks, hK, hA, hSt, hnm, hex⟩ := id F
  intro  res hf H locs ls hP hD hS hl
  unfold x_M_isLow at hf
  refine lv_iconst (v := 0) hx hb d_M_isLow_0 (by decide) ?_
  refine lv_istore_n (lv' := [(1, .int (0 : Int32)), (0, .ref o)]) hx hb d_M_isLow_1 rfl hl (by decide) rfl (fun ls hl => ?_)
  exact w_M_isLow_2 F fu _ _ hf _ _ _ hP hD hS (lv_sub hl [1, 0] rfl)
theorem c_M_isLow (l : Launch) (D : va_G) (cy : Nat → ClassId) (ad : Nat → Nat) (fu : Nat) (o : Nat) (q : Nat → Nat) (z : Nat → Int32) (g_target : Nat → Int32) (res : Int32) (hf : x_M_isLow fu z g_target = some res) (sz : Nat) : Met l ({ cls := "CoinKeeperModel", name := "isLow", desc := "()Z" } : Jvm.MethodName) (.code ({ cls := "CoinKeeperModel", name := "isLow", desc := "()Z" } : Jvm.MethodName) b_M_isLow 2 (some .boolean) :: gw) rm_M_isLow (va_Pc [.ref o] (Pr D cy ad [(o, .inr (12, mo q z)), ((q 38), .inl (cy 1, 8, .inl g_target))] sz)) (q_M_isLow D cy (va_A [(o, .inr (12, mo q z)), ((q 38), .inl (cy 1, 8, .inl g_target))] sz) o q z g_target res) 0 0 (va_A [(o, .inr (12, mo q z)), ((q 38), .inl (cy 1, 8, .inl g_target))] sz) :=
  q_met (Qc := fun A => q_M_isLow D cy A o q z g_target res) (by decide) rfl rfl (Nat.le_of_ble_eq_true rfl) (fun p e s m below meth c ls F hP hD hS hl => we_M_isLow (fu := fu) F  res hf _ _ _ hP hD hS hl) sz
abbrev b_M_target : ByteArray := prog_14_method_17_code
theorem d_M_target_0 : decode b_M_target 0 = .ok (.iload_n 1, 1) := by decide +kernel
theorem d_M_target_1 : decode b_M_target 1 = .ok (.bipush 24, 2) := by decide +kernel
theorem d_M_target_3 : decode b_M_target 3 = .ok (.iushr, 1) := by decide +kernel
theorem d_M_target_4 : decode b_M_target 4 = .ok (.istore_n 2, 1) := by decide +kernel
theorem d_M_target_5 : decode b_M_target 5 = .ok (.iload_n 1, 1) := by decide +kernel
theorem d_M_target_6 : decode b_M_target 6 = .ok (.ldc_w 353, 3) := by decide +kernel
theorem d_M_target_9 : decode b_M_target 9 = .ok (.iand, 1) := by decide +kernel
theorem d_M_target_10 : decode b_M_target 10 = .ok (.istore_n 3, 1) := by decide +kernel
theorem d_M_target_11 : decode b_M_target 11 = .ok (.iconst 0, 1) := by decide +kernel
theorem d_M_target_12 : decode b_M_target 12 = .ok (.istore 4, 2) := by decide +kernel
theorem d_M_target_14 : decode b_M_target 14 = .ok (.iload 4, 2) := by decide +kernel
theorem d_M_target_16 : decode b_M_target 16 = .ok (.bipush 8, 2) := by decide +kernel
theorem d_M_target_18 : decode b_M_target 18 = .ok (.if_icmp .ge 17, 3) := by decide +kernel
theorem d_M_target_21 : decode b_M_target 21 = .ok (.aload_n 0, 1) := by decide +kernel
theorem d_M_target_22 : decode b_M_target 22 = .ok (.getfield 130, 3) := by decide +kernel
theorem d_M_target_25 : decode b_M_target 25 = .ok (.iload 4, 2) := by decide +kernel
theorem d_M_target_27 : decode b_M_target 27 = .ok (.iconst 0, 1) := by decide +kernel
theorem d_M_target_28 : decode b_M_target 28 = .ok (.iastore, 1) := by decide +kernel
theorem d_M_target_29 : decode b_M_target 29 = .ok (.iinc 4 1, 3) := by decide +kernel
theorem d_M_target_32 : decode b_M_target 32 = .ok (.goto (-18), 3) := by decide +kernel
theorem d_M_target_35 : decode b_M_target 35 = .ok (.iload_n 3, 1) := by decide +kernel
theorem d_M_target_36 : decode b_M_target 36 = .ok (.ldc_w 354, 3) := by decide +kernel
theorem d_M_target_39 : decode b_M_target 39 = .ok (.iand, 1) := by decide +kernel
theorem d_M_target_40 : decode b_M_target 40 = .ok (.ifCond .eq 5, 3) := by decide +kernel
theorem d_M_target_43 : decode b_M_target 43 = .ok (.iconst 0, 1) := by decide +kernel
theorem d_M_target_44 : decode b_M_target 44 = .ok (.ireturn, 1) := by decide +kernel
theorem d_M_target_45 : decode b_M_target 45 = .ok (.iconst 0, 1) := by decide +kernel
theorem d_M_target_46 : decode b_M_target 46 = .ok (.istore 4, 2) := by decide +kernel
theorem d_M_target_48 : decode b_M_target 48 = .ok (.iload 4, 2) := by decide +kernel
theorem d_M_target_50 : decode b_M_target 50 = .ok (.iconst 3, 1) := by decide +kernel
theorem d_M_target_51 : decode b_M_target 51 = .ok (.if_icmp .ge 74, 3) := by decide +kernel
theorem d_M_target_54 : decode b_M_target 54 = .ok (.iload_n 3, 1) := by decide +kernel
theorem d_M_target_55 : decode b_M_target 55 = .ok (.bipush 8, 2) := by decide +kernel
theorem d_M_target_57 : decode b_M_target 57 = .ok (.iload 4, 2) := by decide +kernel
theorem d_M_target_59 : decode b_M_target 59 = .ok (.imul, 1) := by decide +kernel
theorem d_M_target_60 : decode b_M_target 60 = .ok (.ishr, 1) := by decide +kernel
theorem d_M_target_61 : decode b_M_target 61 = .ok (.sipush 255, 3) := by decide +kernel
theorem d_M_target_64 : decode b_M_target 64 = .ok (.iand, 1) := by decide +kernel
theorem d_M_target_65 : decode b_M_target 65 = .ok (.istore 5, 2) := by decide +kernel
theorem d_M_target_67 : decode b_M_target 67 = .ok (.iload_n 2, 1) := by decide +kernel
theorem d_M_target_68 : decode b_M_target 68 = .ok (.iconst 3, 1) := by decide +kernel
theorem d_M_target_69 : decode b_M_target 69 = .ok (.isub, 1) := by decide +kernel
theorem d_M_target_70 : decode b_M_target 70 = .ok (.iload 4, 2) := by decide +kernel
theorem d_M_target_72 : decode b_M_target 72 = .ok (.iadd, 1) := by decide +kernel
theorem d_M_target_73 : decode b_M_target 73 = .ok (.istore 6, 2) := by decide +kernel
theorem d_M_target_75 : decode b_M_target 75 = .ok (.iload 5, 2) := by decide +kernel
theorem d_M_target_77 : decode b_M_target 77 = .ok (.ifCond .eq 42, 3) := by decide +kernel
theorem d_M_target_80 : decode b_M_target 80 = .ok (.iload 6, 2) := by decide +kernel
theorem d_M_target_82 : decode b_M_target 82 = .ok (.ifCond .ge 6, 3) := by decide +kernel
theorem d_M_target_85 : decode b_M_target 85 = .ok (.goto 34, 3) := by decide +kernel
theorem d_M_target_88 : decode b_M_target 88 = .ok (.iload 6, 2) := by decide +kernel
theorem d_M_target_90 : decode b_M_target 90 = .ok (.bipush 31, 2) := by decide +kernel
theorem d_M_target_92 : decode b_M_target 92 = .ok (.if_icmp .le 5, 3) := by decide +kernel
theorem d_M_target_95 : decode b_M_target 95 = .ok (.iconst 0, 1) := by decide +kernel
theorem d_M_target_96 : decode b_M_target 96 = .ok (.ireturn, 1) := by decide +kernel
theorem d_M_target_97 : decode b_M_target 97 = .ok (.aload_n 0, 1) := by decide +kernel
theorem d_M_target_98 : decode b_M_target 98 = .ok (.getfield 130, 3) := by decide +kernel
theorem d_M_target_101 : decode b_M_target 101 = .ok (.iload 6, 2) := by decide +kernel
theorem d_M_target_103 : decode b_M_target 103 = .ok (.iconst 4, 1) := by decide +kernel
theorem d_M_target_104 : decode b_M_target 104 = .ok (.idiv, 1) := by decide +kernel
theorem d_M_target_105 : decode b_M_target 105 = .ok (.dup2, 1) := by decide +kernel
theorem d_M_target_106 : decode b_M_target 106 = .ok (.iaload, 1) := by decide +kernel
theorem d_M_target_107 : decode b_M_target 107 = .ok (.iload 5, 2) := by decide +kernel
theorem d_M_target_109 : decode b_M_target 109 = .ok (.bipush 8, 2) := by decide +kernel
theorem d_M_target_111 : decode b_M_target 111 = .ok (.iload 6, 2) := by decide +kernel
theorem d_M_target_113 : decode b_M_target 113 = .ok (.iconst 4, 1) := by decide +kernel
theorem d_M_target_114 : decode b_M_target 114 = .ok (.irem, 1) := by decide +kernel
theorem d_M_target_115 : decode b_M_target 115 = .ok (.imul, 1) := by decide +kernel
theorem d_M_target_116 : decode b_M_target 116 = .ok (.ishl, 1) := by decide +kernel
theorem d_M_target_117 : decode b_M_target 117 = .ok (.ior, 1) := by decide +kernel
theorem d_M_target_118 : decode b_M_target 118 = .ok (.iastore, 1) := by decide +kernel
theorem d_M_target_119 : decode b_M_target 119 = .ok (.iinc 4 1, 3) := by decide +kernel
theorem d_M_target_122 : decode b_M_target 122 = .ok (.goto (-74), 3) := by decide +kernel
theorem d_M_target_125 : decode b_M_target 125 = .ok (.aload_n 0, 1) := by decide +kernel
theorem d_M_target_126 : decode b_M_target 126 = .ok (.getfield 130, 3) := by decide +kernel
theorem d_M_target_129 : decode b_M_target 129 = .ok (.invokestatic 355, 3) := by decide +kernel
theorem d_M_target_132 : decode b_M_target 132 = .ok (.ifCond .ne 50, 3) := by decide +kernel
theorem d_M_target_135 : decode b_M_target 135 = .ok (.aload_n 0, 1) := by decide +kernel
theorem d_M_target_136 : decode b_M_target 136 = .ok (.getfield 130, 3) := by decide +kernel
theorem d_M_target_139 : decode b_M_target 139 = .ok (.bipush 7, 2) := by decide +kernel
theorem d_M_target_141 : decode b_M_target 141 = .ok (.iaload, 1) := by decide +kernel
theorem d_M_target_142 : decode b_M_target 142 = .ok (.ifCond .lt 40, 3) := by decide +kernel
theorem d_M_target_145 : decode b_M_target 145 = .ok (.aload_n 0, 1) := by decide +kernel
theorem d_M_target_146 : decode b_M_target 146 = .ok (.getfield 130, 3) := by decide +kernel
theorem d_M_target_149 : decode b_M_target 149 = .ok (.bipush 7, 2) := by decide +kernel
theorem d_M_target_151 : decode b_M_target 151 = .ok (.iaload, 1) := by decide +kernel
theorem d_M_target_152 : decode b_M_target 152 = .ok (.ldc_w 359, 3) := by decide +kernel
theorem d_M_target_155 : decode b_M_target 155 = .ok (.if_icmp .lt 23, 3) := by decide +kernel
theorem d_M_target_158 : decode b_M_target 158 = .ok (.aload_n 0, 1) := by decide +kernel
theorem d_M_target_159 : decode b_M_target 159 = .ok (.getfield 130, 3) := by decide +kernel
theorem d_M_target_162 : decode b_M_target 162 = .ok (.bipush 7, 2) := by decide +kernel
theorem d_M_target_164 : decode b_M_target 164 = .ok (.iaload, 1) := by decide +kernel
theorem d_M_target_165 : decode b_M_target 165 = .ok (.ldc_w 359, 3) := by decide +kernel
theorem d_M_target_168 : decode b_M_target 168 = .ok (.if_icmp .ne 14, 3) := by decide +kernel
theorem d_M_target_171 : decode b_M_target 171 = .ok (.aload_n 0, 1) := by decide +kernel
theorem d_M_target_172 : decode b_M_target 172 = .ok (.invokevirtual 360, 3) := by decide +kernel
theorem d_M_target_175 : decode b_M_target 175 = .ok (.ifCond .eq 7, 3) := by decide +kernel
theorem d_M_target_178 : decode b_M_target 178 = .ok (.iconst 1, 1) := by decide +kernel
theorem d_M_target_179 : decode b_M_target 179 = .ok (.goto 4, 3) := by decide +kernel
theorem d_M_target_182 : decode b_M_target 182 = .ok (.iconst 0, 1) := by decide +kernel
theorem d_M_target_183 : decode b_M_target 183 = .ok (.ireturn, 1) := by decide +kernel
abbrev rm_M_target : Room := { frames := 1, cells := 0, slots := 0, locals := 21 }
abbrev q_M_target (D : va_G) (cy : Nat → ClassId) (A : Nat → Prop) (o : Nat) (q : Nat → Nat) (z : Nat → Int32) (res : Int32 × (Nat → Int32)) : Array Value → State → Outcome → State → Prop := va_Qi (fun r' (_ : Unit) => r' = res.1) (fun _ t => Po D cy A [(o, .inr (12, mo q z)), ((q 38), .inl (cy 1, 8, .inl res.2))] t) A
def I_M_target_178 (p : Program) (l : Launch) (e : Env) (s : State) (m : MethodId) (args : Array Value) (below : List Frame) (meth : Method) (c : Code) (D : va_G) (cy : Nat → ClassId) (A : Nat → Prop) (ad : Nat → Nat) (o : Nat) (q : Nat → Nat) (z : Nat → Int32) (k : (Nat → Int32) → Option (Int32 × (Nat → Int32))) : Prop :=
  ∀ (u0 : Nat → Int32) (res : Int32 × (Nat → Int32)), k u0 = some res → ∀ (H : Heap) (locs : List Loc) (ls : Array Slot), va_P D classes [(o, .inr (12, mo q z)), ((q 38), .inl (cy 1, 8, .inl u0))] H → va_D A [(o, .inr (12, mo q z)), ((q 38), .inl (cy 1, 8, .inl u0))] → va_S A s.heap H locs → lv_has ls 7 [] → W p l e rm_M_target s m args below meth c H locs 0 0 (MQ below (q_M_target D cy A o q z res) args s 0 0 A) (F0 m 178 ls [])
def I_M_target_119 (p : Program) (l : Launch) (e : Env) (s : State) (m : MethodId) (args : Array Value) (below : List Frame) (meth : Method) (c : Code) (D : va_G) (cy : Nat → ClassId) (A : Nat → Prop) (ad : Nat → Nat) (o : Nat) (q : Nat → Nat) (z : Nat → Int32) (k : Int32 → Int32 → Int32 → (Nat → Int32) → Option (Int32 × (Nat → Int32))) : Prop :=
  ∀ (x2 : Int32) (x3 : Int32) (x4 : Int32) (u0 : Nat → Int32) (res : Int32 × (Nat → Int32)), k x2 x3 x4 u0 = some res → ∀ (H : Heap) (locs : List Loc) (ls : Array Slot), va_P D classes [(o, .inr (12, mo q z)), ((q 38), .inl (cy 1, 8, .inl u0))] H → va_D A [(o, .inr (12, mo q z)), ((q 38), .inl (cy 1, 8, .inl u0))] → va_S A s.heap H locs → lv_has ls 7 [(0, .ref o), (2, .int x2), (3, .int x3), (4, .int x4)] → W p l e rm_M_target s m args below meth c H locs 0 0 (MQ below (q_M_target D cy A o q z res) args s 0 0 A) (F0 m 119 ls [])
def I_M_target_48 (p : Program) (l : Launch) (e : Env) (s : State) (m : MethodId) (args : Array Value) (below : List Frame) (meth : Method) (c : Code) (D : va_G) (cy : Nat → ClassId) (A : Nat → Prop) (ad : Nat → Nat) (o : Nat) (q : Nat → Nat) (z : Nat → Int32) (k : Int32 → Int32 → Int32 → (Nat → Int32) → Option (Int32 × (Nat → Int32))) : Prop :=
  ∀ (x2 : Int32) (x3 : Int32) (x4 : Int32) (u0 : Nat → Int32) (res : Int32 × (Nat → Int32)), k x2 x3 x4 u0 = some res → ∀ (H : Heap) (locs : List Loc) (ls : Array Slot), va_P D classes [(o, .inr (12, mo q z)), ((q 38), .inl (cy 1, 8, .inl u0))] H → va_D A [(o, .inr (12, mo q z)), ((q 38), .inl (cy 1, 8, .inl u0))] → va_S A s.heap H locs → lv_has ls 7 [(0, .ref o), (2, .int x2), (3, .int x3), (4, .int x4)] → W p l e rm_M_target s m args below meth c H locs 0 0 (MQ below (q_M_target D cy A o q z res) args s 0 0 A) (F0 m 48 ls [])
def I_M_target_14 (p : Program) (l : Launch) (e : Env) (s : State) (m : MethodId) (args : Array Value) (below : List Frame) (meth : Method) (c : Code) (D : va_G) (cy : Nat → ClassId) (A : Nat → Prop) (ad : Nat → Nat) (o : Nat) (q : Nat → Nat) (z : Nat → Int32) (k : Int32 → Int32 → Int32 → (Nat → Int32) → Option (Int32 × (Nat → Int32))) : Prop :=
  ∀ (x2 : Int32) (x3 : Int32) (x4 : Int32) (u0 : Nat → Int32) (res : Int32 × (Nat → Int32)), k x2 x3 x4 u0 = some res → ∀ (H : Heap) (locs : List Loc) (ls : Array Slot), va_P D classes [(o, .inr (12, mo q z)), ((q 38), .inl (cy 1, 8, .inl u0))] H → va_D A [(o, .inr (12, mo q z)), ((q 38), .inl (cy 1, 8, .inl u0))] → va_S A s.heap H locs → lv_has ls 7 [(0, .ref o), (2, .int x2), (3, .int x3), (4, .int x4)] → W p l e rm_M_target s m args below meth c H locs 0 0 (MQ below (q_M_target D cy A o q z res) args s 0 0 A) (F0 m 14 ls [])
def I_M_target_e (p : Program) (l : Launch) (e : Env) (s : State) (m : MethodId) (args : Array Value) (below : List Frame) (meth : Method) (c : Code) (D : va_G) (cy : Nat → ClassId) (A : Nat → Prop) (ad : Nat → Nat) (o : Nat) (q : Nat → Nat) (z : Nat → Int32) (k : Int32 → (Nat → Int32) → Option (Int32 × (Nat → Int32))) : Prop :=
  ∀ (a1 : Int32) (u0 : Nat → Int32) (res : Int32 × (Nat → Int32)), k a1 u0 = some res → ∀ (H : Heap) (locs : List Loc) (ls : Array Slot), va_P D classes [(o, .inr (12, mo q z)), ((q 38), .inl (cy 1, 8, .inl u0))] H → va_D A [(o, .inr (12, mo q z)), ((q 38), .inl (cy 1, 8, .inl u0))] → va_S A s.heap H locs → lv_has ls 7 [(0, .ref o), (1, .int a1)] → W p l e rm_M_target s m args below meth c H locs 0 0 (MQ below (q_M_target D cy A o q z res) args s 0 0 A) (F0 m 0 ls [])
def xb_M_target_178 (fu : Nat) (z : Nat → Int32) (u0 : Nat → Int32) : Option (Int32 × (Nat → Int32)) :=
  some ((1 : Int32), u0)
set_option maxHeartbeats 8000000 in
set_option maxRecDepth 100000 in
theorem wb_M_target_178 {p : Program} {l : Launch} {e : Env} {s : State} {m : MethodId} {args : Array Value} {below : List Frame} {meth : Method} {c : Code} {D : va_G} {cy : Nat → ClassId} {A : Nat → Prop} {ad : Nat → Nat} {o : Nat} {q : Nat → Nat} {z : Nat → Int32} {fu : Nat} (F : Fx p s m args meth c b_M_target 7 "CoinKeeperModel" "target" (some .boolean) D cy ad A) : I_M_target_178 p l e s m args below meth c D cy A ad o q z (xb_M_target_178 fu z) := by
  obtain ⟨hx, hb, hr, hml, hown, hts, hlocks, hK, hA, hSt, hnm, hex⟩ := id F
  intro u0 res hf H locs ls hP hD hS hl
  unfold xb_M_target_178 at hf
  refine lv_iconst (v := 1) hx hb d_M_target_178 (by decide) ?_
  refine lv_goto (tgt := 183) hx hb d_M_target_179 (by decide) ?_
  obtain rfl := Option.some.inj hf
  exact q_rz hx hb hr hlocks hK hP hD hS (isb_n (v := 1) (by decide)) d_M_target_183
def xb_M_target_119 (fu : Nat) (z : Nat → Int32) (k_48 : Int32 → Int32 → Int32 → (Nat → Int32) → Option (Int32 × (Nat → Int32))) (x2 : Int32) (x3 : Int32) (x4 : Int32) (u0 : Nat → Int32) : Option (Int32 × (Nat → Int32)) :=
  bnd (x4 + (1 : Int32)) fun v1 => k_48 x2 x3 v1 u0
set_option maxHeartbeats 8000000 in
set_option maxRecDepth 100000 in
theorem wb_M_target_119 {p : Program} {l : Launch} {e : Env} {s : State} {m : MethodId} {args : Array Value} {below : List Frame} {meth : Method} {c : Code} {D : va_G} {cy : Nat → ClassId} {A : Nat → Prop} {ad : Nat → Nat} {o : Nat} {q : Nat → Nat} {z : Nat → Int32} {fu : Nat} {k_48 : Int32 → Int32 → Int32 → (Nat → Int32) → Option (Int32 × (Nat → Int32))} (F : Fx p s m args meth c b_M_target 7 "CoinKeeperModel" "target" (some .boolean) D cy ad A) (hk_48 : I_M_target_48 p l e s m args below meth c D cy A ad o q z k_48) : I_M_target_119 p l e s m args below meth c D cy A ad o q z (xb_M_target_119 fu z k_48) := by
  obtain ⟨hx, hb, hr, hml, hown, hts, hlocks, hK, hA, hSt, hnm, hex⟩ := id F
  intro x2 x3 x4 u0 res hf H locs ls hP hD hS hl
  unfold xb_M_target_119 at hf
  obtain ⟨v1, ev, hf⟩ := bne hf
  refine lv_iinc (v := v1) (lv' := [(4, .int v1), (0, .ref o), (2, .int x2), (3, .int x3)]) hx hb d_M_target_119 hl (k := 3) rfl (by rw [ev]; rfl) (by decide) rfl (fun ls hl => ?_)
  clear ev
  refine lv_goto (tgt := 48) hx hb d_M_target_122 (by decide) ?_
  exact hk_48 _ _ _ _ _ hf _ _ _ hP hD hS (lv_sub hl [1, 2, 3, 0] rfl)
theorem hdc_20 : ({ cls := "CoinKeeperModel", name := "isZero", desc := "([I)Z" } : Jvm.MethodName).cls ≠ "java/lang/invoke/MethodHandle" ∧ ({ cls := "CoinKeeperModel", name := "isZero", desc := "([I)Z" } : Jvm.MethodName).cls ≠ "java/lang/invoke/VarHandle" ∧ (parseMethodDescriptor ({ cls := "CoinKeeperModel", name := "isZero", desc := "([I)Z" } : Jvm.MethodName).desc).map (fun d => d.parameters.length) = some 1 := by decide +kernel
theorem hdc_21 : ({ cls := "CoinKeeperModel", name := "isLow", desc := "()Z" } : Jvm.MethodName).cls ≠ "java/lang/invoke/MethodHandle" ∧ ({ cls := "CoinKeeperModel", name := "isLow", desc := "()Z" } : Jvm.MethodName).cls ≠ "java/lang/invoke/VarHandle" ∧ (parseMethodDescriptor ({ cls := "CoinKeeperModel", name := "isLow", desc := "()Z" } : Jvm.MethodName).desc).map (fun d => d.parameters.length) = some 0 := by decide +kernel
def xb_M_target_48 (fu : Nat) (z : Nat → Int32) (k_48 : Int32 → Int32 → Int32 → (Nat → Int32) → Option (Int32 × (Nat → Int32))) (x2 : Int32) (x3 : Int32) (x4 : Int32) (u0 : Nat → Int32) : Option (Int32 × (Nat → Int32)) :=
  if (3 : Int32) ≤ x4 then (bd1 (x_M_isZero fu u0) fun v1 => if v1 = 0 then (bnd (u0 (7 : Int32).toNatClampNeg) fun v2 => if v2 < 0 then (some ((0 : Int32), u0)) else (bnd (u0 (7 : Int32).toNatClampNeg) fun v3 => if v3 < (2147483392 : Int32) then (xb_M_target_178 fu z u0) else (bnd (u0 (7 : Int32).toNatClampNeg) fun v4 => if v4 = (2147483392 : Int32) then (bd1 (x_M_isLow fu z u0) fun v5 => if v5 = 0 then (some ((0 : Int32), u0)) else (xb_M_target_178 fu z u0)) else (some ((0 : Int32), u0))))) else (some ((0 : Int32), u0))) else (bnd (x3 >>> (((8 : Int32) * x4) &&& 31)) fun v6 => bnd (v6 &&& (255 : Int32)) fun v7 => bnd (x2 - (3 : Int32)) fun v8 => bnd (v8 + x4) fun v9 => if v7 = 0 then (xb_M_target_119 fu z k_48 x2 x3 x4 u0) else (if 0 ≤ v9 then (if v9 ≤ (31 : Int32) then (bnd (v9 / (4 : Int32)) fun v10 => gd (inb v10 8) <| bnd (u0 v10.toNatClampNeg) fun v11 => bnd (v11 ||| (v7 <<< (((8 : Int32) * (v9 - v9 / (4 : Int32) * (4 : Int32))) &&& 31))) fun v12 => gd (inb v10 8) <| bnd (upd u0 v10.toNatClampNeg v12) fun f13 => xb_M_target_119 fu z k_48 x2 x3 x4 f13) else (some ((0 : Int32), u0))) else (xb_M_target_119 fu z k_48 x2 x3 x4 u0)))
set_option maxHeartbeats 8000000 in
set_option maxRecDepth 100000 in
theorem wb_M_target_48 {p : Program} {l : Launch} {e : Env} {s : State} {m : MethodId} {args : Array Value} {below : List Frame} {meth : Method} {c : Code} {D : va_G} {cy : Nat → ClassId} {A : Nat → Prop} {ad : Nat → Nat} {o : Nat} {q : Nat → Nat} {z : Nat → Int32} {fu : Nat} {k_48 : Int32 → Int32 → Int32 → (Nat → Int32) → Option (Int32 × (Nat → Int32))} (F : Fx p s m args meth c b_M_target 7 "CoinKeeperModel" "target" (some .boolean) D cy ad A) (hk_48 : I_M_target_48 p l e s m args below meth c D cy A ad o q z k_48) : I_M_target_48 p l e s m args below meth c D cy A ad o q z (xb_M_target_48 fu z k_48) := by
  obtain ⟨hx, hb, hr, hml, hown, hts, hlocks, hK, hA, hSt, hnm, hex⟩ := id F
  intro x2 x3 x4 u0 res hf H locs ls hP hD hS hl
  unfold xb_M_target_48 at hf
  refine lv_iload hx hb d_M_target_48 (lv_at hl 3 rfl) ?_
  refine lv_iconst (v := 3) hx hb d_M_target_50 (by decide) ?_
  refine lv_icmp_ge (tgt := 125) hx hb d_M_target_51 (by decide) (fun cx => ?_) (fun cx => ?_)
  · have hf := ifp cx hf
    refine lv_aload_n hx hb d_M_target_125 rfl (lv_at hl 0 rfl) ?_
    refine va_get (D := D) (ci := 12) (v := .ref (q 38)) (C := "CoinKeeperModel") (T := F_12) (N := 98) hx hb hts i_12 hown hK hP 0 rfl rfl 46 (by decide) (hts _ gw_1465) (fun _ h9 => h9) rfl d_M_target_126 ?_
    obtain ⟨v1, hc, hf⟩ := bdp1 hf
    refine q_ai (wr := [(o, .inr (12, mo q z))]) (va_runS (As := [.ref (q 38)]) (rest := []) ⟨hx, hb, hml, hown, hts⟩ (c_M_isZero l D cy ad fu (q 38) u0 _ hc H.size) ⟨q_cB hts gw_1377 gw_18 gw_1375 hdc_20 ⟨by decide, by decide⟩, hts _ gw_1376⟩ (q_pre (hP.sub [1] rfl) (hD.sub [1] (by decide) rfl) hK hSt hS (va_free hD hS hA [1] rfl) _) rfl rfl hl.1 rfl (lv_room (Nat.le_of_ble_eq_true rfl)) d_M_target_129 ⟨Nat.le_of_ble_eq_true rfl, Nat.le_of_ble_eq_true rfl⟩) hP hD hS hA [1] [0] rfl rfl (by decide) (by decide) (fun H locs hP hD hS => ?_)
    clear hc
    have hP : va_P D classes [(o, .inr (12, mo q z)), ((q 38), .inl (cy 1, 8, .inl u0))] H := hP
    have hD : va_D A [(o, .inr (12, mo q z)), ((q 38), .inl (cy 1, 8, .inl u0))] := hD
    refine lv_if_ne (tgt := 182) hx hb d_M_target_132 (by decide) (fun cx => ?_) (fun cx => ?_)
    · have hf := ifn cx hf
      refine lv_iconst (v := 0) hx hb d_M_target_182 (by decide) ?_
      obtain rfl := Option.some.inj hf
      exact q_rz hx hb hr hlocks hK hP hD hS (isb_n (v := 0) (by decide)) d_M_target_183
    · have hf := ifp cx hf
      refine lv_aload_n hx hb d_M_target_135 rfl (lv_at hl 0 rfl) ?_
      refine va_get (D := D) (ci := 12) (v := .ref (q 38)) (C := "CoinKeeperModel") (T := F_12) (N := 98) hx hb hts i_12 hown hK hP 0 rfl rfl 46 (by decide) (hts _ gw_1465) (fun _ h9 => h9) rfl d_M_target_136 ?_
      refine lv_bipush (v := 7) hx hb d_M_target_139 (by decide) ?_
      refine va_iald hx hb hK hP 1 1 rfl rfl (inb_in (by decide)) d_M_target_141 ?_
      refine lv_topi (fun v2 ev => ?_)
      have hf := bn ev hf
      clear ev
      refine lv_if_lt (tgt := 182) hx hb d_M_target_142 (by decide) (fun cx => ?_) (fun cx => ?_)
      · have hf := ifp cx hf
        refine lv_iconst (v := 0) hx hb d_M_target_182 (by decide) ?_
        obtain rfl := Option.some.inj hf
        exact q_rz hx hb hr hlocks hK hP hD hS (isb_n (v := 0) (by decide)) d_M_target_183
      · have hf := ifn cx hf
        refine lv_aload_n hx hb d_M_target_145 rfl (lv_at hl 0 rfl) ?_
        refine va_get (D := D) (ci := 12) (v := .ref (q 38)) (C := "CoinKeeperModel") (T := F_12) (N := 98) hx hb hts i_12 hown hK hP 0 rfl rfl 46 (by decide) (hts _ gw_1465) (fun _ h9 => h9) rfl d_M_target_146 ?_
        refine lv_bipush (v := 7) hx hb d_M_target_149 (by decide) ?_
        refine va_iald hx hb hK hP 1 1 rfl rfl (inb_in (by decide)) d_M_target_151 ?_
        refine lv_topi (fun v3 ev => ?_)
        have hf := bn ev hf
        clear ev
        refine lv_ldcw (v := 2147483392) hx hb hown (hts _ gw_1378) d_M_target_152 ?_
        refine lv_icmp_lt (tgt := 178) hx hb d_M_target_155 (by decide) (fun cx => ?_) (fun cx => ?_)
        · have hf := ifp cx hf
          exact wb_M_target_178 (fu := fu) F _ _ hf _ _ _ hP hD hS (lv_sub hl [] rfl)
        · have hf := ifn cx hf
          refine lv_aload_n hx hb d_M_target_158 rfl (lv_at hl 0 rfl) ?_
          refine va_get (D := D) (ci := 12) (v := .ref (q 38)) (C := "CoinKeeperModel") (T := F_12) (N := 98) hx hb hts i_12 hown hK hP 0 rfl rfl 46 (by decide) (hts _ gw_1465) (fun _ h9 => h9) rfl d_M_target_159 ?_
          refine lv_bipush (v := 7) hx hb d_M_target_162 (by decide) ?_
          refine va_iald hx hb hK hP 1 1 rfl rfl (inb_in (by decide)) d_M_target_164 ?_
          refine lv_topi (fun v4 ev => ?_)
          have hf := bn ev hf
          clear ev
          refine lv_ldcw (v := 2147483392) hx hb hown (hts _ gw_1378) d_M_target_165 ?_
          refine lv_icmp_ne (tgt := 182) hx hb d_M_target_168 (by decide) (fun cx => ?_) (fun cx => ?_)
          · have hf := ifn cx hf
            refine lv_iconst (v := 0) hx hb d_M_target_182 (by decide) ?_
            obtain rfl := Option.some.inj hf
            exact q_rz hx hb hr hlocks hK hP hD hS (isb_n (v := 0) (by decide)) d_M_target_183
          · have hf := ifp cx hf
            refine lv_aload_n hx hb d_M_target_171 rfl (lv_at hl 0 rfl) ?_
            obtain ⟨v5, hc, hf⟩ := bdp1 hf
            refine q_ai (wr := []) (va_runV (C := "CoinKeeperModel") (As := []) (rest := []) ⟨hx, hb, hml, hown, hts⟩ (c_M_isLow l D cy ad fu o q z u0 _ hc H.size) ⟨q_cB hts gw_1382 gw_18 gw_1379 hdc_21 ⟨by decide, by decide⟩, hts _ gw_1381, hts _ gs_62⟩ (q_preV (q_pre (hP.sub [0, 1] rfl) (hD.sub [0, 1] (by decide) rfl) hK hSt hS (va_free hD hS hA [0, 1] rfl) _) (va_recv hK (hP.sub [0, 1] rfl) (ci := 12) (q0 := 0) rfl rfl)) rfl rfl hl.1 rfl (lv_room (Nat.le_of_ble_eq_true rfl)) d_M_target_172 ⟨Nat.le_of_ble_eq_true rfl, Nat.le_of_ble_eq_true rfl⟩) hP hD hS hA [0, 1] [] rfl rfl (by decide) (by decide) (fun H locs hP hD hS => ?_)
            clear hc
            have hP : va_P D classes [(o, .inr (12, mo q z)), ((q 38), .inl (cy 1, 8, .inl u0))] H := hP
            have hD : va_D A [(o, .inr (12, mo q z)), ((q 38), .inl (cy 1, 8, .inl u0))] := hD
            refine lv_if_eq (tgt := 182) hx hb d_M_target_175 (by decide) (fun cx => ?_) (fun cx => ?_)
            · have hf := ifp cx hf
              refine lv_iconst (v := 0) hx hb d_M_target_182 (by decide) ?_
              obtain rfl := Option.some.inj hf
              exact q_rz hx hb hr hlocks hK hP hD hS (isb_n (v := 0) (by decide)) d_M_target_183
            · have hf := ifn cx hf
              exact wb_M_target_178 (fu := fu) F _ _ hf _ _ _ hP hD hS (lv_sub hl [] rfl)
  · have hf := ifn cx hf
    refine lv_iload_n hx hb d_M_target_54 rfl (lv_at hl 2 rfl) ?_
    refine lv_bipush (v := 8) hx hb d_M_target_55 (by decide) ?_
    refine lv_iload hx hb d_M_target_57 (lv_at hl 3 rfl) ?_
    refine lv_imul hx hb d_M_target_59 ?_
    refine lv_ishr hx hb d_M_target_60 ?_
    refine lv_topi (fun v6 ev => ?_)
    have hf := bn ev hf
    clear ev
    refine lv_sipush (v := 255) hx hb d_M_target_61 (by decide) ?_
    refine lv_iand hx hb d_M_target_64 ?_
    refine lv_topi (fun v7 ev => ?_)
    have hf := bn ev hf
    clear ev
    refine lv_istore (lv' := [(5, .int v7), (0, .ref o), (2, .int x2), (3, .int x3), (4, .int x4)]) hx hb d_M_target_65 hl (by decide) rfl (fun ls hl => ?_)
    refine lv_iload_n hx hb d_M_target_67 rfl (lv_at hl 2 rfl) ?_
    refine lv_iconst (v := 3) hx hb d_M_target_68 (by decide) ?_
    refine lv_isub hx hb d_M_target_69 ?_
    refine lv_topi (fun v8 ev => ?_)
    have hf := bn ev hf
    clear ev
    refine lv_iload hx hb d_M_target_70 (lv_at hl 4 rfl) ?_
    refine lv_iadd hx hb d_M_target_72 ?_
    refine lv_topi (fun v9 ev => ?_)
    have hf := bn ev hf
    clear ev
    refine lv_istore (lv' := [(6, .int v9), (5, .int v7), (0, .ref o), (2, .int x2), (3, .int x3), (4, .int x4)]) hx hb d_M_target_73 hl (by decide) rfl (fun ls hl => ?_)
    refine lv_iload hx hb d_M_target_75 (lv_at hl 1 rfl) ?_
    refine lv_if_eq (tgt := 119) hx hb d_M_target_77 (by decide) (fun cx => ?_) (fun cx => ?_)
    · have hf := ifp cx hf
      exact wb_M_target_119 (fu := fu) F hk_48 _ _ _ _ _ hf _ _ _ hP hD hS (lv_sub hl [2, 3, 4, 5] rfl)
    · have hf := ifn cx hf
      refine lv_iload hx hb d_M_target_80 (lv_at hl 0 rfl) ?_
      refine lv_if_ge (tgt := 88) hx hb d_M_target_82 (by decide) (fun cx => ?_) (fun cx => ?_)
      · have hf := ifp cx hf
        refine lv_iload hx hb d_M_target_88 (lv_at hl 0 rfl) ?_
        refine lv_bipush (v := 31) hx hb d_M_target_90 (by decide) ?_
        refine lv_icmp_le (tgt := 97) hx hb d_M_target_92 (by decide) (fun cx => ?_) (fun cx => ?_)
        · have hf := ifp cx hf
          refine lv_aload_n hx hb d_M_target_97 rfl (lv_at hl 2 rfl) ?_
          refine va_get (D := D) (ci := 12) (v := .ref (q 38)) (C := "CoinKeeperModel") (T := F_12) (N := 98) hx hb hts i_12 hown hK hP 0 rfl rfl 46 (by decide) (hts _ gw_1465) (fun _ h9 => h9) rfl d_M_target_98 ?_
          refine lv_iload hx hb d_M_target_101 (lv_at hl 0 rfl) ?_
          refine lv_iconst (v := 4) hx hb d_M_target_103 (by decide) ?_
          refine lv_idiv hx hb d_M_target_104 (by decide) ?_
          refine lv_topi (fun v10 ev => ?_)
          have hf := bn ev hf
          clear ev
          refine lv_dup2_11 hx hb d_M_target_105 rfl rfl ?_
          obtain ⟨hg, hf⟩ := gdp hf
          refine va_iald hx hb hK hP 1 1 rfl rfl (inb_in hg) d_M_target_106 ?_
          refine lv_topi (fun v11 ev => ?_)
          have hf := bn ev hf
          clear ev
          refine lv_iload hx hb d_M_target_107 (lv_at hl 1 rfl) ?_
          refine lv_bipush (v := 8) hx hb d_M_target_109 (by decide) ?_
          refine lv_iload hx hb d_M_target_111 (lv_at hl 0 rfl) ?_
          refine lv_iconst (v := 4) hx hb d_M_target_113 (by decide) ?_
          refine lv_irem hx hb d_M_target_114 (by decide) ?_
          refine lv_imul hx hb d_M_target_115 ?_
          refine lv_ishl hx hb d_M_target_116 ?_
          refine lv_ior hx hb d_M_target_117 ?_
          refine lv_topi (fun v12 ev => ?_)
          have hf := bn ev hf
          clear ev
          obtain ⟨hg, hf⟩ := gdp hf
          refine va_iast hx hb hK hP hD hS 1 1 rfl rfl (inb_in hg) d_M_target_118 (fun H locs hP hD hS => ?_)
          obtain ⟨f13, ev, hf⟩ := bne hf
          have hP : va_P D classes [(o, .inr (12, mo q z)), ((q 38), .inl (cy 1, 8, .inl f13))] H := by rw [ev]; exact hP
          have hD : va_D A [(o, .inr (12, mo q z)), ((q 38), .inl (cy 1, 8, .inl f13))] := by rw [ev]; exact hD
          clear ev
          exact wb_M_target_119 (fu := fu) F hk_48 _ _ _ _ _ hf _ _ _ hP hD hS (lv_sub hl [2, 3, 4, 5] rfl)
        · have hf := ifn cx hf
          refine lv_iconst (v := 0) hx hb d_M_target_95 (by decide) ?_
          obtain rfl := Option.some.inj hf
          exact q_rz hx hb hr hlocks hK hP hD hS (isb_n (v := 0) (by decide)) d_M_target_96
      · have hf := ifn cx hf
        refine lv_goto (tgt := 119) hx hb d_M_target_85 (by decide) ?_
        exact wb_M_target_119 (fu := fu) F hk_48 _ _ _ _ _ hf _ _ _ hP hD hS (lv_sub hl [2, 3, 4, 5] rfl)
def x_M_target_48 (fu : Nat) (z : Nat → Int32) : Nat → Int32 → Int32 → Int32 → (Nat → Int32) → Option (Int32 × (Nat → Int32))
  | 0 => fun _ _ _ _ => none
  | n + 1 => xb_M_target_48 fu z (x_M_target_48 fu z n)
theorem w_M_target_48 {p : Program} {l : Launch} {e : Env} {s : State} {m : MethodId} {args : Array Value} {below : List Frame} {meth : Method} {c : Code} {D : va_G} {cy : Nat → ClassId} {A : Nat → Prop} {ad : Nat → Nat} {o : Nat} {q : Nat → Nat} {z : Nat → Int32} {fu : Nat} (F : Fx p s m args meth c b_M_target 7 "CoinKeeperModel" "target" (some .boolean) D cy ad A) : ∀ n : Nat, I_M_target_48 p l e s m args below meth c D cy A ad o q z (x_M_target_48 fu z n)
  | 0 => fun _ _ _ _ _ hf => nomatch (show (none : Option (Int32 × (Nat → Int32))) = some _ from hf)
  | n + 1 => wb_M_target_48 F (w_M_target_48 F n)
def xb_M_target_14 (fu : Nat) (z : Nat → Int32) (k_14 : Int32 → Int32 → Int32 → (Nat → Int32) → Option (Int32 × (Nat → Int32))) (x2 : Int32) (x3 : Int32) (x4 : Int32) (u0 : Nat → Int32) : Option (Int32 × (Nat → Int32)) :=
  if (8 : Int32) ≤ x4 then (if (x3 &&& (8388608 : Int32)) = 0 then (x_M_target_48 fu z fu x2 x3 (0 : Int32) u0) else (some ((0 : Int32), u0))) else (gd (inb x4 8) <| bnd (upd u0 x4.toNatClampNeg (0 : Int32)) fun f1 => bnd (x4 + (1 : Int32)) fun v2 => k_14 x2 x3 v2 f1)
set_option maxHeartbeats 8000000 in
set_option maxRecDepth 100000 in
theorem wb_M_target_14 {p : Program} {l : Launch} {e : Env} {s : State} {m : MethodId} {args : Array Value} {below : List Frame} {meth : Method} {c : Code} {D : va_G} {cy : Nat → ClassId} {A : Nat → Prop} {ad : Nat → Nat} {o : Nat} {q : Nat → Nat} {z : Nat → Int32} {fu : Nat} {k_14 : Int32 → Int32 → Int32 → (Nat → Int32) → Option (Int32 × (Nat → Int32))} (F : Fx p s m args meth c b_M_target 7 "CoinKeeperModel" "target" (some .boolean) D cy ad A) (hk_14 : I_M_target_14 p l e s m args below meth c D cy A ad o q z k_14) : I_M_target_14 p l e s m args below meth c D cy A ad o q z (xb_M_target_14 fu z k_14) := by
  obtain ⟨hx, hb, hr, hml, hown, hts, hlocks, hK, hA, hSt, hnm, hex⟩ := id F
  intro x2 x3 x4 u0 res hf H locs ls hP hD hS hl
  unfold xb_M_target_14 at hf
  refine lv_iload hx hb d_M_target_14 (lv_at hl 3 rfl) ?_
  refine lv_bipush (v := 8) hx hb d_M_target_16 (by decide) ?_
  refine lv_icmp_ge (tgt := 35) hx hb d_M_target_18 (by decide) (fun cx => ?_) (fun cx => ?_)
  · have hf := ifp cx hf
    refine lv_iload_n hx hb d_M_target_35 rfl (lv_at hl 2 rfl) ?_
    refine lv_ldcw (v := 8388608) hx hb hown (hts _ gw_1374) d_M_target_36 ?_
    refine lv_iand hx hb d_M_target_39 ?_
    refine lv_if_eq (tgt := 45) hx hb d_M_target_40 (by decide) (fun cx => ?_) (fun cx => ?_)
    · have hf := ifp cx hf
      refine lv_iconst (v := 0) hx hb d_M_target_45 (by decide) ?_
      refine lv_istore (lv' := [(4, .int (0 : Int32)), (0, .ref o), (2, .int x2), (3, .int x3)]) hx hb d_M_target_46 hl (by decide) rfl (fun ls hl => ?_)
      exact w_M_target_48 F fu _ _ _ _ _ hf _ _ _ hP hD hS (lv_sub hl [1, 2, 3, 0] rfl)
    · have hf := ifn cx hf
      refine lv_iconst (v := 0) hx hb d_M_target_43 (by decide) ?_
      obtain rfl := Option.some.inj hf
      exact q_rz hx hb hr hlocks hK hP hD hS (isb_n (v := 0) (by decide)) d_M_target_44
  · have hf := ifn cx hf
    refine lv_aload_n hx hb d_M_target_21 rfl (lv_at hl 0 rfl) ?_
    refine va_get (D := D) (ci := 12) (v := .ref (q 38)) (C := "CoinKeeperModel") (T := F_12) (N := 98) hx hb hts i_12 hown hK hP 0 rfl rfl 46 (by decide) (hts _ gw_1465) (fun _ h9 => h9) rfl d_M_target_22 ?_
    refine lv_iload hx hb d_M_target_25 (lv_at hl 3 rfl) ?_
    refine lv_iconst (v := 0) hx hb d_M_target_27 (by decide) ?_
    obtain ⟨hg, hf⟩ := gdp hf
    refine va_iast hx hb hK hP hD hS 1 1 rfl rfl (inb_in hg) d_M_target_28 (fun H locs hP hD hS => ?_)
    obtain ⟨f1, ev, hf⟩ := bne hf
    have hP : va_P D classes [(o, .inr (12, mo q z)), ((q 38), .inl (cy 1, 8, .inl f1))] H := by rw [ev]; exact hP
    have hD : va_D A [(o, .inr (12, mo q z)), ((q 38), .inl (cy 1, 8, .inl f1))] := by rw [ev]; exact hD
    clear ev
    obtain ⟨v2, ev, hf⟩ := bne hf
    refine lv_iinc (v := v2) (lv' := [(4, .int v2), (0, .ref o), (2, .int x2), (3, .int x3)]) hx hb d_M_target_29 hl (k := 3) rfl (by rw [ev]; rfl) (by decide) rfl (fun ls hl => ?_)
    clear ev
    refine lv_goto (tgt := 14) hx hb d_M_target_32 (by decide) ?_
    exact hk_14 _ _ _ _ _ hf _ _ _ hP hD hS (lv_sub hl [1, 2, 3, 0] rfl)
def x_M_target_14 (fu : Nat) (z : Nat → Int32) : Nat → Int32 → Int32 → Int32 → (Nat → Int32) → Option (Int32 × (Nat → Int32))
  | 0 => fun _ _ _ _ => none
  | n + 1 => xb_M_target_14 fu z (x_M_target_14 fu z n)
theorem w_M_target_14 {p : Program} {l : Launch} {e : Env} {s : State} {m : MethodId} {args : Array Value} {below : List Frame} {meth : Method} {c : Code} {D : va_G} {cy : Nat → ClassId} {A : Nat → Prop} {ad : Nat → Nat} {o : Nat} {q : Nat → Nat} {z : Nat → Int32} {fu : Nat} (F : Fx p s m args meth c b_M_target 7 "CoinKeeperModel" "target" (some .boolean) D cy ad A) : ∀ n : Nat, I_M_target_14 p l e s m args below meth c D cy A ad o q z (x_M_target_14 fu z n)
  | 0 => fun _ _ _ _ _ hf => nomatch (show (none : Option (Int32 × (Nat → Int32))) = some _ from hf)
  | n + 1 => wb_M_target_14 F (w_M_target_14 F n)
def x_M_target (fu : Nat) (z : Nat → Int32) (a1 : Int32) (u0 : Nat → Int32) : Option (Int32 × (Nat → Int32)) :=
  bnd ((a1.toUInt32 >>> ((24 : Int32).toUInt32 &&& Int32.toUInt32 31)).toInt32) fun v1 => bnd (a1 &&& (16777215 : Int32)) fun v2 => x_M_target_14 fu z fu v1 v2 (0 : Int32) u0
set_option maxHeartbeats 8000000 in
set_option maxRecDepth 100000 in
theorem we_M_target {p : Program} {l : Launch} {e : Env} {s : State} {m : MethodId} {args : Array Value} {below : List Frame} {meth : Method} {c : Code} {D : va_G} {cy : Nat → ClassId} {A : Nat → Prop} {ad : Nat → Nat} {o : Nat} {q : Nat → Nat} {z : Nat → Int32} {fu : Nat} (F : Fx p s m args meth c b_M_target 7 "CoinKeeperModel" "target" (some .boolean) D cy ad A) : I_M_target_e p l e s m args below meth c D cy A ad o q z (x_M_target fu z) := by
  obtain ⟨hx, hb, hr, hml, hown, hts, hlocks, hK, hA, hSt, hnm, hex⟩ := id F
  intro a1 u0 res hf H locs ls hP hD hS hl
  unfold x_M_target at hf
  refine lv_iload_n hx hb d_M_target_0 rfl (lv_at hl 1 rfl) ?_
  refine lv_bipush (v := 24) hx hb d_M_target_1 (by decide) ?_
  refine lv_iushr hx hb d_M_target_3 rfl ?_
  refine lv_topi (fun v1 ev => ?_)
  have hf := bn ev hf
  clear ev
  refine lv_istore_n (lv' := [(2, .int v1), (0, .ref o), (1, .int a1)]) hx hb d_M_target_4 rfl hl (by decide) rfl (fun ls hl => ?_)
  refine lv_iload_n hx hb d_M_target_5 rfl (lv_at hl 2 rfl) ?_
  refine lv_ldcw (v := 16777215) hx hb hown (hts _ gw_1373) d_M_target_6 ?_
  refine lv_iand hx hb d_M_target_9 ?_
  refine lv_topi (fun v2 ev => ?_)
  have hf := bn ev hf
  clear ev
  refine lv_istore_n (lv' := [(3, .int v2), (2, .int v1), (0, .ref o), (1, .int a1)]) hx hb d_M_target_10 rfl hl (by decide) rfl (fun ls hl => ?_)
  refine lv_iconst (v := 0) hx hb d_M_target_11 (by decide) ?_
  refine lv_istore (lv' := [(4, .int (0 : Int32)), (3, .int v2), (2, .int v1), (0, .ref o), (1, .int a1)]) hx hb d_M_target_12 hl (by decide) rfl (fun ls hl => ?_)
  exact w_M_target_14 F fu _ _ _ _ _ hf _ _ _ hP hD hS (lv_sub hl [3, 2, 1, 0] rfl)
theorem c_M_target (l : Launch) (D : va_G) (cy : Nat → ClassId) (ad : Nat → Nat) (fu : Nat) (o : Nat) (q : Nat → Nat) (z : Nat → Int32) (a1 : Int32) (u0 : Nat → Int32) (res : Int32 × (Nat → Int32)) (hf : x_M_target fu z a1 u0 = some res) (sz : Nat) : Met l ({ cls := "CoinKeeperModel", name := "target", desc := "(I)Z" } : Jvm.MethodName) (.code ({ cls := "CoinKeeperModel", name := "target", desc := "(I)Z" } : Jvm.MethodName) b_M_target 7 (some .boolean) :: gw) rm_M_target (va_Pc [.ref o, .int a1] (Pr D cy ad [(o, .inr (12, mo q z)), ((q 38), .inl (cy 1, 8, .inl u0))] sz)) (q_M_target D cy (va_A [(o, .inr (12, mo q z)), ((q 38), .inl (cy 1, 8, .inl u0))] sz) o q z res) 0 0 (va_A [(o, .inr (12, mo q z)), ((q 38), .inl (cy 1, 8, .inl u0))] sz) :=
  q_met (Qc := fun A => q_M_target D cy A o q z res) (by decide) rfl rfl (Nat.le_of_ble_eq_true rfl) (fun p e s m below meth c ls F hP hD hS hl => we_M_target (fu := fu) F a1 u0 res hf _ _ _ hP hD hS hl) sz
abbrev b_M_add : ByteArray := prog_14_method_12_code
theorem d_M_add_0 : decode b_M_add 0 = .ok (.lconst 0, 1) := by decide +kernel
theorem d_M_add_1 : decode b_M_add 1 = .ok (.lstore_n 3, 1) := by decide +kernel
theorem d_M_add_2 : decode b_M_add 2 = .ok (.iconst 0, 1) := by decide +kernel
theorem d_M_add_3 : decode b_M_add 3 = .ok (.istore 5, 2) := by decide +kernel
theorem d_M_add_5 : decode b_M_add 5 = .ok (.iload 5, 2) := by decide +kernel
theorem d_M_add_7 : decode b_M_add 7 = .ok (.bipush 8, 2) := by decide +kernel
theorem d_M_add_9 : decode b_M_add 9 = .ok (.if_icmp .ge 42, 3) := by decide +kernel
theorem d_M_add_12 : decode b_M_add 12 = .ok (.lload_n 3, 1) := by decide +kernel
theorem d_M_add_13 : decode b_M_add 13 = .ok (.aload_n 1, 1) := by decide +kernel
theorem d_M_add_14 : decode b_M_add 14 = .ok (.iload 5, 2) := by decide +kernel
theorem d_M_add_16 : decode b_M_add 16 = .ok (.iaload, 1) := by decide +kernel
theorem d_M_add_17 : decode b_M_add 17 = .ok (.i2l, 1) := by decide +kernel
theorem d_M_add_18 : decode b_M_add 18 = .ok (.ldc2_w 332, 3) := by decide +kernel
theorem d_M_add_21 : decode b_M_add 21 = .ok (.land, 1) := by decide +kernel
theorem d_M_add_22 : decode b_M_add 22 = .ok (.aload_n 2, 1) := by decide +kernel
theorem d_M_add_23 : decode b_M_add 23 = .ok (.iload 5, 2) := by decide +kernel
theorem d_M_add_25 : decode b_M_add 25 = .ok (.iaload, 1) := by decide +kernel
theorem d_M_add_26 : decode b_M_add 26 = .ok (.i2l, 1) := by decide +kernel
theorem d_M_add_27 : decode b_M_add 27 = .ok (.ldc2_w 332, 3) := by decide +kernel
theorem d_M_add_30 : decode b_M_add 30 = .ok (.land, 1) := by decide +kernel
theorem d_M_add_31 : decode b_M_add 31 = .ok (.ladd, 1) := by decide +kernel
theorem d_M_add_32 : decode b_M_add 32 = .ok (.ladd, 1) := by decide +kernel
theorem d_M_add_33 : decode b_M_add 33 = .ok (.lstore_n 3, 1) := by decide +kernel
theorem d_M_add_34 : decode b_M_add 34 = .ok (.aload_n 0, 1) := by decide +kernel
theorem d_M_add_35 : decode b_M_add 35 = .ok (.iload 5, 2) := by decide +kernel
theorem d_M_add_37 : decode b_M_add 37 = .ok (.lload_n 3, 1) := by decide +kernel
theorem d_M_add_38 : decode b_M_add 38 = .ok (.l2i, 1) := by decide +kernel
theorem d_M_add_39 : decode b_M_add 39 = .ok (.iastore, 1) := by decide +kernel
theorem d_M_add_40 : decode b_M_add 40 = .ok (.lload_n 3, 1) := by decide +kernel
theorem d_M_add_41 : decode b_M_add 41 = .ok (.bipush 32, 2) := by decide +kernel
theorem d_M_add_43 : decode b_M_add 43 = .ok (.lushr, 1) := by decide +kernel
theorem d_M_add_44 : decode b_M_add 44 = .ok (.lstore_n 3, 1) := by decide +kernel
theorem d_M_add_45 : decode b_M_add 45 = .ok (.iinc 5 1, 3) := by decide +kernel
theorem d_M_add_48 : decode b_M_add 48 = .ok (.goto (-43), 3) := by decide +kernel
theorem d_M_add_51 : decode b_M_add 51 = .ok (.lload_n 3, 1) := by decide +kernel
theorem d_M_add_52 : decode b_M_add 52 = .ok (.l2i, 1) := by decide +kernel
theorem d_M_add_53 : decode b_M_add 53 = .ok (.ireturn, 1) := by decide +kernel
abbrev rm_M_add : Room := { frames := 0, cells := 0, slots := 0, locals := 0 }
abbrev q_M_add (D : va_G) (cy : Nat → ClassId) (A : Nat → Prop) (b0 : Nat) (b1 : Nat) (b2 : Nat) (h1 : Nat → Int32) (h2 : Nat → Int32) (res : Int32 × (Nat → Int32)) : Array Value → State → Outcome → State → Prop := va_Qi (fun r' (_ : Unit) => r' = res.1) (fun _ t => Po D cy A [(b0, .inl (cy 1, 8, .inl res.2)), (b1, .inl (cy 1, 8, .inl h1)), (b2, .inl (cy 1, 8, .inl h2))] t) A
def I_M_add_5 (p : Program) (l : Launch) (e : Env) (s : State) (m : MethodId) (args : Array Value) (below : List Frame) (meth : Method) (c : Code) (D : va_G) (cy : Nat → ClassId) (A : Nat → Prop) (ad : Nat → Nat) (b0 : Nat) (b1 : Nat) (b2 : Nat) (h1 : Nat → Int32) (h2 : Nat → Int32) (k : Int64 → Int32 → (Nat → Int32) → Option (Int32 × (Nat → Int32))) : Prop :=
  ∀ (x3 : Int64) (x5 : Int32) (u0 : Nat → Int32) (res : Int32 × (Nat → Int32)), k x3 x5 u0 = some res → ∀ (H : Heap) (locs : List Loc) (ls : Array Slot), va_P D classes [(b0, .inl (cy 1, 8, .inl u0)), (b1, .inl (cy 1, 8, .inl h1)), (b2, .inl (cy 1, 8, .inl h2))] H → va_D A [(b0, .inl (cy 1, 8, .inl u0)), (b1, .inl (cy 1, 8, .inl h1)), (b2, .inl (cy 1, 8, .inl h2))] → va_S A s.heap H locs → lv_has ls 6 [(0, .ref b0), (1, .ref b1), (2, .ref b2), (3, .long x3), (5, .int x5)] → W p l e rm_M_add s m args below meth c H locs 0 0 (MQ below (q_M_add D cy A b0 b1 b2 h1 h2 res) args s 0 0 A) (F0 m 5 ls [])
def I_M_add_e (p : Program) (l : Launch) (e : Env) (s : State) (m : MethodId) (args : Array Value) (below : List Frame) (meth : Method) (c : Code) (D : va_G) (cy : Nat → ClassId) (A : Nat → Prop) (ad : Nat → Nat) (b0 : Nat) (b1 : Nat) (b2 : Nat) (h1 : Nat → Int32) (h2 : Nat → Int32) (k : (Nat → Int32) → Option (Int32 × (Nat → Int32))) : Prop :=
  ∀ (u0 : Nat → Int32) (res : Int32 × (Nat → Int32)), k u0 = some res → ∀ (H : Heap) (locs : List Loc) (ls : Array Slot), va_P D classes [(b0, .inl (cy 1, 8, .inl u0)), (b1, .inl (cy 1, 8, .inl h1)), (b2, .inl (cy 1, 8, .inl h2))] H → va_D A [(b0, .inl (cy 1, 8, .inl u0)), (b1, .inl (cy 1, 8, .inl h1)), (b2, .inl (cy 1, 8, .inl h2))] → va_S A s.heap H locs → lv_has ls 6 [(0, .ref b0), (1, .ref b1), (2, .ref b2)] → W p l e rm_M_add s m args below meth c H locs 0 0 (MQ below (q_M_add D cy A b0 b1 b2 h1 h2 res) args s 0 0 A) (F0 m 0 ls [])
def xb_M_add_5 (fu : Nat) (h1 : Nat → Int32) (h2 : Nat → Int32) (k_5 : Int64 → Int32 → (Nat → Int32) → Option (Int32 × (Nat → Int32))) (x3 : Int64) (x5 : Int32) (u0 : Nat → Int32) : Option (Int32 × (Nat → Int32)) :=
  if (8 : Int32) ≤ x5 then (bnd (x3.toInt32) fun v1 => some (v1, u0)) else (gd (inb x5 8) <| bnd (h1 x5.toNatClampNeg) fun v2 => bnd (v2.toInt64) fun v3 => bnd (v3 &&& (4294967295 : Int64)) fun v4 => gd (inb x5 8) <| bnd (h2 x5.toNatClampNeg) fun v5 => bnd (v5.toInt64) fun v6 => bnd (x3 + (v4 + (v6 &&& (4294967295 : Int64)))) fun v7 => bnd (v7.toInt32) fun v8 => gd (inb x5 8) <| bnd (upd u0 x5.toNatClampNeg v8) fun f9 => bnd ((v7.toUInt64 >>> ((32 : Int32).toInt64.toUInt64 &&& Int64.toUInt64 63)).toInt64) fun v10 => bnd (x5 + (1 : Int32)) fun v11 => k_5 v10 v11 f9)
set_option maxHeartbeats 8000000 in
set_option maxRecDepth 100000 in
theorem wb_M_add_5 {p : Program} {l : Launch} {e : Env} {s : State} {m : MethodId} {args : Array Value} {below : List Frame} {meth : Method} {c : Code} {D : va_G} {cy : Nat → ClassId} {A : Nat → Prop} {ad : Nat → Nat} {b0 : Nat} {b1 : Nat} {b2 : Nat} {h1 : Nat → Int32} {h2 : Nat → Int32} {fu : Nat} {k_5 : Int64 → Int32 → (Nat → Int32) → Option (Int32 × (Nat → Int32))} (F : Fx p s m args meth c b_M_add 6 "CoinKeeperModel" "add" (some .int) D cy ad A) (hk_5 : I_M_add_5 p l e s m args below meth c D cy A ad b0 b1 b2 h1 h2 k_5) : I_M_add_5 p l e s m args below meth c D cy A ad b0 b1 b2 h1 h2 (xb_M_add_5 fu h1 h2 k_5) := by
  obtain ⟨hx, hb, hr, hml, hown, hts, hlocks, hK, hA, hSt, hnm, hex⟩ := id F
  intro x3 x5 u0 res hf H locs ls hP hD hS hl
  unfold xb_M_add_5 at hf
  refine lv_iload hx hb d_M_add_5 (lv_at hl 4 rfl) ?_
  refine lv_bipush (v := 8) hx hb d_M_add_7 (by decide) ?_
  refine lv_icmp_ge (tgt := 51) hx hb d_M_add_9 (by decide) (fun cx => ?_) (fun cx => ?_)
  · have hf := ifp cx hf
    refine lv_lload_n hx hb d_M_add_51 rfl (lv_at hl 3 rfl) ?_
    refine lv_l2i hx hb d_M_add_52 rfl ?_
    refine lv_topi (fun v1 ev => ?_)
    have hf := bn ev hf
    clear ev
    obtain rfl := Option.some.inj hf
    exact q_ri hx hb hr hlocks hK hP hD hS d_M_add_53
  · have hf := ifn cx hf
    refine lv_lload_n hx hb d_M_add_12 rfl (lv_at hl 3 rfl) ?_
    refine lv_aload_n hx hb d_M_add_13 rfl (lv_at hl 1 rfl) ?_
    refine lv_iload hx hb d_M_add_14 (lv_at hl 4 rfl) ?_
    obtain ⟨hg, hf⟩ := gdp hf
    refine va_iald hx hb hK hP 1 1 rfl rfl (inb_in hg) d_M_add_16 ?_
    refine lv_topi (fun v2 ev => ?_)
    have hf := bn ev hf
    clear ev
    refine lv_i2l hx hb d_M_add_17 rfl ?_
    refine lv_topl (fun v3 ev => ?_)
    have hf := bn ev hf
    clear ev
    refine lv_ldc2 (v := 4294967295) hx hb hown (hts _ gw_1390) d_M_add_18 ?_
    refine lv_land hx hb d_M_add_21 ?_
    refine lv_topl (fun v4 ev => ?_)
    have hf := bn ev hf
    clear ev
    refine lv_aload_n hx hb d_M_add_22 rfl (lv_at hl 2 rfl) ?_
    refine lv_iload hx hb d_M_add_23 (lv_at hl 4 rfl) ?_
    obtain ⟨hg, hf⟩ := gdp hf
    refine va_iald hx hb hK hP 2 1 rfl rfl (inb_in hg) d_M_add_25 ?_
    refine lv_topi (fun v5 ev => ?_)
    have hf := bn ev hf
    clear ev
    refine lv_i2l hx hb d_M_add_26 rfl ?_
    refine lv_topl (fun v6 ev => ?_)
    have hf := bn ev hf
    clear ev
    refine lv_ldc2 (v := 4294967295) hx hb hown (hts _ gw_1390) d_M_add_27 ?_
    refine lv_land hx hb d_M_add_30 ?_
    refine lv_ladd hx hb d_M_add_31 ?_
    refine lv_ladd hx hb d_M_add_32 ?_
    refine lv_topl (fun v7 ev => ?_)
    have hf := bn ev hf
    clear ev
    refine lv_lstore_n (lv' := [(3, .long v7), (0, .ref b0), (1, .ref b1), (2, .ref b2), (5, .int x5)]) hx hb d_M_add_33 rfl hl (by decide) rfl (fun ls hl => ?_)
    refine lv_aload_n hx hb d_M_add_34 rfl (lv_at hl 1 rfl) ?_
    refine lv_iload hx hb d_M_add_35 (lv_at hl 4 rfl) ?_
    refine lv_lload_n hx hb d_M_add_37 rfl (lv_at hl 0 rfl) ?_
    refine lv_l2i hx hb d_M_add_38 rfl ?_
    refine lv_topi (fun v8 ev => ?_)
    have hf := bn ev hf
    clear ev
    obtain ⟨hg, hf⟩ := gdp hf
    refine va_iast hx hb hK hP hD hS 0 1 rfl rfl (inb_in hg) d_M_add_39 (fun H locs hP hD hS => ?_)
    obtain ⟨f9, ev, hf⟩ := bne hf
    have hP : va_P D classes [(b0, .inl (cy 1, 8, .inl f9)), (b1, .inl (cy 1, 8, .inl h1)), (b2, .inl (cy 1, 8, .inl h2))] H := by rw [ev]; exact hP
    have hD : va_D A [(b0, .inl (cy 1, 8, .inl f9)), (b1, .inl (cy 1, 8, .inl h1)), (b2, .inl (cy 1, 8, .inl h2))] := by rw [ev]; exact hD
    clear ev
    refine lv_lload_n hx hb d_M_add_40 rfl (lv_at hl 0 rfl) ?_
    refine lv_bipush (v := 32) hx hb d_M_add_41 (by decide) ?_
    refine lv_lushr hx hb d_M_add_43 rfl ?_
    refine lv_topl (fun v10 ev => ?_)
    have hf := bn ev hf
    clear ev
    refine lv_lstore_n (lv' := [(3, .long v10), (0, .ref b0), (1, .ref b1), (2, .ref b2), (5, .int x5)]) hx hb d_M_add_44 rfl hl (by decide) rfl (fun ls hl => ?_)
    obtain ⟨v11, ev, hf⟩ := bne hf
    refine lv_iinc (v := v11) (lv' := [(5, .int v11), (3, .long v10), (0, .ref b0), (1, .ref b1), (2, .ref b2)]) hx hb d_M_add_45 hl (k := 4) rfl (by rw [ev]; rfl) (by decide) rfl (fun ls hl => ?_)
    clear ev
    refine lv_goto (tgt := 5) hx hb d_M_add_48 (by decide) ?_
    exact hk_5 _ _ _ _ hf _ _ _ hP hD hS (lv_sub hl [2, 3, 4, 1, 0] rfl)
def x_M_add_5 (fu : Nat) (h1 : Nat → Int32) (h2 : Nat → Int32) : Nat → Int64 → Int32 → (Nat → Int32) → Option (Int32 × (Nat → Int32))
  | 0 => fun _ _ _ => none
  | n + 1 => xb_M_add_5 fu h1 h2 (x_M_add_5 fu h1 h2 n)
theorem w_M_add_5 {p : Program} {l : Launch} {e : Env} {s : State} {m : MethodId} {args : Array Value} {below : List Frame} {meth : Method} {c : Code} {D : va_G} {cy : Nat → ClassId} {A : Nat → Prop} {ad : Nat → Nat} {b0 : Nat} {b1 : Nat} {b2 : Nat} {h1 : Nat → Int32} {h2 : Nat → Int32} {fu : Nat} (F : Fx p s m args meth c b_M_add 6 "CoinKeeperModel" "add" (some .int) D cy ad A) : ∀ n : Nat, I_M_add_5 p l e s m args below meth c D cy A ad b0 b1 b2 h1 h2 (x_M_add_5 fu h1 h2 n)
  | 0 => fun _ _ _ _ hf => nomatch (show (none : Option (Int32 × (Nat → Int32))) = some _ from hf)
  | n + 1 => wb_M_add_5 F (w_M_add_5 F n)
def x_M_add (fu : Nat) (h1 : Nat → Int32) (h2 : Nat → Int32) (u0 : Nat → Int32) : Option (Int32 × (Nat → Int32)) :=
  x_M_add_5 fu h1 h2 fu (0 : Int64) (0 : Int32) u0
set_option maxHeartbeats 8000000 in
set_option maxRecDepth 100000 in
theorem we_M_add {p : Program} {l : Launch} {e : Env} {s : State} {m : MethodId} {args : Array Value} {below : List Frame} {meth : Method} {c : Code} {D : va_G} {cy : Nat → ClassId} {A : Nat → Prop} {ad : Nat → Nat} {b0 : Nat} {b1 : Nat} {b2 : Nat} {h1 : Nat → Int32} {h2 : Nat → Int32} {fu : Nat} (F : Fx p s m args meth c b_M_add 6 "CoinKeeperModel" "add" (some .int) D cy ad A) : I_M_add_e p l e s m args below meth c D cy A ad b0 b1 b2 h1 h2 (x_M_add fu h1 h2) := by
  obtain ⟨hx, hb, hr, hml, hown, hts, hlocks, hK, hA, hSt, hnm, hex⟩ := id F
  intro u0 res hf H locs ls hP hD hS hl
  unfold x_M_add at hf
  refine lv_lconst (v := 0) hx hb d_M_add_0 (by decide) ?_
  refine lv_lstore_n (lv' := [(3, .long (0 : Int64)), (0, .ref b0), (1, .ref b1), (2, .ref b2)]) hx hb d_M_add_1 rfl hl (by decide) rfl (fun ls hl => ?_)
  refine lv_iconst (v := 0) hx hb d_M_add_2 (by decide) ?_
  refine lv_istore (lv' := [(5, .int (0 : Int32)), (3, .long (0 : Int64)), (0, .ref b0), (1, .ref b1), (2, .ref b2)]) hx hb d_M_add_3 hl (by decide) rfl (fun ls hl => ?_)
  exact w_M_add_5 F fu _ _ _ _ hf _ _ _ hP hD hS (lv_sub hl [2, 3, 4, 1, 0] rfl)
theorem c_M_add (l : Launch) (D : va_G) (cy : Nat → ClassId) (ad : Nat → Nat) (fu : Nat) (b0 : Nat) (b1 : Nat) (b2 : Nat) (h1 : Nat → Int32) (h2 : Nat → Int32) (u0 : Nat → Int32) (res : Int32 × (Nat → Int32)) (hf : x_M_add fu h1 h2 u0 = some res) (sz : Nat) : Met l ({ cls := "CoinKeeperModel", name := "add", desc := "([I[I[I)I" } : Jvm.MethodName) (.code ({ cls := "CoinKeeperModel", name := "add", desc := "([I[I[I)I" } : Jvm.MethodName) b_M_add 6 (some .int) :: gw) rm_M_add (va_Pc [.ref b0, .ref b1, .ref b2] (Pr D cy ad [(b0, .inl (cy 1, 8, .inl u0)), (b1, .inl (cy 1, 8, .inl h1)), (b2, .inl (cy 1, 8, .inl h2))] sz)) (q_M_add D cy (va_A [(b0, .inl (cy 1, 8, .inl u0)), (b1, .inl (cy 1, 8, .inl h1)), (b2, .inl (cy 1, 8, .inl h2))] sz) b0 b1 b2 h1 h2 res) 0 0 (va_A [(b0, .inl (cy 1, 8, .inl u0)), (b1, .inl (cy 1, 8, .inl h1)), (b2, .inl (cy 1, 8, .inl h2))] sz) :=
  q_met (Qc := fun A => q_M_add D cy A b0 b1 b2 h1 h2 res) (by decide) rfl rfl (Nat.le_of_ble_eq_true rfl) (fun p e s m below meth c ls F hP hD hS hl => we_M_add (fu := fu) F u0 res hf _ _ _ hP hD hS hl) sz
abbrev b_M_copy : ByteArray := prog_14_method_14_code
theorem d_M_copy_0 : decode b_M_copy 0 = .ok (.aload_n 1, 1) := by decide +kernel
theorem d_M_copy_1 : decode b_M_copy 1 = .ok (.iconst 0, 1) := by decide +kernel
theorem d_M_copy_2 : decode b_M_copy 2 = .ok (.aload_n 0, 1) := by decide +kernel
theorem d_M_copy_3 : decode b_M_copy 3 = .ok (.iconst 0, 1) := by decide +kernel
theorem d_M_copy_4 : decode b_M_copy 4 = .ok (.bipush 8, 2) := by decide +kernel
theorem d_M_copy_6 : decode b_M_copy 6 = .ok (.invokestatic 271, 3) := by decide +kernel
theorem d_M_copy_9 : decode b_M_copy 9 = .ok (.return_, 1) := by decide +kernel
abbrev rm_M_copy : Room := { frames := 1, cells := 0, slots := 0, locals := 26 }
abbrev q_M_copy (D : va_G) (cy : Nat → ClassId) (A : Nat → Prop) (b0 : Nat) (b1 : Nat) (h1 : Nat → Int32) (res : (Nat → Int32)) : Array Value → State → Outcome → State → Prop := va_Qv (fun (_ : Unit) => True) (fun _ t => Po D cy A [(b0, .inl (cy 1, 8, .inl res)), (b1, .inl (cy 1, 8, .inl h1))] t) A
def I_M_copy_e (p : Program) (l : Launch) (e : Env) (s : State) (m : MethodId) (args : Array Value) (below : List Frame) (meth : Method) (c : Code) (D : va_G) (cy : Nat → ClassId) (A : Nat → Prop) (ad : Nat → Nat) (b0 : Nat) (b1 : Nat) (h1 : Nat → Int32) (k : (Nat → Int32) → Option ((Nat → Int32))) : Prop :=
  ∀ (u0 : Nat → Int32) (res : (Nat → Int32)), k u0 = some res → ∀ (H : Heap) (locs : List Loc) (ls : Array Slot), va_P D classes [(b0, .inl (cy 1, 8, .inl u0)), (b1, .inl (cy 1, 8, .inl h1))] H → va_D A [(b0, .inl (cy 1, 8, .inl u0)), (b1, .inl (cy 1, 8, .inl h1))] → va_S A s.heap H locs → lv_has ls 2 [(0, .ref b0), (1, .ref b1)] → W p l e rm_M_copy s m args below meth c H locs 0 0 (MQ below (q_M_copy D cy A b0 b1 h1 res) args s 0 0 A) (F0 m 0 ls [])
def x_M_copy (fu : Nat) (h1 : Nat → Int32) (u0 : Nat → Int32) : Option ((Nat → Int32)) :=
  gd (cpk (0 : Int32) (0 : Int32) (8 : Int32) 8 8) <| bnd (va_cpy h1 u0 (0 : Int32).toNatClampNeg (0 : Int32).toNatClampNeg (8 : Int32).toNatClampNeg) fun f1 => some (f1)
set_option maxHeartbeats 8000000 in
set_option maxRecDepth 100000 in
theorem we_M_copy {p : Program} {l : Launch} {e : Env} {s : State} {m : MethodId} {args : Array Value} {below : List Frame} {meth : Method} {c : Code} {D : va_G} {cy : Nat → ClassId} {A : Nat → Prop} {ad : Nat → Nat} {b0 : Nat} {b1 : Nat} {h1 : Nat → Int32} {fu : Nat} (F : Fx p s m args meth c b_M_copy 2 "CoinKeeperModel" "copy" none D cy ad A) : I_M_copy_e p l e s m args below meth c D cy A ad b0 b1 h1 (x_M_copy fu h1) := by
  obtain ⟨hx, hb, hr, hml, hown, hts, hlocks, hK, hA, hSt, hnm, hex⟩ := id F
  intro u0 res hf H locs ls hP hD hS hl
  unfold x_M_copy at hf
  refine lv_aload_n hx hb d_M_copy_0 rfl (lv_at hl 1 rfl) ?_
  refine lv_iconst (v := 0) hx hb d_M_copy_1 (by decide) ?_
  refine lv_aload_n hx hb d_M_copy_2 rfl (lv_at hl 0 rfl) ?_
  refine lv_iconst (v := 0) hx hb d_M_copy_3 (by decide) ?_
  refine lv_bipush (v := 8) hx hb d_M_copy_4 (by decide) ?_
  obtain ⟨hg, hf⟩ := gdp hf
  refine va_copyi (rest := []) hx hb (hml.trans hl.1.symm) hown (hts _ gw_1398) (hts _ gw_497) (hts _ gw_496) (hts _ gw_17) hK hP hD hS 1 0 1 1 rfl rfl rfl rfl rfl (cpk_p hg).1 (cpk_p hg).2.1 (cpk_p hg).2.2.1 (cpk_p hg).2.2.2.1 (cpk_p hg).2.2.2.2 (fun _ _ => rfl) (by decide) (by decide) d_M_copy_6 (fun H locs hP hD hS => ?_)
  obtain ⟨f1, ev, hf⟩ := bne hf
  have hP : va_P D classes [(b0, .inl (cy 1, 8, .inl f1)), (b1, .inl (cy 1, 8, .inl h1))] H := by rw [ev]; exact hP
  have hD : va_D A [(b0, .inl (cy 1, 8, .inl f1)), (b1, .inl (cy 1, 8, .inl h1))] := by rw [ev]; exact hD
  clear ev
  obtain rfl := Option.some.inj hf
  exact q_rv hx hb hr hlocks hK hP hD hS d_M_copy_9
theorem c_M_copy (l : Launch) (D : va_G) (cy : Nat → ClassId) (ad : Nat → Nat) (fu : Nat) (b0 : Nat) (b1 : Nat) (h1 : Nat → Int32) (u0 : Nat → Int32) (res : (Nat → Int32)) (hf : x_M_copy fu h1 u0 = some res) (sz : Nat) : Met l ({ cls := "CoinKeeperModel", name := "copy", desc := "([I[I)V" } : Jvm.MethodName) (.code ({ cls := "CoinKeeperModel", name := "copy", desc := "([I[I)V" } : Jvm.MethodName) b_M_copy 2 none :: gw) rm_M_copy (va_Pc [.ref b0, .ref b1] (Pr D cy ad [(b0, .inl (cy 1, 8, .inl u0)), (b1, .inl (cy 1, 8, .inl h1))] sz)) (q_M_copy D cy (va_A [(b0, .inl (cy 1, 8, .inl u0)), (b1, .inl (cy 1, 8, .inl h1))] sz) b0 b1 h1 res) 0 0 (va_A [(b0, .inl (cy 1, 8, .inl u0)), (b1, .inl (cy 1, 8, .inl h1))] sz) :=
  q_met (Qc := fun A => q_M_copy D cy A b0 b1 h1 res) (by decide) rfl rfl (Nat.le_of_ble_eq_true rfl) (fun p e s m below meth c ls F hP hD hS hl => we_M_copy (fu := fu) F u0 res hf _ _ _ hP hD hS hl) sz
abbrev rm_M_add_e10e20 : Room := { frames := 0, cells := 0, slots := 0, locals := 0 }
abbrev q_M_add_e10e20 (D : va_G) (cy : Nat → ClassId) (A : Nat → Prop) (b0 : Nat) (res : Int32 × (Nat → Int32)) : Array Value → State → Outcome → State → Prop := va_Qi (fun r' (_ : Unit) => r' = res.1) (fun _ t => Po D cy A [(b0, .inl (cy 1, 8, .inl res.2))] t) A
def I_M_add_e10e20_5 (p : Program) (l : Launch) (e : Env) (s : State) (m : MethodId) (args : Array Value) (below : List Frame) (meth : Method) (c : Code) (D : va_G) (cy : Nat → ClassId) (A : Nat → Prop) (ad : Nat → Nat) (b0 : Nat) (k : Int64 → Int32 → (Nat → Int32) → Option (Int32 × (Nat → Int32))) : Prop :=
  ∀ (x3 : Int64) (x5 : Int32) (u0 : Nat → Int32) (res : Int32 × (Nat → Int32)), k x3 x5 u0 = some res → ∀ (H : Heap) (locs : List Loc) (ls : Array Slot), va_P D classes [(b0, .inl (cy 1, 8, .inl u0))] H → va_D A [(b0, .inl (cy 1, 8, .inl u0))] → va_S A s.heap H locs → lv_has ls 6 [(0, .ref b0), (1, .ref b0), (2, .ref b0), (3, .long x3), (5, .int x5)] → W p l e rm_M_add_e10e20 s m args below meth c H locs 0 0 (MQ below (q_M_add_e10e20 D cy A b0 res) args s 0 0 A) (F0 m 5 ls [])
def I_M_add_e10e20_e (p : Program) (l : Launch) (e : Env) (s : State) (m : MethodId) (args : Array Value) (below : List Frame) (meth : Method) (c : Code) (D : va_G) (cy : Nat → ClassId) (A : Nat → Prop) (ad : Nat → Nat) (b0 : Nat) (k : (Nat → Int32) → Option (Int32 × (Nat → Int32))) : Prop :=
  ∀ (u0 : Nat → Int32) (res : Int32 × (Nat → Int32)), k u0 = some res → ∀ (H : Heap) (locs : List Loc) (ls : Array Slot), va_P D classes [(b0, .inl (cy 1, 8, .inl u0))] H → va_D A [(b0, .inl (cy 1, 8, .inl u0))] → va_S A s.heap H locs → lv_has ls 6 [(0, .ref b0), (1, .ref b0), (2, .ref b0)] → W p l e rm_M_add_e10e20 s m args below meth c H locs 0 0 (MQ below (q_M_add_e10e20 D cy A b0 res) args s 0 0 A) (F0 m 0 ls [])
def xb_M_add_e10e20_5 (fu : Nat) (k_5 : Int64 → Int32 → (Nat → Int32) → Option (Int32 × (Nat → Int32))) (x3 : Int64) (x5 : Int32) (u0 : Nat → Int32) : Option (Int32 × (Nat → Int32)) :=
  if (8 : Int32) ≤ x5 then (bnd (x3.toInt32) fun v1 => some (v1, u0)) else (gd (inb x5 8) <| bnd (u0 x5.toNatClampNeg) fun v2 => bnd (v2.toInt64) fun v3 => bnd (v3 &&& (4294967295 : Int64)) fun v4 => gd (inb x5 8) <| bnd (u0 x5.toNatClampNeg) fun v5 => bnd (v5.toInt64) fun v6 => bnd (x3 + (v4 + (v6 &&& (4294967295 : Int64)))) fun v7 => bnd (v7.toInt32) fun v8 => gd (inb x5 8) <| bnd (upd u0 x5.toNatClampNeg v8) fun f9 => bnd ((v7.toUInt64 >>> ((32 : Int32).toInt64.toUInt64 &&& Int64.toUInt64 63)).toInt64) fun v10 => bnd (x5 + (1 : Int32)) fun v11 => k_5 v10 v11 f9)
set_option maxHeartbeats 8000000 in
set_option maxRecDepth 100000 in
theorem wb_M_add_e10e20_5 {p : Program} {l : Launch} {e : Env} {s : State} {m : MethodId} {args : Array Value} {below : List Frame} {meth : Method} {c : Code} {D : va_G} {cy : Nat → ClassId} {A : Nat → Prop} {ad : Nat → Nat} {b0 : Nat} {fu : Nat} {k_5 : Int64 → Int32 → (Nat → Int32) → Option (Int32 × (Nat → Int32))} (F : Fx p s m args meth c b_M_add 6 "CoinKeeperModel" "add" (some .int) D cy ad A) (hk_5 : I_M_add_e10e20_5 p l e s m args below meth c D cy A ad b0 k_5) : I_M_add_e10e20_5 p l e s m args below meth c D cy A ad b0 (xb_M_add_e10e20_5 fu k_5) := by
  obtain ⟨hx, hb, hr, hml, hown, hts, hlocks, hK, hA, hSt, hnm, hex⟩ := id F
  intro x3 x5 u0 res hf H locs ls hP hD hS hl
  unfold xb_M_add_e10e20_5 at hf
  refine lv_iload hx hb d_M_add_5 (lv_at hl 4 rfl) ?_
  refine lv_bipush (v := 8) hx hb d_M_add_7 (by decide) ?_
  refine lv_icmp_ge (tgt := 51) hx hb d_M_add_9 (by decide) (fun cx => ?_) (fun cx => ?_)
  · have hf := ifp cx hf
    refine lv_lload_n hx hb d_M_add_51 rfl (lv_at hl 3 rfl) ?_
    refine lv_l2i hx hb d_M_add_52 rfl ?_
    refine lv_topi (fun v1 ev => ?_)
    have hf := bn ev hf
    clear ev
    obtain rfl := Option.some.inj hf
    exact q_ri hx hb hr hlocks hK hP hD hS d_M_add_53
  · have hf := ifn cx hf
    refine lv_lload_n hx hb d_M_add_12 rfl (lv_at hl 3 rfl) ?_
    refine lv_aload_n hx hb d_M_add_13 rfl (lv_at hl 1 rfl) ?_
    refine lv_iload hx hb d_M_add_14 (lv_at hl 4 rfl) ?_
    obtain ⟨hg, hf⟩ := gdp hf
    refine va_iald hx hb hK hP 0 1 rfl rfl (inb_in hg) d_M_add_16 ?_
    refine lv_topi (fun v2 ev => ?_)
    have hf := bn ev hf
    clear ev
    refine lv_i2l hx hb d_M_add_17 rfl ?_
    refine lv_topl (fun v3 ev => ?_)
    have hf := bn ev hf
    clear ev
    refine lv_ldc2 (v := 4294967295) hx hb hown (hts _ gw_1390) d_M_add_18 ?_
    refine lv_land hx hb d_M_add_21 ?_
    refine lv_topl (fun v4 ev => ?_)
    have hf := bn ev hf
    clear ev
    refine lv_aload_n hx hb d_M_add_22 rfl (lv_at hl 2 rfl) ?_
    refine lv_iload hx hb d_M_add_23 (lv_at hl 4 rfl) ?_
    obtain ⟨hg, hf⟩ := gdp hf
    refine va_iald hx hb hK hP 0 1 rfl rfl (inb_in hg) d_M_add_25 ?_
    refine lv_topi (fun v5 ev => ?_)
    have hf := bn ev hf
    clear ev
    refine lv_i2l hx hb d_M_add_26 rfl ?_
    refine lv_topl (fun v6 ev => ?_)
    have hf := bn ev hf
    clear ev
    refine lv_ldc2 (v := 4294967295) hx hb hown (hts _ gw_1390) d_M_add_27 ?_
    refine lv_land hx hb d_M_add_30 ?_
    refine lv_ladd hx hb d_M_add_31 ?_
    refine lv_ladd hx hb d_M_add_32 ?_
    refine lv_topl (fun v7 ev => ?_)
    have hf := bn ev hf
    clear ev
    refine lv_lstore_n (lv' := [(3, .long v7), (0, .ref b0), (1, .ref b0), (2, .ref b0), (5, .int x5)]) hx hb d_M_add_33 rfl hl (by decide) rfl (fun ls hl => ?_)
    refine lv_aload_n hx hb d_M_add_34 rfl (lv_at hl 1 rfl) ?_
    refine lv_iload hx hb d_M_add_35 (lv_at hl 4 rfl) ?_
    refine lv_lload_n hx hb d_M_add_37 rfl (lv_at hl 0 rfl) ?_
    refine lv_l2i hx hb d_M_add_38 rfl ?_
    refine lv_topi (fun v8 ev => ?_)
    have hf := bn ev hf
    clear ev
    obtain ⟨hg, hf⟩ := gdp hf
    refine va_iast hx hb hK hP hD hS 0 1 rfl rfl (inb_in hg) d_M_add_39 (fun H locs hP hD hS => ?_)
    obtain ⟨f9, ev, hf⟩ := bne hf
    have hP : va_P D classes [(b0, .inl (cy 1, 8, .inl f9))] H := by rw [ev]; exact hP
    have hD : va_D A [(b0, .inl (cy 1, 8, .inl f9))] := by rw [ev]; exact hD
    clear ev
    refine lv_lload_n hx hb d_M_add_40 rfl (lv_at hl 0 rfl) ?_
    refine lv_bipush (v := 32) hx hb d_M_add_41 (by decide) ?_
    refine lv_lushr hx hb d_M_add_43 rfl ?_
    refine lv_topl (fun v10 ev => ?_)
    have hf := bn ev hf
    clear ev
    refine lv_lstore_n (lv' := [(3, .long v10), (0, .ref b0), (1, .ref b0), (2, .ref b0), (5, .int x5)]) hx hb d_M_add_44 rfl hl (by decide) rfl (fun ls hl => ?_)
    obtain ⟨v11, ev, hf⟩ := bne hf
    refine lv_iinc (v := v11) (lv' := [(5, .int v11), (3, .long v10), (0, .ref b0), (1, .ref b0), (2, .ref b0)]) hx hb d_M_add_45 hl (k := 4) rfl (by rw [ev]; rfl) (by decide) rfl (fun ls hl => ?_)
    clear ev
    refine lv_goto (tgt := 5) hx hb d_M_add_48 (by decide) ?_
    exact hk_5 _ _ _ _ hf _ _ _ hP hD hS (lv_sub hl [2, 3, 4, 1, 0] rfl)
def x_M_add_e10e20_5 (fu : Nat) : Nat → Int64 → Int32 → (Nat → Int32) → Option (Int32 × (Nat → Int32))
  | 0 => fun _ _ _ => none
  | n + 1 => xb_M_add_e10e20_5 fu (x_M_add_e10e20_5 fu n)
theorem w_M_add_e10e20_5 {p : Program} {l : Launch} {e : Env} {s : State} {m : MethodId} {args : Array Value} {below : List Frame} {meth : Method} {c : Code} {D : va_G} {cy : Nat → ClassId} {A : Nat → Prop} {ad : Nat → Nat} {b0 : Nat} {fu : Nat} (F : Fx p s m args meth c b_M_add 6 "CoinKeeperModel" "add" (some .int) D cy ad A) : ∀ n : Nat, I_M_add_e10e20_5 p l e s m args below meth c D cy A ad b0 (x_M_add_e10e20_5 fu n)
  | 0 => fun _ _ _ _ hf => nomatch (show (none : Option (Int32 × (Nat → Int32))) = some _ from hf)
  | n + 1 => wb_M_add_e10e20_5 F (w_M_add_e10e20_5 F n)
def x_M_add_e10e20 (fu : Nat) (u0 : Nat → Int32) : Option (Int32 × (Nat → Int32)) :=
  x_M_add_e10e20_5 fu fu (0 : Int64) (0 : Int32) u0
set_option maxHeartbeats 8000000 in
set_option maxRecDepth 100000 in
theorem we_M_add_e10e20 {p : Program} {l : Launch} {e : Env} {s : State} {m : MethodId} {args : Array Value} {below : List Frame} {meth : Method} {c : Code} {D : va_G} {cy : Nat → ClassId} {A : Nat → Prop} {ad : Nat → Nat} {b0 : Nat} {fu : Nat} (F : Fx p s m args meth c b_M_add 6 "CoinKeeperModel" "add" (some .int) D cy ad A) : I_M_add_e10e20_e p l e s m args below meth c D cy A ad b0 (x_M_add_e10e20 fu) := by
  obtain ⟨hx, hb, hr, hml, hown, hts, hlocks, hK, hA, hSt, hnm, hex⟩ := id F
  intro u0 res hf H locs ls hP hD hS hl
  unfold x_M_add_e10e20 at hf
  refine lv_lconst (v := 0) hx hb d_M_add_0 (by decide) ?_
  refine lv_lstore_n (lv' := [(3, .long (0 : Int64)), (0, .ref b0), (1, .ref b0), (2, .ref b0)]) hx hb d_M_add_1 rfl hl (by decide) rfl (fun ls hl => ?_)
  refine lv_iconst (v := 0) hx hb d_M_add_2 (by decide) ?_
  refine lv_istore (lv' := [(5, .int (0 : Int32)), (3, .long (0 : Int64)), (0, .ref b0), (1, .ref b0), (2, .ref b0)]) hx hb d_M_add_3 hl (by decide) rfl (fun ls hl => ?_)
  exact w_M_add_e10e20_5 F fu _ _ _ _ hf _ _ _ hP hD hS (lv_sub hl [2, 3, 4, 1, 0] rfl)
theorem c_M_add_e10e20 (l : Launch) (D : va_G) (cy : Nat → ClassId) (ad : Nat → Nat) (fu : Nat) (b0 : Nat) (u0 : Nat → Int32) (res : Int32 × (Nat → Int32)) (hf : x_M_add_e10e20 fu u0 = some res) (sz : Nat) : Met l ({ cls := "CoinKeeperModel", name := "add", desc := "([I[I[I)I" } : Jvm.MethodName) (.code ({ cls := "CoinKeeperModel", name := "add", desc := "([I[I[I)I" } : Jvm.MethodName) b_M_add 6 (some .int) :: gw) rm_M_add_e10e20 (va_Pc [.ref b0, .ref b0, .ref b0] (Pr D cy ad [(b0, .inl (cy 1, 8, .inl u0))] sz)) (q_M_add_e10e20 D cy (va_A [(b0, .inl (cy 1, 8, .inl u0))] sz) b0 res) 0 0 (va_A [(b0, .inl (cy 1, 8, .inl u0))] sz) :=
  q_met (Qc := fun A => q_M_add_e10e20 D cy A b0 res) (by decide) rfl rfl (Nat.le_of_ble_eq_true rfl) (fun p e s m below meth c ls F hP hD hS hl => we_M_add_e10e20 (fu := fu) F u0 res hf _ _ _ hP hD hS hl) sz
abbrev b_M_bit : ByteArray := prog_14_method_15_code
theorem d_M_bit_0 : decode b_M_bit 0 = .ok (.aload_n 0, 1) := by decide +kernel
theorem d_M_bit_1 : decode b_M_bit 1 = .ok (.iload_n 1, 1) := by decide +kernel
theorem d_M_bit_2 : decode b_M_bit 2 = .ok (.bipush 32, 2) := by decide +kernel
theorem d_M_bit_4 : decode b_M_bit 4 = .ok (.idiv, 1) := by decide +kernel
theorem d_M_bit_5 : decode b_M_bit 5 = .ok (.iaload, 1) := by decide +kernel
theorem d_M_bit_6 : decode b_M_bit 6 = .ok (.iload_n 1, 1) := by decide +kernel
theorem d_M_bit_7 : decode b_M_bit 7 = .ok (.bipush 32, 2) := by decide +kernel
theorem d_M_bit_9 : decode b_M_bit 9 = .ok (.irem, 1) := by decide +kernel
theorem d_M_bit_10 : decode b_M_bit 10 = .ok (.iushr, 1) := by decide +kernel
theorem d_M_bit_11 : decode b_M_bit 11 = .ok (.iconst 1, 1) := by decide +kernel
theorem d_M_bit_12 : decode b_M_bit 12 = .ok (.iand, 1) := by decide +kernel
theorem d_M_bit_13 : decode b_M_bit 13 = .ok (.ireturn, 1) := by decide +kernel
abbrev rm_M_bit : Room := { frames := 0, cells := 0, slots := 0, locals := 0 }
abbrev q_M_bit (D : va_G) (cy : Nat → ClassId) (A : Nat → Prop) (b0 : Nat) (h0 : Nat → Int32) (res : Int32) : Array Value → State → Outcome → State → Prop := va_Qi (fun r' (_ : Unit) => r' = res) (fun _ t => Po D cy A [(b0, .inl (cy 1, 8, .inl h0))] t) A
def I_M_bit_e (p : Program) (l : Launch) (e : Env) (s : State) (m : MethodId) (args : Array Value) (below : List Frame) (meth : Method) (c : Code) (D : va_G) (cy : Nat → ClassId) (A : Nat → Prop) (ad : Nat → Nat) (b0 : Nat) (h0 : Nat → Int32) (k : Int32 → Option (Int32)) : Prop :=
  ∀ (a1 : Int32) (res : Int32), k a1 = some res → ∀ (H : Heap) (locs : List Loc) (ls : Array Slot), va_P D classes [(b0, .inl (cy 1, 8, .inl h0))] H → va_D A [(b0, .inl (cy 1, 8, .inl h0))] → va_S A s.heap H locs → lv_has ls 2 [(0, .ref b0), (1, .int a1)] → W p l e rm_M_bit s m args below meth c H locs 0 0 (MQ below (q_M_bit D cy A b0 h0 res) args s 0 0 A) (F0 m 0 ls [])
def x_M_bit (fu : Nat) (h0 : Nat → Int32) (a1 : Int32) : Option (Int32) :=
  bnd (a1 / (32 : Int32)) fun v1 => gd (inb v1 8) <| bnd (h0 v1.toNatClampNeg) fun v2 => bnd ((v2.toUInt32 >>> ((a1 - a1 / (32 : Int32) * (32 : Int32)).toUInt32 &&& Int32.toUInt32 31)).toInt32) fun v3 => bnd (v3 &&& (1 : Int32)) fun v4 => some (v4)
set_option maxHeartbeats 8000000 in
set_option maxRecDepth 100000 in
theorem we_M_bit {p : Program} {l : Launch} {e : Env} {s : State} {m : MethodId} {args : Array Value} {below : List Frame} {meth : Method} {c : Code} {D : va_G} {cy : Nat → ClassId} {A : Nat → Prop} {ad : Nat → Nat} {b0 : Nat} {h0 : Nat → Int32} {fu : Nat} (F : Fx p s m args meth c b_M_bit 2 "CoinKeeperModel" "bit" (some .int) D cy ad A) : I_M_bit_e p l e s m args below meth c D cy A ad b0 h0 (x_M_bit fu h0) := by
  obtain ⟨hx, hb, hr, hml, hown, hts, hlocks, hK, hA, hSt, hnm, hex⟩ := id F
  intro a1 res hf H locs ls hP hD hS hl
  unfold x_M_bit at hf
  refine lv_aload_n hx hb d_M_bit_0 rfl (lv_at hl 0 rfl) ?_
  refine lv_iload_n hx hb d_M_bit_1 rfl (lv_at hl 1 rfl) ?_
  refine lv_bipush (v := 32) hx hb d_M_bit_2 (by decide) ?_
  refine lv_idiv hx hb d_M_bit_4 (by decide) ?_
  refine lv_topi (fun v1 ev => ?_)
  have hf := bn ev hf
  clear ev
  obtain ⟨hg, hf⟩ := gdp hf
  refine va_iald hx hb hK hP 0 1 rfl rfl (inb_in hg) d_M_bit_5 ?_
  refine lv_topi (fun v2 ev => ?_)
  have hf := bn ev hf
  clear ev
  refine lv_iload_n hx hb d_M_bit_6 rfl (lv_at hl 1 rfl) ?_
  refine lv_bipush (v := 32) hx hb d_M_bit_7 (by decide) ?_
  refine lv_irem hx hb d_M_bit_9 (by decide) ?_
  refine lv_iushr hx hb d_M_bit_10 rfl ?_
  refine lv_topi (fun v3 ev => ?_)
  have hf := bn ev hf
  clear ev
  refine lv_iconst (v := 1) hx hb d_M_bit_11 (by decide) ?_
  refine lv_iand hx hb d_M_bit_12 ?_
  refine lv_topi (fun v4 ev => ?_)
  have hf := bn ev hf
  clear ev
  obtain rfl := Option.some.inj hf
  exact q_ri hx hb hr hlocks hK hP hD hS d_M_bit_13
theorem c_M_bit (l : Launch) (D : va_G) (cy : Nat → ClassId) (ad : Nat → Nat) (fu : Nat) (b0 : Nat) (h0 : Nat → Int32) (a1 : Int32) (res : Int32) (hf : x_M_bit fu h0 a1 = some res) (sz : Nat) : Met l ({ cls := "CoinKeeperModel", name := "bit", desc := "([II)I" } : Jvm.MethodName) (.code ({ cls := "CoinKeeperModel", name := "bit", desc := "([II)I" } : Jvm.MethodName) b_M_bit 2 (some .int) :: gw) rm_M_bit (va_Pc [.ref b0, .int a1] (Pr D cy ad [(b0, .inl (cy 1, 8, .inl h0))] sz)) (q_M_bit D cy (va_A [(b0, .inl (cy 1, 8, .inl h0))] sz) b0 h0 res) 0 0 (va_A [(b0, .inl (cy 1, 8, .inl h0))] sz) :=
  q_met (Qc := fun A => q_M_bit D cy A b0 h0 res) (by decide) rfl rfl (Nat.le_of_ble_eq_true rfl) (fun p e s m below meth c ls F hP hD hS hl => we_M_bit (fu := fu) F a1 res hf _ _ _ hP hD hS hl) sz
abbrev b_Ig_compare : ByteArray := prog_20_method_40_code
theorem d_Ig_compare_0 : decode b_Ig_compare 0 = .ok (.iload_n 0, 1) := by decide +kernel
theorem d_Ig_compare_1 : decode b_Ig_compare 1 = .ok (.iload_n 1, 1) := by decide +kernel
theorem d_Ig_compare_2 : decode b_Ig_compare 2 = .ok (.if_icmp .ge 7, 3) := by decide +kernel
theorem d_Ig_compare_5 : decode b_Ig_compare 5 = .ok (.iconst (-1), 1) := by decide +kernel
theorem d_Ig_compare_6 : decode b_Ig_compare 6 = .ok (.goto 13, 3) := by decide +kernel
theorem d_Ig_compare_9 : decode b_Ig_compare 9 = .ok (.iload_n 0, 1) := by decide +kernel
theorem d_Ig_compare_10 : decode b_Ig_compare 10 = .ok (.iload_n 1, 1) := by decide +kernel
theorem d_Ig_compare_11 : decode b_Ig_compare 11 = .ok (.if_icmp .ne 7, 3) := by decide +kernel
theorem d_Ig_compare_14 : decode b_Ig_compare 14 = .ok (.iconst 0, 1) := by decide +kernel
theorem d_Ig_compare_15 : decode b_Ig_compare 15 = .ok (.goto 4, 3) := by decide +kernel
theorem d_Ig_compare_18 : decode b_Ig_compare 18 = .ok (.iconst 1, 1) := by decide +kernel
theorem d_Ig_compare_19 : decode b_Ig_compare 19 = .ok (.ireturn, 1) := by decide +kernel
abbrev rm_Ig_compare : Room := { frames := 0, cells := 0, slots := 0, locals := 0 }
abbrev q_Ig_compare (D : va_G) (cy : Nat → ClassId) (A : Nat → Prop) (res : Int32) : Array Value → State → Outcome → State → Prop := va_Qi (fun r' (_ : Unit) => r' = res) (fun _ t => Po D cy A [] t) A
def I_Ig_compare_e (p : Program) (l : Launch) (e : Env) (s : State) (m : MethodId) (args : Array Value) (below : List Frame) (meth : Method) (c : Code) (D : va_G) (cy : Nat → ClassId) (A : Nat → Prop) (ad : Nat → Nat) (k : Int32 → Int32 → Option (Int32)) : Prop :=
  ∀ (a0 : Int32) (a1 : Int32) (res : Int32), k a0 a1 = some res → ∀ (H : Heap) (locs : List Loc) (ls : Array Slot), va_P D classes [] H → va_D A [] → va_S A s.heap H locs → lv_has ls 2 [(0, .int a0), (1, .int a1)] → W p l e rm_Ig_compare s m args below meth c H locs 0 0 (MQ below (q_Ig_compare D cy A res) args s 0 0 A) (F0 m 0 ls [])
def x_Ig_compare (fu : Nat) (a0 : Int32) (a1 : Int32) : Option (Int32) :=
  if a1 ≤ a0 then (if a0 = a1 then (some ((0 : Int32))) else (some ((1 : Int32)))) else (some ((-1 : Int32)))
set_option maxHeartbeats 8000000 in
set_option maxRecDepth 100000 in
theorem we_Ig_compare {p : Program} {l : Launch} {e : Env} {s : State} {m : MethodId} {args : Array Value} {below : List Frame} {meth : Method} {c : Code} {D : va_G} {cy : Nat → ClassId} {A : Nat → Prop} {ad : Nat → Nat} {fu : Nat} (F : Fx p s m args meth c b_Ig_compare 2 "java/lang/Integer" "compare" (some .int) D cy ad A) : I_Ig_compare_e p l e s m args below meth c D cy A ad (x_Ig_compare fu) := by
  obtain ⟨hx, hb, hr, hml, hown, hts, hlocks, hK, hA, hSt, hnm, hex⟩ := id F
  intro a0 a1 res hf H locs ls hP hD hS hl
  unfold x_Ig_compare at hf
  refine lv_iload_n hx hb d_Ig_compare_0 rfl (lv_at hl 0 rfl) ?_
  refine lv_iload_n hx hb d_Ig_compare_1 rfl (lv_at hl 1 rfl) ?_
  refine lv_icmp_ge (tgt := 9) hx hb d_Ig_compare_2 (by decide) (fun cx => ?_) (fun cx => ?_)
  · have hf := ifp cx hf
    refine lv_iload_n hx hb d_Ig_compare_9 rfl (lv_at hl 0 rfl) ?_
    refine lv_iload_n hx hb d_Ig_compare_10 rfl (lv_at hl 1 rfl) ?_
    refine lv_icmp_ne (tgt := 18) hx hb d_Ig_compare_11 (by decide) (fun cx => ?_) (fun cx => ?_)
    · have hf := ifn cx hf
      refine lv_iconst (v := 1) hx hb d_Ig_compare_18 (by decide) ?_
      obtain rfl := Option.some.inj hf
      exact q_ri hx hb hr hlocks hK hP hD hS d_Ig_compare_19
    · have hf := ifp cx hf
      refine lv_iconst (v := 0) hx hb d_Ig_compare_14 (by decide) ?_
      refine lv_goto (tgt := 19) hx hb d_Ig_compare_15 (by decide) ?_
      obtain rfl := Option.some.inj hf
      exact q_ri hx hb hr hlocks hK hP hD hS d_Ig_compare_19
  · have hf := ifn cx hf
    refine lv_iconst (v := (-1)) hx hb d_Ig_compare_5 (by decide) ?_
    refine lv_goto (tgt := 19) hx hb d_Ig_compare_6 (by decide) ?_
    obtain rfl := Option.some.inj hf
    exact q_ri hx hb hr hlocks hK hP hD hS d_Ig_compare_19
theorem c_Ig_compare (l : Launch) (D : va_G) (cy : Nat → ClassId) (ad : Nat → Nat) (fu : Nat) (a0 : Int32) (a1 : Int32) (res : Int32) (hf : x_Ig_compare fu a0 a1 = some res) (sz : Nat) : Met l ({ cls := "java/lang/Integer", name := "compare", desc := "(II)I" } : Jvm.MethodName) (.code ({ cls := "java/lang/Integer", name := "compare", desc := "(II)I" } : Jvm.MethodName) b_Ig_compare 2 (some .int) :: gw) rm_Ig_compare (va_Pc [.int a0, .int a1] (Pr D cy ad [] sz)) (q_Ig_compare D cy (va_A [] sz) res) 0 0 (va_A [] sz) :=
  q_met (Qc := fun A => q_Ig_compare D cy A res) (by decide) rfl rfl (Nat.le_of_ble_eq_true rfl) (fun p e s m below meth c ls F hP hD hS hl => we_Ig_compare (fu := fu) F a0 a1 res hf _ _ _ hP hD hS hl) sz
abbrev b_Ig_compareUnsigned : ByteArray := prog_20_method_41_code
theorem d_Ig_compareUnsigned_0 : decode b_Ig_compareUnsigned 0 = .ok (.iload_n 0, 1) := by decide +kernel
theorem d_Ig_compareUnsigned_1 : decode b_Ig_compareUnsigned 1 = .ok (.ldc 127, 2) := by decide +kernel
theorem d_Ig_compareUnsigned_3 : decode b_Ig_compareUnsigned 3 = .ok (.iadd, 1) := by decide +kernel
theorem d_Ig_compareUnsigned_4 : decode b_Ig_compareUnsigned 4 = .ok (.iload_n 1, 1) := by decide +kernel
theorem d_Ig_compareUnsigned_5 : decode b_Ig_compareUnsigned 5 = .ok (.ldc 127, 2) := by decide +kernel
theorem d_Ig_compareUnsigned_7 : decode b_Ig_compareUnsigned 7 = .ok (.iadd, 1) := by decide +kernel
theorem d_Ig_compareUnsigned_8 : decode b_Ig_compareUnsigned 8 = .ok (.invokestatic 259, 3) := by decide +kernel
theorem d_Ig_compareUnsigned_11 : decode b_Ig_compareUnsigned 11 = .ok (.ireturn, 1) := by decide +kernel
abbrev rm_Ig_compareUnsigned : Room := { frames := 1, cells := 0, slots := 0, locals := 21 }
abbrev q_Ig_compareUnsigned (D : va_G) (cy : Nat → ClassId) (A : Nat → Prop) (res : Int32) : Array Value → State → Outcome → State → Prop := va_Qi (fun r' (_ : Unit) => r' = res) (fun _ t => Po D cy A [] t) A
def I_Ig_compareUnsigned_e (p : Program) (l : Launch) (e : Env) (s : State) (m : MethodId) (args : Array Value) (below : List Frame) (meth : Method) (c : Code) (D : va_G) (cy : Nat → ClassId) (A : Nat → Prop) (ad : Nat → Nat) (k : Int32 → Int32 → Option (Int32)) : Prop :=
  ∀ (a0 : Int32) (a1 : Int32) (res : Int32), k a0 a1 = some res → ∀ (H : Heap) (locs : List Loc) (ls : Array Slot), va_P D classes [] H → va_D A [] → va_S A s.heap H locs → lv_has ls 2 [(0, .int a0), (1, .int a1)] → W p l e rm_Ig_compareUnsigned s m args below meth c H locs 0 0 (MQ below (q_Ig_compareUnsigned D cy A res) args s 0 0 A) (F0 m 0 ls [])
theorem hdc_22 : ({ cls := "java/lang/Integer", name := "compare", desc := "(II)I" } : Jvm.MethodName).cls ≠ "java/lang/invoke/MethodHandle" ∧ ({ cls := "java/lang/Integer", name := "compare", desc := "(II)I" } : Jvm.MethodName).cls ≠ "java/lang/invoke/VarHandle" ∧ (parseMethodDescriptor ({ cls := "java/lang/Integer", name := "compare", desc := "(II)I" } : Jvm.MethodName).desc).map (fun d => d.parameters.length) = some 2 := by decide +kernel
def x_Ig_compareUnsigned (fu : Nat) (a0 : Int32) (a1 : Int32) : Option (Int32) :=
  bnd (a0 + (-2147483648 : Int32)) fun v1 => bnd (a1 + (-2147483648 : Int32)) fun v2 => bd1 (x_Ig_compare fu v1 v2) fun v3 => some (v3)
set_option maxHeartbeats 8000000 in
set_option maxRecDepth 100000 in
theorem we_Ig_compareUnsigned {p : Program} {l : Launch} {e : Env} {s : State} {m : MethodId} {args : Array Value} {below : List Frame} {meth : Method} {c : Code} {D : va_G} {cy : Nat → ClassId} {A : Nat → Prop} {ad : Nat → Nat} {fu : Nat} (F : Fx p s m args meth c b_Ig_compareUnsigned 2 "java/lang/Integer" "compareUnsigned" (some .int) D cy ad A) : I_Ig_compareUnsigned_e p l e s m args below meth c D cy A ad (x_Ig_compareUnsigned fu) := by
  obtain ⟨hx, hb, hr, hml, hown, hts, hlocks, hK, hA, hSt, hnm, hex⟩ := id F
  intro a0 a1 res hf H locs ls hP hD hS hl
  unfold x_Ig_compareUnsigned at hf
  refine lv_iload_n hx hb d_Ig_compareUnsigned_0 rfl (lv_at hl 0 rfl) ?_
  refine lv_ldc (v := (-2147483648)) hx hb hown (hts _ gw_1408) d_Ig_compareUnsigned_1 ?_
  refine lv_iadd hx hb d_Ig_compareUnsigned_3 ?_
  refine lv_topi (fun v1 ev => ?_)
  have hf := bn ev hf
  clear ev
  refine lv_iload_n hx hb d_Ig_compareUnsigned_4 rfl (lv_at hl 1 rfl) ?_
  refine lv_ldc (v := (-2147483648)) hx hb hown (hts _ gw_1408) d_Ig_compareUnsigned_5 ?_
  refine lv_iadd hx hb d_Ig_compareUnsigned_7 ?_
  refine lv_topi (fun v2 ev => ?_)
  have hf := bn ev hf
  clear ev
  obtain ⟨v3, hc, hf⟩ := bdp1 hf
  refine q_ai (wr := []) (va_runS (As := [.int v1, .int v2]) (rest := []) ⟨hx, hb, hml, hown, hts⟩ (c_Ig_compare l D cy ad fu v1 v2 _ hc H.size) ⟨q_cB hts gw_1411 gw_19 gw_1409 hdc_22 ⟨by decide, by decide⟩, hts _ gw_1410⟩ (q_pre (hP.sub [] rfl) (hD.sub [] (by decide) rfl) hK hSt hS (va_free hD hS hA [] rfl) _) rfl rfl hl.1 rfl (lv_room (Nat.le_of_ble_eq_true rfl)) d_Ig_compareUnsigned_8 ⟨Nat.le_of_ble_eq_true rfl, Nat.le_of_ble_eq_true rfl⟩) hP hD hS hA [] [] rfl rfl (by decide) (by decide) (fun H locs hP hD hS => ?_)
  clear hc
  have hP : va_P D classes [] H := hP
  have hD : va_D A [] := hD
  obtain rfl := Option.some.inj hf
  exact q_ri hx hb hr hlocks hK hP hD hS d_Ig_compareUnsigned_11
theorem c_Ig_compareUnsigned (l : Launch) (D : va_G) (cy : Nat → ClassId) (ad : Nat → Nat) (fu : Nat) (a0 : Int32) (a1 : Int32) (res : Int32) (hf : x_Ig_compareUnsigned fu a0 a1 = some res) (sz : Nat) : Met l ({ cls := "java/lang/Integer", name := "compareUnsigned", desc := "(II)I" } : Jvm.MethodName) (.code ({ cls := "java/lang/Integer", name := "compareUnsigned", desc := "(II)I" } : Jvm.MethodName) b_Ig_compareUnsigned 2 (some .int) :: gw) rm_Ig_compareUnsigned (va_Pc [.int a0, .int a1] (Pr D cy ad [] sz)) (q_Ig_compareUnsigned D cy (va_A [] sz) res) 0 0 (va_A [] sz) :=
  q_met (Qc := fun A => q_Ig_compareUnsigned D cy A res) (by decide) rfl rfl (Nat.le_of_ble_eq_true rfl) (fun p e s m below meth c ls F hP hD hS hl => we_Ig_compareUnsigned (fu := fu) F a0 a1 res hf _ _ _ hP hD hS hl) sz
abbrev b_M_compare : ByteArray := prog_14_method_10_code
theorem d_M_compare_0 : decode b_M_compare 0 = .ok (.bipush 7, 2) := by decide +kernel
theorem d_M_compare_2 : decode b_M_compare 2 = .ok (.istore_n 2, 1) := by decide +kernel
theorem d_M_compare_3 : decode b_M_compare 3 = .ok (.iload_n 2, 1) := by decide +kernel
theorem d_M_compare_4 : decode b_M_compare 4 = .ok (.ifCond .lt 28, 3) := by decide +kernel
theorem d_M_compare_7 : decode b_M_compare 7 = .ok (.aload_n 0, 1) := by decide +kernel
theorem d_M_compare_8 : decode b_M_compare 8 = .ok (.iload_n 2, 1) := by decide +kernel
theorem d_M_compare_9 : decode b_M_compare 9 = .ok (.iaload, 1) := by decide +kernel
theorem d_M_compare_10 : decode b_M_compare 10 = .ok (.aload_n 1, 1) := by decide +kernel
theorem d_M_compare_11 : decode b_M_compare 11 = .ok (.iload_n 2, 1) := by decide +kernel
theorem d_M_compare_12 : decode b_M_compare 12 = .ok (.iaload, 1) := by decide +kernel
theorem d_M_compare_13 : decode b_M_compare 13 = .ok (.if_icmp .eq 13, 3) := by decide +kernel
theorem d_M_compare_16 : decode b_M_compare 16 = .ok (.aload_n 0, 1) := by decide +kernel
theorem d_M_compare_17 : decode b_M_compare 17 = .ok (.iload_n 2, 1) := by decide +kernel
theorem d_M_compare_18 : decode b_M_compare 18 = .ok (.iaload, 1) := by decide +kernel
theorem d_M_compare_19 : decode b_M_compare 19 = .ok (.aload_n 1, 1) := by decide +kernel
theorem d_M_compare_20 : decode b_M_compare 20 = .ok (.iload_n 2, 1) := by decide +kernel
theorem d_M_compare_21 : decode b_M_compare 21 = .ok (.iaload, 1) := by decide +kernel
theorem d_M_compare_22 : decode b_M_compare 22 = .ok (.invokestatic 327, 3) := by decide +kernel
theorem d_M_compare_25 : decode b_M_compare 25 = .ok (.ireturn, 1) := by decide +kernel
theorem d_M_compare_26 : decode b_M_compare 26 = .ok (.iinc 2 (-1), 3) := by decide +kernel
theorem d_M_compare_29 : decode b_M_compare 29 = .ok (.goto (-26), 3) := by decide +kernel
theorem d_M_compare_32 : decode b_M_compare 32 = .ok (.iconst 0, 1) := by decide +kernel
theorem d_M_compare_33 : decode b_M_compare 33 = .ok (.ireturn, 1) := by decide +kernel
abbrev rm_M_compare : Room := { frames := 2, cells := 0, slots := 0, locals := 42 }
abbrev q_M_compare (D : va_G) (cy : Nat → ClassId) (A : Nat → Prop) (b0 : Nat) (b1 : Nat) (h0 : Nat → Int32) (h1 : Nat → Int32) (res : Int32) : Array Value → State → Outcome → State → Prop := va_Qi (fun r' (_ : Unit) => r' = res) (fun _ t => Po D cy A [(b0, .inl (cy 1, 8, .inl h0)), (b1, .inl (cy 1, 8, .inl h1))] t) A
def I_M_compare_3 (p : Program) (l : Launch) (e : Env) (s : State) (m : MethodId) (args : Array Value) (below : List Frame) (meth : Method) (c : Code) (D : va_G) (cy : Nat → ClassId) (A : Nat → Prop) (ad : Nat → Nat) (b0 : Nat) (b1 : Nat) (h0 : Nat → Int32) (h1 : Nat → Int32) (k : Int32 → Option (Int32)) : Prop :=
  ∀ (x2 : Int32) (res : Int32), k x2 = some res → ∀ (H : Heap) (locs : List Loc) (ls : Array Slot), va_P D classes [(b0, .inl (cy 1, 8, .inl h0)), (b1, .inl (cy 1, 8, .inl h1))] H → va_D A [(b0, .inl (cy 1, 8, .inl h0)), (b1, .inl (cy 1, 8, .inl h1))] → va_S A s.heap H locs → lv_has ls 3 [(0, .ref b0), (1, .ref b1), (2, .int x2)] → W p l e rm_M_compare s m args below meth c H locs 0 0 (MQ below (q_M_compare D cy A b0 b1 h0 h1 res) args s 0 0 A) (F0 m 3 ls [])
def I_M_compare_e (p : Program) (l : Launch) (e : Env) (s : State) (m : MethodId) (args : Array Value) (below : List Frame) (meth : Method) (c : Code) (D : va_G) (cy : Nat → ClassId) (A : Nat → Prop) (ad : Nat → Nat) (b0 : Nat) (b1 : Nat) (h0 : Nat → Int32) (h1 : Nat → Int32) (k : Option (Int32)) : Prop :=
  ∀ (res : Int32), k  = some res → ∀ (H : Heap) (locs : List Loc) (ls : Array Slot), va_P D classes [(b0, .inl (cy 1, 8, .inl h0)), (b1, .inl (cy 1, 8, .inl h1))] H → va_D A [(b0, .inl (cy 1, 8, .inl h0)), (b1, .inl (cy 1, 8, .inl h1))] → va_S A s.heap H locs → lv_has ls 3 [(0, .ref b0), (1, .ref b1)] → W p l e rm_M_compare s m args below meth c H locs 0 0 (MQ below (q_M_compare D cy A b0 b1 h0 h1 res) args s 0 0 A) (F0 m 0 ls [])
theorem hdc_23 : ({ cls := "java/lang/Integer", name := "compareUnsigned", desc := "(II)I" } : Jvm.MethodName).cls ≠ "java/lang/invoke/MethodHandle" ∧ ({ cls := "java/lang/Integer", name := "compareUnsigned", desc := "(II)I" } : Jvm.MethodName).cls ≠ "java/lang/invoke/VarHandle" ∧ (parseMethodDescriptor ({ cls := "java/lang/Integer", name := "compareUnsigned", desc := "(II)I" } : Jvm.MethodName).desc).map (fun d => d.parameters.length) = some 2 := by decide +kernel
def xb_M_compare_3 (fu : Nat) (h0 : Nat → Int32) (h1 : Nat → Int32) (k_3 : Int32 → Option (Int32)) (x2 : Int32) : Option (Int32) :=
  if x2 < 0 then (some ((0 : Int32))) else (gd (inb x2 8) <| bnd (h0 x2.toNatClampNeg) fun v1 => gd (inb x2 8) <| bnd (h1 x2.toNatClampNeg) fun v2 => if v1 = v2 then (bnd (x2 + (-1 : Int32)) fun v3 => k_3 v3) else (gd (inb x2 8) <| bnd (h0 x2.toNatClampNeg) fun v4 => gd (inb x2 8) <| bnd (h1 x2.toNatClampNeg) fun v5 => bd1 (x_Ig_compareUnsigned fu v4 v5) fun v6 => some (v6)))
set_option maxHeartbeats 8000000 in
set_option maxRecDepth 100000 in
theorem wb_M_compare_3 {p : Program} {l : Launch} {e : Env} {s : State} {m : MethodId} {args : Array Value} {below : List Frame} {meth : Method} {c : Code} {D : va_G} {cy : Nat → ClassId} {A : Nat → Prop} {ad : Nat → Nat} {b0 : Nat} {b1 : Nat} {h0 : Nat → Int32} {h1 : Nat → Int32} {fu : Nat} {k_3 : Int32 → Option (Int32)} (F : Fx p s m args meth c b_M_compare 3 "CoinKeeperModel" "compare" (some .int) D cy ad A) (hk_3 : I_M_compare_3 p l e s m args below meth c D cy A ad b0 b1 h0 h1 k_3) : I_M_compare_3 p l e s m args below meth c D cy A ad b0 b1 h0 h1 (xb_M_compare_3 fu h0 h1 k_3) := by
  obtain ⟨hx, hb, hr, hml, hown, hts, hlocks, hK, hA, hSt, hnm, hex⟩ := id F
  intro x2 res hf H locs ls hP hD hS hl
  unfold xb_M_compare_3 at hf
  refine lv_iload_n hx hb d_M_compare_3 rfl (lv_at hl 2 rfl) ?_
  refine lv_if_lt (tgt := 32) hx hb d_M_compare_4 (by decide) (fun cx => ?_) (fun cx => ?_)
  · have hf := ifp cx hf
    refine lv_iconst (v := 0) hx hb d_M_compare_32 (by decide) ?_
    obtain rfl := Option.some.inj hf
    exact q_ri hx hb hr hlocks hK hP hD hS d_M_compare_33
  · have hf := ifn cx hf
    refine lv_aload_n hx hb d_M_compare_7 rfl (lv_at hl 0 rfl) ?_
    refine lv_iload_n hx hb d_M_compare_8 rfl (lv_at hl 2 rfl) ?_
    obtain ⟨hg, hf⟩ := gdp hf
    refine va_iald hx hb hK hP 0 1 rfl rfl (inb_in hg) d_M_compare_9 ?_
    refine lv_topi (fun v1 ev => ?_)
    have hf := bn ev hf
    clear ev
    refine lv_aload_n hx hb d_M_compare_10 rfl (lv_at hl 1 rfl) ?_
    refine lv_iload_n hx hb d_M_compare_11 rfl (lv_at hl 2 rfl) ?_
    obtain ⟨hg, hf⟩ := gdp hf
    refine va_iald hx hb hK hP 1 1 rfl rfl (inb_in hg) d_M_compare_12 ?_
    refine lv_topi (fun v2 ev => ?_)
    have hf := bn ev hf
    clear ev
    refine lv_icmp_eq (tgt := 26) hx hb d_M_compare_13 (by decide) (fun cx => ?_) (fun cx => ?_)
    · have hf := ifp cx hf
      obtain ⟨v3, ev, hf⟩ := bne hf
      refine lv_iinc (v := v3) (lv' := [(2, .int v3), (0, .ref b0), (1, .ref b1)]) hx hb d_M_compare_26 hl (k := 2) rfl (by rw [ev]; rfl) (by decide) rfl (fun ls hl => ?_)
      clear ev
      refine lv_goto (tgt := 3) hx hb d_M_compare_29 (by decide) ?_
      exact hk_3 _ _ hf _ _ _ hP hD hS (lv_sub hl [1, 2, 0] rfl)
    · have hf := ifn cx hf
      refine lv_aload_n hx hb d_M_compare_16 rfl (lv_at hl 0 rfl) ?_
      refine lv_iload_n hx hb d_M_compare_17 rfl (lv_at hl 2 rfl) ?_
      obtain ⟨hg, hf⟩ := gdp hf
      refine va_iald hx hb hK hP 0 1 rfl rfl (inb_in hg) d_M_compare_18 ?_
      refine lv_topi (fun v4 ev => ?_)
      have hf := bn ev hf
      clear ev
      refine lv_aload_n hx hb d_M_compare_19 rfl (lv_at hl 1 rfl) ?_
      refine lv_iload_n hx hb d_M_compare_20 rfl (lv_at hl 2 rfl) ?_
      obtain ⟨hg, hf⟩ := gdp hf
      refine va_iald hx hb hK hP 1 1 rfl rfl (inb_in hg) d_M_compare_21 ?_
      refine lv_topi (fun v5 ev => ?_)
      have hf := bn ev hf
      clear ev
      obtain ⟨v6, hc, hf⟩ := bdp1 hf
      refine q_ai (wr := [(b0, .inl (cy 1, 8, .inl h0)), (b1, .inl (cy 1, 8, .inl h1))]) (va_runS (As := [.int v4, .int v5]) (rest := []) ⟨hx, hb, hml, hown, hts⟩ (c_Ig_compareUnsigned l D cy ad fu v4 v5 _ hc H.size) ⟨q_cB hts gw_1407 gw_19 gw_1405 hdc_23 ⟨by decide, by decide⟩, hts _ gw_1406⟩ (q_pre (hP.sub [] rfl) (hD.sub [] (by decide) rfl) hK hSt hS (va_free hD hS hA [] rfl) _) rfl rfl hl.1 rfl (lv_room (Nat.le_of_ble_eq_true rfl)) d_M_compare_22 ⟨Nat.le_of_ble_eq_true rfl, Nat.le_of_ble_eq_true rfl⟩) hP hD hS hA [] [0, 1] rfl rfl (by decide) (by decide) (fun H locs hP hD hS => ?_)
      clear hc
      have hP : va_P D classes [(b0, .inl (cy 1, 8, .inl h0)), (b1, .inl (cy 1, 8, .inl h1))] H := hP
      have hD : va_D A [(b0, .inl (cy 1, 8, .inl h0)), (b1, .inl (cy 1, 8, .inl h1))] := hD
      obtain rfl := Option.some.inj hf
      exact q_ri hx hb hr hlocks hK hP hD hS d_M_compare_25
def x_M_compare_3 (fu : Nat) (h0 : Nat → Int32) (h1 : Nat → Int32) : Nat → Int32 → Option (Int32)
  | 0 => fun _ => none
  | n + 1 => xb_M_compare_3 fu h0 h1 (x_M_compare_3 fu h0 h1 n)
theorem w_M_compare_3 {p : Program} {l : Launch} {e : Env} {s : State} {m : MethodId} {args : Array Value} {below : List Frame} {meth : Method} {c : Code} {D : va_G} {cy : Nat → ClassId} {A : Nat → Prop} {ad : Nat → Nat} {b0 : Nat} {b1 : Nat} {h0 : Nat → Int32} {h1 : Nat → Int32} {fu : Nat} (F : Fx p s m args meth c b_M_compare 3 "CoinKeeperModel" "compare" (some .int) D cy ad A) : ∀ n : Nat, I_M_compare_3 p l e s m args below meth c D cy A ad b0 b1 h0 h1 (x_M_compare_3 fu h0 h1 n)
  | 0 => fun _ _ hf => nomatch (show (none : Option (Int32)) = some _ from hf)
  | n + 1 => wb_M_compare_3 F (w_M_compare_3 F n)
def x_M_compare (fu : Nat) (h0 : Nat → Int32) (h1 : Nat → Int32) : Option (Int32) :=
  x_M_compare_3 fu h0 h1 fu (7 : Int32)
set_option maxHeartbeats 8000000 in
set_option maxRecDepth 100000 in
theorem we_M_compare {p : Program} {l : Launch} {e : Env} {s : State} {m : MethodId} {args : Array Value} {below : List Frame} {meth : Method} {c : Code} {D : va_G} {cy : Nat → ClassId} {A : Nat → Prop} {ad : Nat → Nat} {b0 : Nat} {b1 : Nat} {h0 : Nat → Int32} {h1 : Nat → Int32} {fu : Nat} (F : Fx p s m args meth c b_M_compare 3 "CoinKeeperModel" "compare" (some .int) D cy ad A) : I_M_compare_e p l e s m args below meth c D cy A ad b0 b1 h0 h1 (x_M_compare fu h0 h1) := by
  obtain ⟨hx, hb, hr, hml, hown, hts, hlocks, hK, hA, hSt, hnm, hex⟩ := id F
  intro  res hf H locs ls hP hD hS hl
  unfold x_M_compare at hf
  refine lv_bipush (v := 7) hx hb d_M_compare_0 (by decide) ?_
  refine lv_istore_n (lv' := [(2, .int (7 : Int32)), (0, .ref b0), (1, .ref b1)]) hx hb d_M_compare_2 rfl hl (by decide) rfl (fun ls hl => ?_)
  exact w_M_compare_3 F fu _ _ hf _ _ _ hP hD hS (lv_sub hl [1, 2, 0] rfl)
theorem c_M_compare (l : Launch) (D : va_G) (cy : Nat → ClassId) (ad : Nat → Nat) (fu : Nat) (b0 : Nat) (b1 : Nat) (h0 : Nat → Int32) (h1 : Nat → Int32) (res : Int32) (hf : x_M_compare fu h0 h1 = some res) (sz : Nat) : Met l ({ cls := "CoinKeeperModel", name := "compare", desc := "([I[I)I" } : Jvm.MethodName) (.code ({ cls := "CoinKeeperModel", name := "compare", desc := "([I[I)I" } : Jvm.MethodName) b_M_compare 3 (some .int) :: gw) rm_M_compare (va_Pc [.ref b0, .ref b1] (Pr D cy ad [(b0, .inl (cy 1, 8, .inl h0)), (b1, .inl (cy 1, 8, .inl h1))] sz)) (q_M_compare D cy (va_A [(b0, .inl (cy 1, 8, .inl h0)), (b1, .inl (cy 1, 8, .inl h1))] sz) b0 b1 h0 h1 res) 0 0 (va_A [(b0, .inl (cy 1, 8, .inl h0)), (b1, .inl (cy 1, 8, .inl h1))] sz) :=
  q_met (Qc := fun A => q_M_compare D cy A b0 b1 h0 h1 res) (by decide) rfl rfl (Nat.le_of_ble_eq_true rfl) (fun p e s m below meth c ls F hP hD hS hl => we_M_compare (fu := fu) F  res hf _ _ _ hP hD hS hl) sz
abbrev b_M_sub : ByteArray := prog_14_method_13_code
theorem d_M_sub_0 : decode b_M_sub 0 = .ok (.lconst 0, 1) := by decide +kernel
theorem d_M_sub_1 : decode b_M_sub 1 = .ok (.lstore_n 3, 1) := by decide +kernel
theorem d_M_sub_2 : decode b_M_sub 2 = .ok (.iconst 0, 1) := by decide +kernel
theorem d_M_sub_3 : decode b_M_sub 3 = .ok (.istore 5, 2) := by decide +kernel
theorem d_M_sub_5 : decode b_M_sub 5 = .ok (.iload 5, 2) := by decide +kernel
theorem d_M_sub_7 : decode b_M_sub 7 = .ok (.bipush 8, 2) := by decide +kernel
theorem d_M_sub_9 : decode b_M_sub 9 = .ok (.if_icmp .ge 42, 3) := by decide +kernel
theorem d_M_sub_12 : decode b_M_sub 12 = .ok (.aload_n 1, 1) := by decide +kernel
theorem d_M_sub_13 : decode b_M_sub 13 = .ok (.iload 5, 2) := by decide +kernel
theorem d_M_sub_15 : decode b_M_sub 15 = .ok (.iaload, 1) := by decide +kernel
theorem d_M_sub_16 : decode b_M_sub 16 = .ok (.i2l, 1) := by decide +kernel
theorem d_M_sub_17 : decode b_M_sub 17 = .ok (.ldc2_w 332, 3) := by decide +kernel
theorem d_M_sub_20 : decode b_M_sub 20 = .ok (.land, 1) := by decide +kernel
theorem d_M_sub_21 : decode b_M_sub 21 = .ok (.aload_n 2, 1) := by decide +kernel
theorem d_M_sub_22 : decode b_M_sub 22 = .ok (.iload 5, 2) := by decide +kernel
theorem d_M_sub_24 : decode b_M_sub 24 = .ok (.iaload, 1) := by decide +kernel
theorem d_M_sub_25 : decode b_M_sub 25 = .ok (.i2l, 1) := by decide +kernel
theorem d_M_sub_26 : decode b_M_sub 26 = .ok (.ldc2_w 332, 3) := by decide +kernel
theorem d_M_sub_29 : decode b_M_sub 29 = .ok (.land, 1) := by decide +kernel
theorem d_M_sub_30 : decode b_M_sub 30 = .ok (.lsub, 1) := by decide +kernel
theorem d_M_sub_31 : decode b_M_sub 31 = .ok (.lload_n 3, 1) := by decide +kernel
theorem d_M_sub_32 : decode b_M_sub 32 = .ok (.ladd, 1) := by decide +kernel
theorem d_M_sub_33 : decode b_M_sub 33 = .ok (.lstore_n 3, 1) := by decide +kernel
theorem d_M_sub_34 : decode b_M_sub 34 = .ok (.aload_n 0, 1) := by decide +kernel
theorem d_M_sub_35 : decode b_M_sub 35 = .ok (.iload 5, 2) := by decide +kernel
theorem d_M_sub_37 : decode b_M_sub 37 = .ok (.lload_n 3, 1) := by decide +kernel
theorem d_M_sub_38 : decode b_M_sub 38 = .ok (.l2i, 1) := by decide +kernel
theorem d_M_sub_39 : decode b_M_sub 39 = .ok (.iastore, 1) := by decide +kernel
theorem d_M_sub_40 : decode b_M_sub 40 = .ok (.lload_n 3, 1) := by decide +kernel
theorem d_M_sub_41 : decode b_M_sub 41 = .ok (.bipush 32, 2) := by decide +kernel
theorem d_M_sub_43 : decode b_M_sub 43 = .ok (.lshr, 1) := by decide +kernel
theorem d_M_sub_44 : decode b_M_sub 44 = .ok (.lstore_n 3, 1) := by decide +kernel
theorem d_M_sub_45 : decode b_M_sub 45 = .ok (.iinc 5 1, 3) := by decide +kernel
theorem d_M_sub_48 : decode b_M_sub 48 = .ok (.goto (-43), 3) := by decide +kernel
theorem d_M_sub_51 : decode b_M_sub 51 = .ok (.lload_n 3, 1) := by decide +kernel
theorem d_M_sub_52 : decode b_M_sub 52 = .ok (.l2i, 1) := by decide +kernel
theorem d_M_sub_53 : decode b_M_sub 53 = .ok (.ireturn, 1) := by decide +kernel
abbrev rm_M_sub_e10 : Room := { frames := 0, cells := 0, slots := 0, locals := 0 }
abbrev q_M_sub_e10 (D : va_G) (cy : Nat → ClassId) (A : Nat → Prop) (b0 : Nat) (b2 : Nat) (h2 : Nat → Int32) (res : Int32 × (Nat → Int32)) : Array Value → State → Outcome → State → Prop := va_Qi (fun r' (_ : Unit) => r' = res.1) (fun _ t => Po D cy A [(b0, .inl (cy 1, 8, .inl res.2)), (b2, .inl (cy 1, 8, .inl h2))] t) A
def I_M_sub_e10_5 (p : Program) (l : Launch) (e : Env) (s : State) (m : MethodId) (args : Array Value) (below : List Frame) (meth : Method) (c : Code) (D : va_G) (cy : Nat → ClassId) (A : Nat → Prop) (ad : Nat → Nat) (b0 : Nat) (b2 : Nat) (h2 : Nat → Int32) (k : Int64 → Int32 → (Nat → Int32) → Option (Int32 × (Nat → Int32))) : Prop :=
  ∀ (x3 : Int64) (x5 : Int32) (u0 : Nat → Int32) (res : Int32 × (Nat → Int32)), k x3 x5 u0 = some res → ∀ (H : Heap) (locs : List Loc) (ls : Array Slot), va_P D classes [(b0, .inl (cy 1, 8, .inl u0)), (b2, .inl (cy 1, 8, .inl h2))] H → va_D A [(b0, .inl (cy 1, 8, .inl u0)), (b2, .inl (cy 1, 8, .inl h2))] → va_S A s.heap H locs → lv_has ls 6 [(0, .ref b0), (1, .ref b0), (2, .ref b2), (3, .long x3), (5, .int x5)] → W p l e rm_M_sub_e10 s m args below meth c H locs 0 0 (MQ below (q_M_sub_e10 D cy A b0 b2 h2 res) args s 0 0 A) (F0 m 5 ls [])
def I_M_sub_e10_e (p : Program) (l : Launch) (e : Env) (s : State) (m : MethodId) (args : Array Value) (below : List Frame) (meth : Method) (c : Code) (D : va_G) (cy : Nat → ClassId) (A : Nat → Prop) (ad : Nat → Nat) (b0 : Nat) (b2 : Nat) (h2 : Nat → Int32) (k : (Nat → Int32) → Option (Int32 × (Nat → Int32))) : Prop :=
  ∀ (u0 : Nat → Int32) (res : Int32 × (Nat → Int32)), k u0 = some res → ∀ (H : Heap) (locs : List Loc) (ls : Array Slot), va_P D classes [(b0, .inl (cy 1, 8, .inl u0)), (b2, .inl (cy 1, 8, .inl h2))] H → va_D A [(b0, .inl (cy 1, 8, .inl u0)), (b2, .inl (cy 1, 8, .inl h2))] → va_S A s.heap H locs → lv_has ls 6 [(0, .ref b0), (1, .ref b0), (2, .ref b2)] → W p l e rm_M_sub_e10 s m args below meth c H locs 0 0 (MQ below (q_M_sub_e10 D cy A b0 b2 h2 res) args s 0 0 A) (F0 m 0 ls [])
def xb_M_sub_e10_5 (fu : Nat) (h2 : Nat → Int32) (k_5 : Int64 → Int32 → (Nat → Int32) → Option (Int32 × (Nat → Int32))) (x3 : Int64) (x5 : Int32) (u0 : Nat → Int32) : Option (Int32 × (Nat → Int32)) :=
  if (8 : Int32) ≤ x5 then (bnd (x3.toInt32) fun v1 => some (v1, u0)) else (gd (inb x5 8) <| bnd (u0 x5.toNatClampNeg) fun v2 => bnd (v2.toInt64) fun v3 => bnd (v3 &&& (4294967295 : Int64)) fun v4 => gd (inb x5 8) <| bnd (h2 x5.toNatClampNeg) fun v5 => bnd (v5.toInt64) fun v6 => bnd (v4 - (v6 &&& (4294967295 : Int64))) fun v7 => bnd (v7 + x3) fun v8 => bnd (v8.toInt32) fun v9 => gd (inb x5 8) <| bnd (upd u0 x5.toNatClampNeg v9) fun f10 => bnd (v8 >>> ((32 : Int32).toInt64 &&& 63)) fun v11 => bnd (x5 + (1 : Int32)) fun v12 => k_5 v11 v12 f10)
set_option maxHeartbeats 8000000 in
set_option maxRecDepth 100000 in
theorem wb_M_sub_e10_5 {p : Program} {l : Launch} {e : Env} {s : State} {m : MethodId} {args : Array Value} {below : List Frame} {meth : Method} {c : Code} {D : va_G} {cy : Nat → ClassId} {A : Nat → Prop} {ad : Nat → Nat} {b0 : Nat} {b2 : Nat} {h2 : Nat → Int32} {fu : Nat} {k_5 : Int64 → Int32 → (Nat → Int32) → Option (Int32 × (Nat → Int32))} (F : Fx p s m args meth c b_M_sub 6 "CoinKeeperModel" "sub" (some .int) D cy ad A) (hk_5 : I_M_sub_e10_5 p l e s m args below meth c D cy A ad b0 b2 h2 k_5) : I_M_sub_e10_5 p l e s m args below meth c D cy A ad b0 b2 h2 (xb_M_sub_e10_5 fu h2 k_5) := by
  obtain ⟨hx, hb, hr, hml, hown, hts, hlocks, hK, hA, hSt, hnm, hex⟩ := id F
  intro x3 x5 u0 res hf H locs ls hP hD hS hl
  unfold xb_M_sub_e10_5 at hf
  refine lv_iload hx hb d_M_sub_5 (lv_at hl 4 rfl) ?_
  refine lv_bipush (v := 8) hx hb d_M_sub_7 (by decide) ?_
  refine lv_icmp_ge (tgt := 51) hx hb d_M_sub_9 (by decide) (fun cx => ?_) (fun cx => ?_)
  · have hf := ifp cx hf
    refine lv_lload_n hx hb d_M_sub_51 rfl (lv_at hl 3 rfl) ?_
    refine lv_l2i hx hb d_M_sub_52 rfl ?_
    refine lv_topi (fun v1 ev => ?_)
    have hf := bn ev hf
    clear ev
    obtain rfl := Option.some.inj hf
    exact q_ri hx hb hr hlocks hK hP hD hS d_M_sub_53
  · have hf := ifn cx hf
    refine lv_aload_n hx hb d_M_sub_12 rfl (lv_at hl 1 rfl) ?_
    refine lv_iload hx hb d_M_sub_13 (lv_at hl 4 rfl) ?_
    obtain ⟨hg, hf⟩ := gdp hf
    refine va_iald hx hb hK hP 0 1 rfl rfl (inb_in hg) d_M_sub_15 ?_
    refine lv_topi (fun v2 ev => ?_)
    have hf := bn ev hf
    clear ev
    refine lv_i2l hx hb d_M_sub_16 rfl ?_
    refine lv_topl (fun v3 ev => ?_)
    have hf := bn ev hf
    clear ev
    refine lv_ldc2 (v := 4294967295) hx hb hown (hts _ gw_1390) d_M_sub_17 ?_
    refine lv_land hx hb d_M_sub_20 ?_
    refine lv_topl (fun v4 ev => ?_)
    have hf := bn ev hf
    clear ev
    refine lv_aload_n hx hb d_M_sub_21 rfl (lv_at hl 2 rfl) ?_
    refine lv_iload hx hb d_M_sub_22 (lv_at hl 4 rfl) ?_
    obtain ⟨hg, hf⟩ := gdp hf
    refine va_iald hx hb hK hP 1 1 rfl rfl (inb_in hg) d_M_sub_24 ?_
    refine lv_topi (fun v5 ev => ?_)
    have hf := bn ev hf
    clear ev
    refine lv_i2l hx hb d_M_sub_25 rfl ?_
    refine lv_topl (fun v6 ev => ?_)
    have hf := bn ev hf
    clear ev
    refine lv_ldc2 (v := 4294967295) hx hb hown (hts _ gw_1390) d_M_sub_26 ?_
    refine lv_land hx hb d_M_sub_29 ?_
    refine lv_lsub hx hb d_M_sub_30 ?_
    refine lv_topl (fun v7 ev => ?_)
    have hf := bn ev hf
    clear ev
    refine lv_lload_n hx hb d_M_sub_31 rfl (lv_at hl 3 rfl) ?_
    refine lv_ladd hx hb d_M_sub_32 ?_
    refine lv_topl (fun v8 ev => ?_)
    have hf := bn ev hf
    clear ev
    refine lv_lstore_n (lv' := [(3, .long v8), (0, .ref b0), (1, .ref b0), (2, .ref b2), (5, .int x5)]) hx hb d_M_sub_33 rfl hl (by decide) rfl (fun ls hl => ?_)
    refine lv_aload_n hx hb d_M_sub_34 rfl (lv_at hl 1 rfl) ?_
    refine lv_iload hx hb d_M_sub_35 (lv_at hl 4 rfl) ?_
    refine lv_lload_n hx hb d_M_sub_37 rfl (lv_at hl 0 rfl) ?_
    refine lv_l2i hx hb d_M_sub_38 rfl ?_
    refine lv_topi (fun v9 ev => ?_)
    have hf := bn ev hf
    clear ev
    obtain ⟨hg, hf⟩ := gdp hf
    refine va_iast hx hb hK hP hD hS 0 1 rfl rfl (inb_in hg) d_M_sub_39 (fun H locs hP hD hS => ?_)
    obtain ⟨f10, ev, hf⟩ := bne hf
    have hP : va_P D classes [(b0, .inl (cy 1, 8, .inl f10)), (b2, .inl (cy 1, 8, .inl h2))] H := by rw [ev]; exact hP
    have hD : va_D A [(b0, .inl (cy 1, 8, .inl f10)), (b2, .inl (cy 1, 8, .inl h2))] := by rw [ev]; exact hD
    clear ev
    refine lv_lload_n hx hb d_M_sub_40 rfl (lv_at hl 0 rfl) ?_
    refine lv_bipush (v := 32) hx hb d_M_sub_41 (by decide) ?_
    refine lv_lshr hx hb d_M_sub_43 rfl ?_
    refine lv_topl (fun v11 ev => ?_)
    have hf := bn ev hf
    clear ev
    refine lv_lstore_n (lv' := [(3, .long v11), (0, .ref b0), (1, .ref b0), (2, .ref b2), (5, .int x5)]) hx hb d_M_sub_44 rfl hl (by decide) rfl (fun ls hl => ?_)
    obtain ⟨v12, ev, hf⟩ := bne hf
    refine lv_iinc (v := v12) (lv' := [(5, .int v12), (3, .long v11), (0, .ref b0), (1, .ref b0), (2, .ref b2)]) hx hb d_M_sub_45 hl (k := 4) rfl (by rw [ev]; rfl) (by decide) rfl (fun ls hl => ?_)
    clear ev
    refine lv_goto (tgt := 5) hx hb d_M_sub_48 (by decide) ?_
    exact hk_5 _ _ _ _ hf _ _ _ hP hD hS (lv_sub hl [2, 3, 4, 1, 0] rfl)
def x_M_sub_e10_5 (fu : Nat) (h2 : Nat → Int32) : Nat → Int64 → Int32 → (Nat → Int32) → Option (Int32 × (Nat → Int32))
  | 0 => fun _ _ _ => none
  | n + 1 => xb_M_sub_e10_5 fu h2 (x_M_sub_e10_5 fu h2 n)
theorem w_M_sub_e10_5 {p : Program} {l : Launch} {e : Env} {s : State} {m : MethodId} {args : Array Value} {below : List Frame} {meth : Method} {c : Code} {D : va_G} {cy : Nat → ClassId} {A : Nat → Prop} {ad : Nat → Nat} {b0 : Nat} {b2 : Nat} {h2 : Nat → Int32} {fu : Nat} (F : Fx p s m args meth c b_M_sub 6 "CoinKeeperModel" "sub" (some .int) D cy ad A) : ∀ n : Nat, I_M_sub_e10_5 p l e s m args below meth c D cy A ad b0 b2 h2 (x_M_sub_e10_5 fu h2 n)
  | 0 => fun _ _ _ _ hf => nomatch (show (none : Option (Int32 × (Nat → Int32))) = some _ from hf)
  | n + 1 => wb_M_sub_e10_5 F (w_M_sub_e10_5 F n)
def x_M_sub_e10 (fu : Nat) (h2 : Nat → Int32) (u0 : Nat → Int32) : Option (Int32 × (Nat → Int32)) :=
  x_M_sub_e10_5 fu h2 fu (0 : Int64) (0 : Int32) u0
set_option maxHeartbeats 8000000 in
set_option maxRecDepth 100000 in
theorem we_M_sub_e10 {p : Program} {l : Launch} {e : Env} {s : State} {m : MethodId} {args : Array Value} {below : List Frame} {meth : Method} {c : Code} {D : va_G} {cy : Nat → ClassId} {A : Nat → Prop} {ad : Nat → Nat} {b0 : Nat} {b2 : Nat} {h2 : Nat → Int32} {fu : Nat} (F : Fx p s m args meth c b_M_sub 6 "CoinKeeperModel" "sub" (some .int) D cy ad A) : I_M_sub_e10_e p l e s m args below meth c D cy A ad b0 b2 h2 (x_M_sub_e10 fu h2) := by
  obtain ⟨hx, hb, hr, hml, hown, hts, hlocks, hK, hA, hSt, hnm, hex⟩ := id F
  intro u0 res hf H locs ls hP hD hS hl
  unfold x_M_sub_e10 at hf
  refine lv_lconst (v := 0) hx hb d_M_sub_0 (by decide) ?_
  refine lv_lstore_n (lv' := [(3, .long (0 : Int64)), (0, .ref b0), (1, .ref b0), (2, .ref b2)]) hx hb d_M_sub_1 rfl hl (by decide) rfl (fun ls hl => ?_)
  refine lv_iconst (v := 0) hx hb d_M_sub_2 (by decide) ?_
  refine lv_istore (lv' := [(5, .int (0 : Int32)), (3, .long (0 : Int64)), (0, .ref b0), (1, .ref b0), (2, .ref b2)]) hx hb d_M_sub_3 hl (by decide) rfl (fun ls hl => ?_)
  exact w_M_sub_e10_5 F fu _ _ _ _ hf _ _ _ hP hD hS (lv_sub hl [2, 3, 4, 1, 0] rfl)
theorem c_M_sub_e10 (l : Launch) (D : va_G) (cy : Nat → ClassId) (ad : Nat → Nat) (fu : Nat) (b0 : Nat) (b2 : Nat) (h2 : Nat → Int32) (u0 : Nat → Int32) (res : Int32 × (Nat → Int32)) (hf : x_M_sub_e10 fu h2 u0 = some res) (sz : Nat) : Met l ({ cls := "CoinKeeperModel", name := "sub", desc := "([I[I[I)I" } : Jvm.MethodName) (.code ({ cls := "CoinKeeperModel", name := "sub", desc := "([I[I[I)I" } : Jvm.MethodName) b_M_sub 6 (some .int) :: gw) rm_M_sub_e10 (va_Pc [.ref b0, .ref b0, .ref b2] (Pr D cy ad [(b0, .inl (cy 1, 8, .inl u0)), (b2, .inl (cy 1, 8, .inl h2))] sz)) (q_M_sub_e10 D cy (va_A [(b0, .inl (cy 1, 8, .inl u0)), (b2, .inl (cy 1, 8, .inl h2))] sz) b0 b2 h2 res) 0 0 (va_A [(b0, .inl (cy 1, 8, .inl u0)), (b2, .inl (cy 1, 8, .inl h2))] sz) :=
  q_met (Qc := fun A => q_M_sub_e10 D cy A b0 b2 h2 res) (by decide) rfl rfl (Nat.le_of_ble_eq_true rfl) (fun p e s m below meth c ls F hP hD hS hl => we_M_sub_e10 (fu := fu) F u0 res hf _ _ _ hP hD hS hl) sz
abbrev b_M_divide : ByteArray := prog_14_method_16_code
theorem d_M_divide_0 : decode b_M_divide 0 = .ok (.aload_n 0, 1) := by decide +kernel
theorem d_M_divide_1 : decode b_M_divide 1 = .ok (.getfield 136, 3) := by decide +kernel
theorem d_M_divide_4 : decode b_M_divide 4 = .ok (.aload_n 1, 1) := by decide +kernel
theorem d_M_divide_5 : decode b_M_divide 5 = .ok (.invokestatic 334, 3) := by decide +kernel
theorem d_M_divide_8 : decode b_M_divide 8 = .ok (.aload_n 0, 1) := by decide +kernel
theorem d_M_divide_9 : decode b_M_divide 9 = .ok (.getfield 145, 3) := by decide +kernel
theorem d_M_divide_12 : decode b_M_divide 12 = .ok (.aload_n 2, 1) := by decide +kernel
theorem d_M_divide_13 : decode b_M_divide 13 = .ok (.invokestatic 334, 3) := by decide +kernel
theorem d_M_divide_16 : decode b_M_divide 16 = .ok (.iconst 0, 1) := by decide +kernel
theorem d_M_divide_17 : decode b_M_divide 17 = .ok (.istore_n 3, 1) := by decide +kernel
theorem d_M_divide_18 : decode b_M_divide 18 = .ok (.iload_n 3, 1) := by decide +kernel
theorem d_M_divide_19 : decode b_M_divide 19 = .ok (.bipush 8, 2) := by decide +kernel
theorem d_M_divide_21 : decode b_M_divide 21 = .ok (.if_icmp .ge 23, 3) := by decide +kernel
theorem d_M_divide_24 : decode b_M_divide 24 = .ok (.aload_n 0, 1) := by decide +kernel
theorem d_M_divide_25 : decode b_M_divide 25 = .ok (.getfield 139, 3) := by decide +kernel
theorem d_M_divide_28 : decode b_M_divide 28 = .ok (.iload_n 3, 1) := by decide +kernel
theorem d_M_divide_29 : decode b_M_divide 29 = .ok (.iconst 0, 1) := by decide +kernel
theorem d_M_divide_30 : decode b_M_divide 30 = .ok (.iastore, 1) := by decide +kernel
theorem d_M_divide_31 : decode b_M_divide 31 = .ok (.aload_n 0, 1) := by decide +kernel
theorem d_M_divide_32 : decode b_M_divide 32 = .ok (.getfield 142, 3) := by decide +kernel
theorem d_M_divide_35 : decode b_M_divide 35 = .ok (.iload_n 3, 1) := by decide +kernel
theorem d_M_divide_36 : decode b_M_divide 36 = .ok (.iconst 0, 1) := by decide +kernel
theorem d_M_divide_37 : decode b_M_divide 37 = .ok (.iastore, 1) := by decide +kernel
theorem d_M_divide_38 : decode b_M_divide 38 = .ok (.iinc 3 1, 3) := by decide +kernel
theorem d_M_divide_41 : decode b_M_divide 41 = .ok (.goto (-23), 3) := by decide +kernel
theorem d_M_divide_44 : decode b_M_divide 44 = .ok (.sipush 255, 3) := by decide +kernel
theorem d_M_divide_47 : decode b_M_divide 47 = .ok (.istore_n 3, 1) := by decide +kernel
theorem d_M_divide_48 : decode b_M_divide 48 = .ok (.iload_n 3, 1) := by decide +kernel
theorem d_M_divide_49 : decode b_M_divide 49 = .ok (.ifCond .lt 108, 3) := by decide +kernel
theorem d_M_divide_52 : decode b_M_divide 52 = .ok (.aload_n 0, 1) := by decide +kernel
theorem d_M_divide_53 : decode b_M_divide 53 = .ok (.getfield 139, 3) := by decide +kernel
theorem d_M_divide_56 : decode b_M_divide 56 = .ok (.bipush 7, 2) := by decide +kernel
theorem d_M_divide_58 : decode b_M_divide 58 = .ok (.iaload, 1) := by decide +kernel
theorem d_M_divide_59 : decode b_M_divide 59 = .ok (.bipush 31, 2) := by decide +kernel
theorem d_M_divide_61 : decode b_M_divide 61 = .ok (.iushr, 1) := by decide +kernel
theorem d_M_divide_62 : decode b_M_divide 62 = .ok (.istore 4, 2) := by decide +kernel
theorem d_M_divide_64 : decode b_M_divide 64 = .ok (.aload_n 0, 1) := by decide +kernel
theorem d_M_divide_65 : decode b_M_divide 65 = .ok (.getfield 139, 3) := by decide +kernel
theorem d_M_divide_68 : decode b_M_divide 68 = .ok (.aload_n 0, 1) := by decide +kernel
theorem d_M_divide_69 : decode b_M_divide 69 = .ok (.getfield 139, 3) := by decide +kernel
theorem d_M_divide_72 : decode b_M_divide 72 = .ok (.aload_n 0, 1) := by decide +kernel
theorem d_M_divide_73 : decode b_M_divide 73 = .ok (.getfield 139, 3) := by decide +kernel
theorem d_M_divide_76 : decode b_M_divide 76 = .ok (.invokestatic 338, 3) := by decide +kernel
theorem d_M_divide_79 : decode b_M_divide 79 = .ok (.pop, 1) := by decide +kernel
theorem d_M_divide_80 : decode b_M_divide 80 = .ok (.aload_n 0, 1) := by decide +kernel
theorem d_M_divide_81 : decode b_M_divide 81 = .ok (.getfield 139, 3) := by decide +kernel
theorem d_M_divide_84 : decode b_M_divide 84 = .ok (.iconst 0, 1) := by decide +kernel
theorem d_M_divide_85 : decode b_M_divide 85 = .ok (.dup2, 1) := by decide +kernel
theorem d_M_divide_86 : decode b_M_divide 86 = .ok (.iaload, 1) := by decide +kernel
theorem d_M_divide_87 : decode b_M_divide 87 = .ok (.aload_n 0, 1) := by decide +kernel
theorem d_M_divide_88 : decode b_M_divide 88 = .ok (.getfield 136, 3) := by decide +kernel
theorem d_M_divide_91 : decode b_M_divide 91 = .ok (.iload_n 3, 1) := by decide +kernel
theorem d_M_divide_92 : decode b_M_divide 92 = .ok (.invokestatic 342, 3) := by decide +kernel
theorem d_M_divide_95 : decode b_M_divide 95 = .ok (.ior, 1) := by decide +kernel
theorem d_M_divide_96 : decode b_M_divide 96 = .ok (.iastore, 1) := by decide +kernel
theorem d_M_divide_97 : decode b_M_divide 97 = .ok (.iload 4, 2) := by decide +kernel
theorem d_M_divide_99 : decode b_M_divide 99 = .ok (.iconst 1, 1) := by decide +kernel
theorem d_M_divide_100 : decode b_M_divide 100 = .ok (.if_icmp .eq 17, 3) := by decide +kernel
theorem d_M_divide_103 : decode b_M_divide 103 = .ok (.aload_n 0, 1) := by decide +kernel
theorem d_M_divide_104 : decode b_M_divide 104 = .ok (.getfield 139, 3) := by decide +kernel
theorem d_M_divide_107 : decode b_M_divide 107 = .ok (.aload_n 0, 1) := by decide +kernel
theorem d_M_divide_108 : decode b_M_divide 108 = .ok (.getfield 145, 3) := by decide +kernel
theorem d_M_divide_111 : decode b_M_divide 111 = .ok (.invokestatic 346, 3) := by decide +kernel
theorem d_M_divide_114 : decode b_M_divide 114 = .ok (.ifCond .lt 37, 3) := by decide +kernel
theorem d_M_divide_117 : decode b_M_divide 117 = .ok (.aload_n 0, 1) := by decide +kernel
theorem d_M_divide_118 : decode b_M_divide 118 = .ok (.getfield 139, 3) := by decide +kernel
theorem d_M_divide_121 : decode b_M_divide 121 = .ok (.aload_n 0, 1) := by decide +kernel
theorem d_M_divide_122 : decode b_M_divide 122 = .ok (.getfield 139, 3) := by decide +kernel
theorem d_M_divide_125 : decode b_M_divide 125 = .ok (.aload_n 0, 1) := by decide +kernel
theorem d_M_divide_126 : decode b_M_divide 126 = .ok (.getfield 145, 3) := by decide +kernel
theorem d_M_divide_129 : decode b_M_divide 129 = .ok (.invokestatic 350, 3) := by decide +kernel
theorem d_M_divide_132 : decode b_M_divide 132 = .ok (.pop, 1) := by decide +kernel
theorem d_M_divide_133 : decode b_M_divide 133 = .ok (.aload_n 0, 1) := by decide +kernel
theorem d_M_divide_134 : decode b_M_divide 134 = .ok (.getfield 142, 3) := by decide +kernel
theorem d_M_divide_137 : decode b_M_divide 137 = .ok (.iload_n 3, 1) := by decide +kernel
theorem d_M_divide_138 : decode b_M_divide 138 = .ok (.bipush 32, 2) := by decide +kernel
theorem d_M_divide_140 : decode b_M_divide 140 = .ok (.idiv, 1) := by decide +kernel
theorem d_M_divide_141 : decode b_M_divide 141 = .ok (.dup2, 1) := by decide +kernel
theorem d_M_divide_142 : decode b_M_divide 142 = .ok (.iaload, 1) := by decide +kernel
theorem d_M_divide_143 : decode b_M_divide 143 = .ok (.iconst 1, 1) := by decide +kernel
theorem d_M_divide_144 : decode b_M_divide 144 = .ok (.iload_n 3, 1) := by decide +kernel
theorem d_M_divide_145 : decode b_M_divide 145 = .ok (.bipush 32, 2) := by decide +kernel
theorem d_M_divide_147 : decode b_M_divide 147 = .ok (.irem, 1) := by decide +kernel
theorem d_M_divide_148 : decode b_M_divide 148 = .ok (.ishl, 1) := by decide +kernel
theorem d_M_divide_149 : decode b_M_divide 149 = .ok (.ior, 1) := by decide +kernel
theorem d_M_divide_150 : decode b_M_divide 150 = .ok (.iastore, 1) := by decide +kernel
theorem d_M_divide_151 : decode b_M_divide 151 = .ok (.iinc 3 (-1), 3) := by decide +kernel
theorem d_M_divide_154 : decode b_M_divide 154 = .ok (.goto (-106), 3) := by decide +kernel
theorem d_M_divide_157 : decode b_M_divide 157 = .ok (.return_, 1) := by decide +kernel
abbrev rm_M_divide : Room := { frames := 3, cells := 0, slots := 0, locals := 64 }
abbrev q_M_divide (D : va_G) (cy : Nat → ClassId) (A : Nat → Prop) (o : Nat) (q : Nat → Nat) (b1 : Nat) (b2 : Nat) (z : Nat → Int32) (h1 : Nat → Int32) (h2 : Nat → Int32) (res : (Nat → Int32) × (Nat → Int32) × (Nat → Int32) × (Nat → Int32)) : Array Value → State → Outcome → State → Prop := va_Qv (fun (_ : Unit) => True) (fun _ t => Po D cy A [(o, .inr (12, mo q z)), ((q 40), .inl (cy 1, 8, .inl res.1)), ((q 41), .inl (cy 1, 8, .inl res.2.1)), ((q 42), .inl (cy 1, 8, .inl res.2.2.1)), ((q 43), .inl (cy 1, 8, .inl res.2.2.2)), (b1, .inl (cy 1, 8, .inl h1)), (b2, .inl (cy 1, 8, .inl h2))] t) A
def I_M_divide_151 (p : Program) (l : Launch) (e : Env) (s : State) (m : MethodId) (args : Array Value) (below : List Frame) (meth : Method) (c : Code) (D : va_G) (cy : Nat → ClassId) (A : Nat → Prop) (ad : Nat → Nat) (o : Nat) (q : Nat → Nat) (b1 : Nat) (b2 : Nat) (z : Nat → Int32) (h1 : Nat → Int32) (h2 : Nat → Int32) (k : Int32 → (Nat → Int32) → (Nat → Int32) → (Nat → Int32) → (Nat → Int32) → Option ((Nat → Int32) × (Nat → Int32) × (Nat → Int32) × (Nat → Int32))) : Prop :=
  ∀ (x3 : Int32) (u0 : Nat → Int32) (u1 : Nat → Int32) (u2 : Nat → Int32) (u3 : Nat → Int32) (res : (Nat → Int32) × (Nat → Int32) × (Nat → Int32) × (Nat → Int32)), k x3 u0 u1 u2 u3 = some res → ∀ (H : Heap) (locs : List Loc) (ls : Array Slot), va_P D classes [(o, .inr (12, mo q z)), ((q 40), .inl (cy 1, 8, .inl u0)), ((q 41), .inl (cy 1, 8, .inl u1)), ((q 42), .inl (cy 1, 8, .inl u2)), ((q 43), .inl (cy 1, 8, .inl u3)), (b1, .inl (cy 1, 8, .inl h1)), (b2, .inl (cy 1, 8, .inl h2))] H → va_D A [(o, .inr (12, mo q z)), ((q 40), .inl (cy 1, 8, .inl u0)), ((q 41), .inl (cy 1, 8, .inl u1)), ((q 42), .inl (cy 1, 8, .inl u2)), ((q 43), .inl (cy 1, 8, .inl u3)), (b1, .inl (cy 1, 8, .inl h1)), (b2, .inl (cy 1, 8, .inl h2))] → va_S A s.heap H locs → lv_has ls 5 [(0, .ref o), (3, .int x3)] → W p l e rm_M_divide s m args below meth c H locs 0 0 (MQ below (q_M_divide D cy A o q b1 b2 z h1 h2 res) args s 0 0 A) (F0 m 151 ls [])
def I_M_divide_117 (p : Program) (l : Launch) (e : Env) (s : State) (m : MethodId) (args : Array Value) (below : List Frame) (meth : Method) (c : Code) (D : va_G) (cy : Nat → ClassId) (A : Nat → Prop) (ad : Nat → Nat) (o : Nat) (q : Nat → Nat) (b1 : Nat) (b2 : Nat) (z : Nat → Int32) (h1 : Nat → Int32) (h2 : Nat → Int32) (k : Int32 → (Nat → Int32) → (Nat → Int32) → (Nat → Int32) → (Nat → Int32) → Option ((Nat → Int32) × (Nat → Int32) × (Nat → Int32) × (Nat → Int32))) : Prop :=
  ∀ (x3 : Int32) (u0 : Nat → Int32) (u1 : Nat → Int32) (u2 : Nat → Int32) (u3 : Nat → Int32) (res : (Nat → Int32) × (Nat → Int32) × (Nat → Int32) × (Nat → Int32)), k x3 u0 u1 u2 u3 = some res → ∀ (H : Heap) (locs : List Loc) (ls : Array Slot), va_P D classes [(o, .inr (12, mo q z)), ((q 40), .inl (cy 1, 8, .inl u0)), ((q 41), .inl (cy 1, 8, .inl u1)), ((q 42), .inl (cy 1, 8, .inl u2)), ((q 43), .inl (cy 1, 8, .inl u3)), (b1, .inl (cy 1, 8, .inl h1)), (b2, .inl (cy 1, 8, .inl h2))] H → va_D A [(o, .inr (12, mo q z)), ((q 40), .inl (cy 1, 8, .inl u0)), ((q 41), .inl (cy 1, 8, .inl u1)), ((q 42), .inl (cy 1, 8, .inl u2)), ((q 43), .inl (cy 1, 8, .inl u3)), (b1, .inl (cy 1, 8, .inl h1)), (b2, .inl (cy 1, 8, .inl h2))] → va_S A s.heap H locs → lv_has ls 5 [(0, .ref o), (3, .int x3)] → W p l e rm_M_divide s m args below meth c H locs 0 0 (MQ below (q_M_divide D cy A o q b1 b2 z h1 h2 res) args s 0 0 A) (F0 m 117 ls [])
def I_M_divide_48 (p : Program) (l : Launch) (e : Env) (s : State) (m : MethodId) (args : Array Value) (below : List Frame) (meth : Method) (c : Code) (D : va_G) (cy : Nat → ClassId) (A : Nat → Prop) (ad : Nat → Nat) (o : Nat) (q : Nat → Nat) (b1 : Nat) (b2 : Nat) (z : Nat → Int32) (h1 : Nat → Int32) (h2 : Nat → Int32) (k : Int32 → (Nat → Int32) → (Nat → Int32) → (Nat → Int32) → (Nat → Int32) → Option ((Nat → Int32) × (Nat → Int32) × (Nat → Int32) × (Nat → Int32))) : Prop :=
  ∀ (x3 : Int32) (u0 : Nat → Int32) (u1 : Nat → Int32) (u2 : Nat → Int32) (u3 : Nat → Int32) (res : (Nat → Int32) × (Nat → Int32) × (Nat → Int32) × (Nat → Int32)), k x3 u0 u1 u2 u3 = some res → ∀ (H : Heap) (locs : List Loc) (ls : Array Slot), va_P D classes [(o, .inr (12, mo q z)), ((q 40), .inl (cy 1, 8, .inl u0)), ((q 41), .inl (cy 1, 8, .inl u1)), ((q 42), .inl (cy 1, 8, .inl u2)), ((q 43), .inl (cy 1, 8, .inl u3)), (b1, .inl (cy 1, 8, .inl h1)), (b2, .inl (cy 1, 8, .inl h2))] H → va_D A [(o, .inr (12, mo q z)), ((q 40), .inl (cy 1, 8, .inl u0)), ((q 41), .inl (cy 1, 8, .inl u1)), ((q 42), .inl (cy 1, 8, .inl u2)), ((q 43), .inl (cy 1, 8, .inl u3)), (b1, .inl (cy 1, 8, .inl h1)), (b2, .inl (cy 1, 8, .inl h2))] → va_S A s.heap H locs → lv_has ls 5 [(0, .ref o), (3, .int x3)] → W p l e rm_M_divide s m args below meth c H locs 0 0 (MQ below (q_M_divide D cy A o q b1 b2 z h1 h2 res) args s 0 0 A) (F0 m 48 ls [])
def I_M_divide_18 (p : Program) (l : Launch) (e : Env) (s : State) (m : MethodId) (args : Array Value) (below : List Frame) (meth : Method) (c : Code) (D : va_G) (cy : Nat → ClassId) (A : Nat → Prop) (ad : Nat → Nat) (o : Nat) (q : Nat → Nat) (b1 : Nat) (b2 : Nat) (z : Nat → Int32) (h1 : Nat → Int32) (h2 : Nat → Int32) (k : Int32 → (Nat → Int32) → (Nat → Int32) → (Nat → Int32) → (Nat → Int32) → Option ((Nat → Int32) × (Nat → Int32) × (Nat → Int32) × (Nat → Int32))) : Prop :=
  ∀ (x3 : Int32) (u0 : Nat → Int32) (u1 : Nat → Int32) (u2 : Nat → Int32) (u3 : Nat → Int32) (res : (Nat → Int32) × (Nat → Int32) × (Nat → Int32) × (Nat → Int32)), k x3 u0 u1 u2 u3 = some res → ∀ (H : Heap) (locs : List Loc) (ls : Array Slot), va_P D classes [(o, .inr (12, mo q z)), ((q 40), .inl (cy 1, 8, .inl u0)), ((q 41), .inl (cy 1, 8, .inl u1)), ((q 42), .inl (cy 1, 8, .inl u2)), ((q 43), .inl (cy 1, 8, .inl u3)), (b1, .inl (cy 1, 8, .inl h1)), (b2, .inl (cy 1, 8, .inl h2))] H → va_D A [(o, .inr (12, mo q z)), ((q 40), .inl (cy 1, 8, .inl u0)), ((q 41), .inl (cy 1, 8, .inl u1)), ((q 42), .inl (cy 1, 8, .inl u2)), ((q 43), .inl (cy 1, 8, .inl u3)), (b1, .inl (cy 1, 8, .inl h1)), (b2, .inl (cy 1, 8, .inl h2))] → va_S A s.heap H locs → lv_has ls 5 [(0, .ref o), (3, .int x3)] → W p l e rm_M_divide s m args below meth c H locs 0 0 (MQ below (q_M_divide D cy A o q b1 b2 z h1 h2 res) args s 0 0 A) (F0 m 18 ls [])
def I_M_divide_e (p : Program) (l : Launch) (e : Env) (s : State) (m : MethodId) (args : Array Value) (below : List Frame) (meth : Method) (c : Code) (D : va_G) (cy : Nat → ClassId) (A : Nat → Prop) (ad : Nat → Nat) (o : Nat) (q : Nat → Nat) (b1 : Nat) (b2 : Nat) (z : Nat → Int32) (h1 : Nat → Int32) (h2 : Nat → Int32) (k : (Nat → Int32) → (Nat → Int32) → (Nat → Int32) → (Nat → Int32) → Option ((Nat → Int32) × (Nat → Int32) × (Nat → Int32) × (Nat → Int32))) : Prop :=
  ∀ (u0 : Nat → Int32) (u1 : Nat → Int32) (u2 : Nat → Int32) (u3 : Nat → Int32) (res : (Nat → Int32) × (Nat → Int32) × (Nat → Int32) × (Nat → Int32)), k u0 u1 u2 u3 = some res → ∀ (H : Heap) (locs : List Loc) (ls : Array Slot), va_P D classes [(o, .inr (12, mo q z)), ((q 40), .inl (cy 1, 8, .inl u0)), ((q 41), .inl (cy 1, 8, .inl u1)), ((q 42), .inl (cy 1, 8, .inl u2)), ((q 43), .inl (cy 1, 8, .inl u3)), (b1, .inl (cy 1, 8, .inl h1)), (b2, .inl (cy 1, 8, .inl h2))] H → va_D A [(o, .inr (12, mo q z)), ((q 40), .inl (cy 1, 8, .inl u0)), ((q 41), .inl (cy 1, 8, .inl u1)), ((q 42), .inl (cy 1, 8, .inl u2)), ((q 43), .inl (cy 1, 8, .inl u3)), (b1, .inl (cy 1, 8, .inl h1)), (b2, .inl (cy 1, 8, .inl h2))] → va_S A s.heap H locs → lv_has ls 5 [(0, .ref o), (1, .ref b1), (2, .ref b2)] → W p l e rm_M_divide s m args below meth c H locs 0 0 (MQ below (q_M_divide D cy A o q b1 b2 z h1 h2 res) args s 0 0 A) (F0 m 0 ls [])
def xb_M_divide_151 (fu : Nat) (z : Nat → Int32) (h1 : Nat → Int32) (h2 : Nat → Int32) (k_48 : Int32 → (Nat → Int32) → (Nat → Int32) → (Nat → Int32) → (Nat → Int32) → Option ((Nat → Int32) × (Nat → Int32) × (Nat → Int32) × (Nat → Int32))) (x3 : Int32) (u0 : Nat → Int32) (u1 : Nat → Int32) (u2 : Nat → Int32) (u3 : Nat → Int32) : Option ((Nat → Int32) × (Nat → Int32) × (Nat → Int32) × (Nat → Int32)) :=
  bnd (x3 + (-1 : Int32)) fun v1 => k_48 v1 u0 u1 u2 u3
set_option maxHeartbeats 8000000 in
set_option maxRecDepth 100000 in
theorem wb_M_divide_151 {p : Program} {l : Launch} {e : Env} {s : State} {m : MethodId} {args : Array Value} {below : List Frame} {meth : Method} {c : Code} {D : va_G} {cy : Nat → ClassId} {A : Nat → Prop} {ad : Nat → Nat} {o : Nat} {q : Nat → Nat} {b1 : Nat} {b2 : Nat} {z : Nat → Int32} {h1 : Nat → Int32} {h2 : Nat → Int32} {fu : Nat} {k_48 : Int32 → (Nat → Int32) → (Nat → Int32) → (Nat → Int32) → (Nat → Int32) → Option ((Nat → Int32) × (Nat → Int32) × (Nat → Int32) × (Nat → Int32))} (F : Fx p s m args meth c b_M_divide 5 "CoinKeeperModel" "divide" none D cy ad A) (hk_48 : I_M_divide_48 p l e s m args below meth c D cy A ad o q b1 b2 z h1 h2 k_48) : I_M_divide_151 p l e s m args below meth c D cy A ad o q b1 b2 z h1 h2 (xb_M_divide_151 fu z h1 h2 k_48) := by
  obtain ⟨hx, hb, hr, hml, hown, hts, hlocks, hK, hA, hSt, hnm, hex⟩ := id F
  intro x3 u0 u1 u2 u3 res hf H locs ls hP hD hS hl
  unfold xb_M_divide_151 at hf
  obtain ⟨v1, ev, hf⟩ := bne hf
  refine lv_iinc (v := v1) (lv' := [(3, .int v1), (0, .ref o)]) hx hb d_M_divide_151 hl (k := 1) rfl (by rw [ev]; rfl) (by decide) rfl (fun ls hl => ?_)
  clear ev
  refine lv_goto (tgt := 48) hx hb d_M_divide_154 (by decide) ?_
  exact hk_48 _ _ _ _ _ _ hf _ _ _ hP hD hS (lv_sub hl [1, 0] rfl)
theorem hdc_24 : ({ cls := "CoinKeeperModel", name := "sub", desc := "([I[I[I)I" } : Jvm.MethodName).cls ≠ "java/lang/invoke/MethodHandle" ∧ ({ cls := "CoinKeeperModel", name := "sub", desc := "([I[I[I)I" } : Jvm.MethodName).cls ≠ "java/lang/invoke/VarHandle" ∧ (parseMethodDescriptor ({ cls := "CoinKeeperModel", name := "sub", desc := "([I[I[I)I" } : Jvm.MethodName).desc).map (fun d => d.parameters.length) = some 3 := by decide +kernel
def xb_M_divide_117 (fu : Nat) (z : Nat → Int32) (h1 : Nat → Int32) (h2 : Nat → Int32) (k_48 : Int32 → (Nat → Int32) → (Nat → Int32) → (Nat → Int32) → (Nat → Int32) → Option ((Nat → Int32) × (Nat → Int32) × (Nat → Int32) × (Nat → Int32))) (x3 : Int32) (u0 : Nat → Int32) (u1 : Nat → Int32) (u2 : Nat → Int32) (u3 : Nat → Int32) : Option ((Nat → Int32) × (Nat → Int32) × (Nat → Int32) × (Nat → Int32)) :=
  bd2 (x_M_sub_e10 fu u3 u1) fun v1 f2 => bnd (x3 / (32 : Int32)) fun v3 => gd (inb v3 8) <| bnd (u2 v3.toNatClampNeg) fun v4 => bnd (v4 ||| ((1 : Int32) <<< ((x3 - x3 / (32 : Int32) * (32 : Int32)) &&& 31))) fun v5 => gd (inb v3 8) <| bnd (upd u2 v3.toNatClampNeg v5) fun f6 => xb_M_divide_151 fu z h1 h2 k_48 x3 u0 f2 f6 u3
set_option maxHeartbeats 8000000 in
set_option maxRecDepth 100000 in
theorem wb_M_divide_117 {p : Program} {l : Launch} {e : Env} {s : State} {m : MethodId} {args : Array Value} {below : List Frame} {meth : Method} {c : Code} {D : va_G} {cy : Nat → ClassId} {A : Nat → Prop} {ad : Nat → Nat} {o : Nat} {q : Nat → Nat} {b1 : Nat} {b2 : Nat} {z : Nat → Int32} {h1 : Nat → Int32} {h2 : Nat → Int32} {fu : Nat} {k_48 : Int32 → (Nat → Int32) → (Nat → Int32) → (Nat → Int32) → (Nat → Int32) → Option ((Nat → Int32) × (Nat → Int32) × (Nat → Int32) × (Nat → Int32))} (F : Fx p s m args meth c b_M_divide 5 "CoinKeeperModel" "divide" none D cy ad A) (hk_48 : I_M_divide_48 p l e s m args below meth c D cy A ad o q b1 b2 z h1 h2 k_48) : I_M_divide_117 p l e s m args below meth c D cy A ad o q b1 b2 z h1 h2 (xb_M_divide_117 fu z h1 h2 k_48) := by
  obtain ⟨hx, hb, hr, hml, hown, hts, hlocks, hK, hA, hSt, hnm, hex⟩ := id F
  intro x3 u0 u1 u2 u3 res hf H locs ls hP hD hS hl
  unfold xb_M_divide_117 at hf
  refine lv_aload_n hx hb d_M_divide_117 rfl (lv_at hl 0 rfl) ?_
  refine va_get (D := D) (ci := 12) (v := .ref (q 41)) (C := "CoinKeeperModel") (T := F_12) (N := 98) hx hb hts i_12 hown hK hP 0 rfl rfl 49 (by decide) (hts _ gw_1468) (fun _ h9 => h9) rfl d_M_divide_118 ?_
  refine lv_aload_n hx hb d_M_divide_121 rfl (lv_at hl 0 rfl) ?_
  refine va_get (D := D) (ci := 12) (v := .ref (q 41)) (C := "CoinKeeperModel") (T := F_12) (N := 98) hx hb hts i_12 hown hK hP 0 rfl rfl 49 (by decide) (hts _ gw_1468) (fun _ h9 => h9) rfl d_M_divide_122 ?_
  refine lv_aload_n hx hb d_M_divide_125 rfl (lv_at hl 0 rfl) ?_
  refine va_get (D := D) (ci := 12) (v := .ref (q 43)) (C := "CoinKeeperModel") (T := F_12) (N := 98) hx hb hts i_12 hown hK hP 0 rfl rfl 51 (by decide) (hts _ gw_1470) (fun _ h9 => h9) rfl d_M_divide_126 ?_
  obtain ⟨v1, f2, hc, hf⟩ := bdp2 hf
  refine q_ai (wr := [(o, .inr (12, mo q z)), ((q 40), .inl (cy 1, 8, .inl u0)), ((q 42), .inl (cy 1, 8, .inl u2)), (b1, .inl (cy 1, 8, .inl h1)), (b2, .inl (cy 1, 8, .inl h2))]) (va_runS (As := [.ref (q 41), .ref (q 41), .ref (q 43)]) (rest := []) ⟨hx, hb, hml, hown, hts⟩ (c_M_sub_e10 l D cy ad fu (q 41) (q 43) u3 u1 _ hc H.size) ⟨q_cB hts gw_1414 gw_18 gw_1412 hdc_24 ⟨by decide, by decide⟩, hts _ gw_1413⟩ (q_pre (hP.sub [2, 4] rfl) (hD.sub [2, 4] (by decide) rfl) hK hSt hS (va_free hD hS hA [2, 4] rfl) _) rfl rfl hl.1 rfl (lv_room (Nat.le_of_ble_eq_true rfl)) d_M_divide_129 ⟨Nat.le_of_ble_eq_true rfl, Nat.le_of_ble_eq_true rfl⟩) hP hD hS hA [2, 4] [0, 1, 3, 5, 6] rfl rfl (by decide) (by decide) (fun H locs hP hD hS => ?_)
  clear hc
  have hP : va_P D classes [(o, .inr (12, mo q z)), ((q 40), .inl (cy 1, 8, .inl u0)), ((q 42), .inl (cy 1, 8, .inl u2)), (b1, .inl (cy 1, 8, .inl h1)), (b2, .inl (cy 1, 8, .inl h2)), ((q 41), .inl (cy 1, 8, .inl f2)), ((q 43), .inl (cy 1, 8, .inl u3))] H := hP
  have hD : va_D A [(o, .inr (12, mo q z)), ((q 40), .inl (cy 1, 8, .inl u0)), ((q 42), .inl (cy 1, 8, .inl u2)), (b1, .inl (cy 1, 8, .inl h1)), (b2, .inl (cy 1, 8, .inl h2)), ((q 41), .inl (cy 1, 8, .inl f2)), ((q 43), .inl (cy 1, 8, .inl u3))] := hD
  refine lv_pop hx hb d_M_divide_132 rfl ?_
  refine lv_aload_n hx hb d_M_divide_133 rfl (lv_at hl 0 rfl) ?_
  refine va_get (D := D) (ci := 12) (v := .ref (q 42)) (C := "CoinKeeperModel") (T := F_12) (N := 98) hx hb hts i_12 hown hK hP 0 rfl rfl 50 (by decide) (hts _ gw_1469) (fun _ h9 => h9) rfl d_M_divide_134 ?_
  refine lv_iload_n hx hb d_M_divide_137 rfl (lv_at hl 1 rfl) ?_
  refine lv_bipush (v := 32) hx hb d_M_divide_138 (by decide) ?_
  refine lv_idiv hx hb d_M_divide_140 (by decide) ?_
  refine lv_topi (fun v3 ev => ?_)
  have hf := bn ev hf
  clear ev
  refine lv_dup2_11 hx hb d_M_divide_141 rfl rfl ?_
  obtain ⟨hg, hf⟩ := gdp hf
  refine va_iald hx hb hK hP 2 1 rfl rfl (inb_in hg) d_M_divide_142 ?_
  refine lv_topi (fun v4 ev => ?_)
  have hf := bn ev hf
  clear ev
  refine lv_iconst (v := 1) hx hb d_M_divide_143 (by decide) ?_
  refine lv_iload_n hx hb d_M_divide_144 rfl (lv_at hl 1 rfl) ?_
  refine lv_bipush (v := 32) hx hb d_M_divide_145 (by decide) ?_
  refine lv_irem hx hb d_M_divide_147 (by decide) ?_
  refine lv_ishl hx hb d_M_divide_148 ?_
  refine lv_ior hx hb d_M_divide_149 ?_
  refine lv_topi (fun v5 ev => ?_)
  have hf := bn ev hf
  clear ev
  obtain ⟨hg, hf⟩ := gdp hf
  refine va_iast hx hb hK hP hD hS 2 1 rfl rfl (inb_in hg) d_M_divide_150 (fun H locs hP hD hS => ?_)
  obtain ⟨f6, ev, hf⟩ := bne hf
  have hP : va_P D classes [(o, .inr (12, mo q z)), ((q 40), .inl (cy 1, 8, .inl u0)), ((q 42), .inl (cy 1, 8, .inl f6)), (b1, .inl (cy 1, 8, .inl h1)), (b2, .inl (cy 1, 8, .inl h2)), ((q 41), .inl (cy 1, 8, .inl f2)), ((q 43), .inl (cy 1, 8, .inl u3))] H := by rw [ev]; exact hP
  have hD : va_D A [(o, .inr (12, mo q z)), ((q 40), .inl (cy 1, 8, .inl u0)), ((q 42), .inl (cy 1, 8, .inl f6)), (b1, .inl (cy 1, 8, .inl h1)), (b2, .inl (cy 1, 8, .inl h2)), ((q 41), .inl (cy 1, 8, .inl f2)), ((q 43), .inl (cy 1, 8, .inl u3))] := by rw [ev]; exact hD
  clear ev
  exact wb_M_divide_151 (fu := fu) F hk_48 _ _ _ _ _ _ hf _ _ _ (hP.sub (ws' := [(o, .inr (12, mo q z)), ((q 40), .inl (cy 1, 8, .inl u0)), ((q 41), .inl (cy 1, 8, .inl f2)), ((q 42), .inl (cy 1, 8, .inl f6)), ((q 43), .inl (cy 1, 8, .inl u3)), (b1, .inl (cy 1, 8, .inl h1)), (b2, .inl (cy 1, 8, .inl h2))]) [0, 1, 5, 2, 6, 3, 4] rfl) (hD.sub (ws' := [(o, .inr (12, mo q z)), ((q 40), .inl (cy 1, 8, .inl u0)), ((q 41), .inl (cy 1, 8, .inl f2)), ((q 42), .inl (cy 1, 8, .inl f6)), ((q 43), .inl (cy 1, 8, .inl u3)), (b1, .inl (cy 1, 8, .inl h1)), (b2, .inl (cy 1, 8, .inl h2))]) [0, 1, 5, 2, 6, 3, 4] (by decide) rfl) hS (lv_sub hl [0, 1] rfl)
theorem hdc_25 : ({ cls := "CoinKeeperModel", name := "add", desc := "([I[I[I)I" } : Jvm.MethodName).cls ≠ "java/lang/invoke/MethodHandle" ∧ ({ cls := "CoinKeeperModel", name := "add", desc := "([I[I[I)I" } : Jvm.MethodName).cls ≠ "java/lang/invoke/VarHandle" ∧ (parseMethodDescriptor ({ cls := "CoinKeeperModel", name := "add", desc := "([I[I[I)I" } : Jvm.MethodName).desc).map (fun d => d.parameters.length) = some 3 := by decide +kernel
theorem hdc_26 : ({ cls := "CoinKeeperModel", name := "bit", desc := "([II)I" } : Jvm.MethodName).cls ≠ "java/lang/invoke/MethodHandle" ∧ ({ cls := "CoinKeeperModel", name := "bit", desc := "([II)I" } : Jvm.MethodName).cls ≠ "java/lang/invoke/VarHandle" ∧ (parseMethodDescriptor ({ cls := "CoinKeeperModel", name := "bit", desc := "([II)I" } : Jvm.MethodName).desc).map (fun d => d.parameters.length) = some 2 := by decide +kernel
theorem hdc_27 : ({ cls := "CoinKeeperModel", name := "compare", desc := "([I[I)I" } : Jvm.MethodName).cls ≠ "java/lang/invoke/MethodHandle" ∧ ({ cls := "CoinKeeperModel", name := "compare", desc := "([I[I)I" } : Jvm.MethodName).cls ≠ "java/lang/invoke/VarHandle" ∧ (parseMethodDescriptor ({ cls := "CoinKeeperModel", name := "compare", desc := "([I[I)I" } : Jvm.MethodName).desc).map (fun d => d.parameters.length) = some 2 := by decide +kernel
def xb_M_divide_48 (fu : Nat) (z : Nat → Int32) (h1 : Nat → Int32) (h2 : Nat → Int32) (k_48 : Int32 → (Nat → Int32) → (Nat → Int32) → (Nat → Int32) → (Nat → Int32) → Option ((Nat → Int32) × (Nat → Int32) × (Nat → Int32) × (Nat → Int32))) (x3 : Int32) (u0 : Nat → Int32) (u1 : Nat → Int32) (u2 : Nat → Int32) (u3 : Nat → Int32) : Option ((Nat → Int32) × (Nat → Int32) × (Nat → Int32) × (Nat → Int32)) :=
  if x3 < 0 then (some (u0, u1, u2, u3)) else (bnd (u1 (7 : Int32).toNatClampNeg) fun v1 => bnd ((v1.toUInt32 >>> ((31 : Int32).toUInt32 &&& Int32.toUInt32 31)).toInt32) fun v2 => bd2 (x_M_add_e10e20 fu u1) fun v3 f4 => bnd (f4 (0 : Int32).toNatClampNeg) fun v5 => bd1 (x_M_bit fu u0 x3) fun v6 => bnd (v5 ||| v6) fun v7 => bnd (upd f4 (0 : Int32).toNatClampNeg v7) fun f8 => if v2 = (1 : Int32) then (xb_M_divide_117 fu z h1 h2 k_48 x3 u0 f8 u2 u3) else (bd1 (x_M_compare fu f8 u3) fun v9 => if v9 < 0 then (xb_M_divide_151 fu z h1 h2 k_48 x3 u0 f8 u2 u3) else (xb_M_divide_117 fu z h1 h2 k_48 x3 u0 f8 u2 u3)))
set_option maxHeartbeats 8000000 in
set_option maxRecDepth 100000 in
theorem wb_M_divide_48 {p : Program} {l : Launch} {e : Env} {s : State} {m : MethodId} {args : Array Value} {below : List Frame} {meth : Method} {c : Code} {D : va_G} {cy : Nat → ClassId} {A : Nat → Prop} {ad : Nat → Nat} {o : Nat} {q : Nat → Nat} {b1 : Nat} {b2 : Nat} {z : Nat → Int32} {h1 : Nat → Int32} {h2 : Nat → Int32} {fu : Nat} {k_48 : Int32 → (Nat → Int32) → (Nat → Int32) → (Nat → Int32) → (Nat → Int32) → Option ((Nat → Int32) × (Nat → Int32) × (Nat → Int32) × (Nat → Int32))} (F : Fx p s m args meth c b_M_divide 5 "CoinKeeperModel" "divide" none D cy ad A) (hk_48 : I_M_divide_48 p l e s m args below meth c D cy A ad o q b1 b2 z h1 h2 k_48) : I_M_divide_48 p l e s m args below meth c D cy A ad o q b1 b2 z h1 h2 (xb_M_divide_48 fu z h1 h2 k_48) := by
  obtain ⟨hx, hb, hr, hml, hown, hts, hlocks, hK, hA, hSt, hnm, hex⟩ := id F
  intro x3 u0 u1 u2 u3 res hf H locs ls hP hD hS hl
  unfold xb_M_divide_48 at hf
  refine lv_iload_n hx hb d_M_divide_48 rfl (lv_at hl 1 rfl) ?_
  refine lv_if_lt (tgt := 157) hx hb d_M_divide_49 (by decide) (fun cx => ?_) (fun cx => ?_)
  · have hf := ifp cx hf
    obtain rfl := Option.some.inj hf
    exact q_rv hx hb hr hlocks hK hP hD hS d_M_divide_157
  · have hf := ifn cx hf
    refine lv_aload_n hx hb d_M_divide_52 rfl (lv_at hl 0 rfl) ?_
    refine va_get (D := D) (ci := 12) (v := .ref (q 41)) (C := "CoinKeeperModel") (T := F_12) (N := 98) hx hb hts i_12 hown hK hP 0 rfl rfl 49 (by decide) (hts _ gw_1468) (fun _ h9 => h9) rfl d_M_divide_53 ?_
    refine lv_bipush (v := 7) hx hb d_M_divide_56 (by decide) ?_
    refine va_iald hx hb hK hP 2 1 rfl rfl (inb_in (by decide)) d_M_divide_58 ?_
    refine lv_topi (fun v1 ev => ?_)
    have hf := bn ev hf
    clear ev
    refine lv_bipush (v := 31) hx hb d_M_divide_59 (by decide) ?_
    refine lv_iushr hx hb d_M_divide_61 rfl ?_
    refine lv_topi (fun v2 ev => ?_)
    have hf := bn ev hf
    clear ev
    refine lv_istore (lv' := [(4, .int v2), (0, .ref o), (3, .int x3)]) hx hb d_M_divide_62 hl (by decide) rfl (fun ls hl => ?_)
    refine lv_aload_n hx hb d_M_divide_64 rfl (lv_at hl 1 rfl) ?_
    refine va_get (D := D) (ci := 12) (v := .ref (q 41)) (C := "CoinKeeperModel") (T := F_12) (N := 98) hx hb hts i_12 hown hK hP 0 rfl rfl 49 (by decide) (hts _ gw_1468) (fun _ h9 => h9) rfl d_M_divide_65 ?_
    refine lv_aload_n hx hb d_M_divide_68 rfl (lv_at hl 1 rfl) ?_
    refine va_get (D := D) (ci := 12) (v := .ref (q 41)) (C := "CoinKeeperModel") (T := F_12) (N := 98) hx hb hts i_12 hown hK hP 0 rfl rfl 49 (by decide) (hts _ gw_1468) (fun _ h9 => h9) rfl d_M_divide_69 ?_
    refine lv_aload_n hx hb d_M_divide_72 rfl (lv_at hl 1 rfl) ?_
    refine va_get (D := D) (ci := 12) (v := .ref (q 41)) (C := "CoinKeeperModel") (T := F_12) (N := 98) hx hb hts i_12 hown hK hP 0 rfl rfl 49 (by decide) (hts _ gw_1468) (fun _ h9 => h9) rfl d_M_divide_73 ?_
    obtain ⟨v3, f4, hc, hf⟩ := bdp2 hf
    refine q_ai (wr := [(o, .inr (12, mo q z)), ((q 40), .inl (cy 1, 8, .inl u0)), ((q 42), .inl (cy 1, 8, .inl u2)), ((q 43), .inl (cy 1, 8, .inl u3)), (b1, .inl (cy 1, 8, .inl h1)), (b2, .inl (cy 1, 8, .inl h2))]) (va_runS (As := [.ref (q 41), .ref (q 41), .ref (q 41)]) (rest := []) ⟨hx, hb, hml, hown, hts⟩ (c_M_add_e10e20 l D cy ad fu (q 41) u1 _ hc H.size) ⟨q_cB hts gw_1389 gw_18 gw_1387 hdc_25 ⟨by decide, by decide⟩, hts _ gw_1388⟩ (q_pre (hP.sub [2] rfl) (hD.sub [2] (by decide) rfl) hK hSt hS (va_free hD hS hA [2] rfl) _) rfl rfl hl.1 rfl (lv_room (Nat.le_of_ble_eq_true rfl)) d_M_divide_76 ⟨Nat.le_of_ble_eq_true rfl, Nat.le_of_ble_eq_true rfl⟩) hP hD hS hA [2] [0, 1, 3, 4, 5, 6] rfl rfl (by decide) (by decide) (fun H locs hP hD hS => ?_)
    clear hc
    have hP : va_P D classes [(o, .inr (12, mo q z)), ((q 40), .inl (cy 1, 8, .inl u0)), ((q 42), .inl (cy 1, 8, .inl u2)), ((q 43), .inl (cy 1, 8, .inl u3)), (b1, .inl (cy 1, 8, .inl h1)), (b2, .inl (cy 1, 8, .inl h2)), ((q 41), .inl (cy 1, 8, .inl f4))] H := hP
    have hD : va_D A [(o, .inr (12, mo q z)), ((q 40), .inl (cy 1, 8, .inl u0)), ((q 42), .inl (cy 1, 8, .inl u2)), ((q 43), .inl (cy 1, 8, .inl u3)), (b1, .inl (cy 1, 8, .inl h1)), (b2, .inl (cy 1, 8, .inl h2)), ((q 41), .inl (cy 1, 8, .inl f4))] := hD
    refine lv_pop hx hb d_M_divide_79 rfl ?_
    refine lv_aload_n hx hb d_M_divide_80 rfl (lv_at hl 1 rfl) ?_
    refine va_get (D := D) (ci := 12) (v := .ref (q 41)) (C := "CoinKeeperModel") (T := F_12) (N := 98) hx hb hts i_12 hown hK hP 0 rfl rfl 49 (by decide) (hts _ gw_1468) (fun _ h9 => h9) rfl d_M_divide_81 ?_
    refine lv_iconst (v := 0) hx hb d_M_divide_84 (by decide) ?_
    refine lv_dup2_11 hx hb d_M_divide_85 rfl rfl ?_
    refine va_iald hx hb hK hP 6 1 rfl rfl (inb_in (by decide)) d_M_divide_86 ?_
    refine lv_topi (fun v5 ev => ?_)
    have hf := bn ev hf
    clear ev
    refine lv_aload_n hx hb d_M_divide_87 rfl (lv_at hl 1 rfl) ?_
    refine va_get (D := D) (ci := 12) (v := .ref (q 40)) (C := "CoinKeeperModel") (T := F_12) (N := 98) hx hb hts i_12 hown hK hP 0 rfl rfl 48 (by decide) (hts _ gw_1467) (fun _ h9 => h9) rfl d_M_divide_88 ?_
    refine lv_iload_n hx hb d_M_divide_91 rfl (lv_at hl 2 rfl) ?_
    obtain ⟨v6, hc, hf⟩ := bdp1 hf
    refine q_ai (wr := [(o, .inr (12, mo q z)), ((q 42), .inl (cy 1, 8, .inl u2)), ((q 43), .inl (cy 1, 8, .inl u3)), (b1, .inl (cy 1, 8, .inl h1)), (b2, .inl (cy 1, 8, .inl h2)), ((q 41), .inl (cy 1, 8, .inl f4))]) (va_runS (As := [.ref (q 40), .int x3]) (rest := [.int v5, .int (0 : Int32), .ref (q 41)]) ⟨hx, hb, hml, hown, hts⟩ (c_M_bit l D cy ad fu (q 40) u0 x3 _ hc H.size) ⟨q_cB hts gw_1401 gw_18 gw_1399 hdc_26 ⟨by decide, by decide⟩, hts _ gw_1400⟩ (q_pre (hP.sub [1] rfl) (hD.sub [1] (by decide) rfl) hK hSt hS (va_free hD hS hA [1] rfl) _) rfl rfl hl.1 rfl (lv_room (Nat.le_of_ble_eq_true rfl)) d_M_divide_92 ⟨Nat.le_of_ble_eq_true rfl, Nat.le_of_ble_eq_true rfl⟩) hP hD hS hA [1] [0, 2, 3, 4, 5, 6] rfl rfl (by decide) (by decide) (fun H locs hP hD hS => ?_)
    clear hc
    have hP : va_P D classes [(o, .inr (12, mo q z)), ((q 42), .inl (cy 1, 8, .inl u2)), ((q 43), .inl (cy 1, 8, .inl u3)), (b1, .inl (cy 1, 8, .inl h1)), (b2, .inl (cy 1, 8, .inl h2)), ((q 41), .inl (cy 1, 8, .inl f4)), ((q 40), .inl (cy 1, 8, .inl u0))] H := hP
    have hD : va_D A [(o, .inr (12, mo q z)), ((q 42), .inl (cy 1, 8, .inl u2)), ((q 43), .inl (cy 1, 8, .inl u3)), (b1, .inl (cy 1, 8, .inl h1)), (b2, .inl (cy 1, 8, .inl h2)), ((q 41), .inl (cy 1, 8, .inl f4)), ((q 40), .inl (cy 1, 8, .inl u0))] := hD
    refine lv_ior hx hb d_M_divide_95 ?_
    refine lv_topi (fun v7 ev => ?_)
    have hf := bn ev hf
    clear ev
    refine va_iast hx hb hK hP hD hS 5 1 rfl rfl (inb_in (by decide)) d_M_divide_96 (fun H locs hP hD hS => ?_)
    obtain ⟨f8, ev, hf⟩ := bne hf
    have hP : va_P D classes [(o, .inr (12, mo q z)), ((q 42), .inl (cy 1, 8, .inl u2)), ((q 43), .inl (cy 1, 8, .inl u3)), (b1, .inl (cy 1, 8, .inl h1)), (b2, .inl (cy 1, 8, .inl h2)), ((q 41), .inl (cy 1, 8, .inl f8)), ((q 40), .inl (cy 1, 8, .inl u0))] H := by rw [ev]; exact hP
    have hD : va_D A [(o, .inr (12, mo q z)), ((q 42), .inl (cy 1, 8, .inl u2)), ((q 43), .inl (cy 1, 8, .inl u3)), (b1, .inl (cy 1, 8, .inl h1)), (b2, .inl (cy 1, 8, .inl h2)), ((q 41), .inl (cy 1, 8, .inl f8)), ((q 40), .inl (cy 1, 8, .inl u0))] := by rw [ev]; exact hD
    clear ev
    refine lv_iload hx hb d_M_divide_97 (lv_at hl 0 rfl) ?_
    refine lv_iconst (v := 1) hx hb d_M_divide_99 (by decide) ?_
    refine lv_icmp_eq (tgt := 117) hx hb d_M_divide_100 (by decide) (fun cx => ?_) (fun cx => ?_)
    · have hf := ifp cx hf
      exact wb_M_divide_117 (fu := fu) F hk_48 _ _ _ _ _ _ hf _ _ _ (hP.sub (ws' := [(o, .inr (12, mo q z)), ((q 40), .inl (cy 1, 8, .inl u0)), ((q 41), .inl (cy 1, 8, .inl f8)), ((q 42), .inl (cy 1, 8, .inl u2)), ((q 43), .inl (cy 1, 8, .inl u3)), (b1, .inl (cy 1, 8, .inl h1)), (b2, .inl (cy 1, 8, .inl h2))]) [0, 6, 5, 1, 2, 3, 4] rfl) (hD.sub (ws' := [(o, .inr (12, mo q z)), ((q 40), .inl (cy 1, 8, .inl u0)), ((q 41), .inl (cy 1, 8, .inl f8)), ((q 42), .inl (cy 1, 8, .inl u2)), ((q 43), .inl (cy 1, 8, .inl u3)), (b1, .inl (cy 1, 8, .inl h1)), (b2, .inl (cy 1, 8, .inl h2))]) [0, 6, 5, 1, 2, 3, 4] (by decide) rfl) hS (lv_sub hl [1, 2] rfl)
    · have hf := ifn cx hf
      refine lv_aload_n hx hb d_M_divide_103 rfl (lv_at hl 1 rfl) ?_
      refine va_get (D := D) (ci := 12) (v := .ref (q 41)) (C := "CoinKeeperModel") (T := F_12) (N := 98) hx hb hts i_12 hown hK hP 0 rfl rfl 49 (by decide) (hts _ gw_1468) (fun _ h9 => h9) rfl d_M_divide_104 ?_
      refine lv_aload_n hx hb d_M_divide_107 rfl (lv_at hl 1 rfl) ?_
      refine va_get (D := D) (ci := 12) (v := .ref (q 43)) (C := "CoinKeeperModel") (T := F_12) (N := 98) hx hb hts i_12 hown hK hP 0 rfl rfl 51 (by decide) (hts _ gw_1470) (fun _ h9 => h9) rfl d_M_divide_108 ?_
      obtain ⟨v9, hc, hf⟩ := bdp1 hf
      refine q_ai (wr := [(o, .inr (12, mo q z)), ((q 42), .inl (cy 1, 8, .inl u2)), (b1, .inl (cy 1, 8, .inl h1)), (b2, .inl (cy 1, 8, .inl h2)), ((q 40), .inl (cy 1, 8, .inl u0))]) (va_runS (As := [.ref (q 41), .ref (q 43)]) (rest := []) ⟨hx, hb, hml, hown, hts⟩ (c_M_compare l D cy ad fu (q 41) (q 43) f8 u3 _ hc H.size) ⟨q_cB hts gw_1404 gw_18 gw_1402 hdc_27 ⟨by decide, by decide⟩, hts _ gw_1403⟩ (q_pre (hP.sub [5, 2] rfl) (hD.sub [5, 2] (by decide) rfl) hK hSt hS (va_free hD hS hA [5, 2] rfl) _) rfl rfl hl.1 rfl (lv_room (Nat.le_of_ble_eq_true rfl)) d_M_divide_111 ⟨Nat.le_of_ble_eq_true rfl, Nat.le_of_ble_eq_true rfl⟩) hP hD hS hA [5, 2] [0, 1, 3, 4, 6] rfl rfl (by decide) (by decide) (fun H locs hP hD hS => ?_)
      clear hc
      have hP : va_P D classes [(o, .inr (12, mo q z)), ((q 42), .inl (cy 1, 8, .inl u2)), (b1, .inl (cy 1, 8, .inl h1)), (b2, .inl (cy 1, 8, .inl h2)), ((q 40), .inl (cy 1, 8, .inl u0)), ((q 41), .inl (cy 1, 8, .inl f8)), ((q 43), .inl (cy 1, 8, .inl u3))] H := hP
      have hD : va_D A [(o, .inr (12, mo q z)), ((q 42), .inl (cy 1, 8, .inl u2)), (b1, .inl (cy 1, 8, .inl h1)), (b2, .inl (cy 1, 8, .inl h2)), ((q 40), .inl (cy 1, 8, .inl u0)), ((q 41), .inl (cy 1, 8, .inl f8)), ((q 43), .inl (cy 1, 8, .inl u3))] := hD
      refine lv_if_lt (tgt := 151) hx hb d_M_divide_114 (by decide) (fun cx => ?_) (fun cx => ?_)
      · have hf := ifp cx hf
        exact wb_M_divide_151 (fu := fu) F hk_48 _ _ _ _ _ _ hf _ _ _ (hP.sub (ws' := [(o, .inr (12, mo q z)), ((q 40), .inl (cy 1, 8, .inl u0)), ((q 41), .inl (cy 1, 8, .inl f8)), ((q 42), .inl (cy 1, 8, .inl u2)), ((q 43), .inl (cy 1, 8, .inl u3)), (b1, .inl (cy 1, 8, .inl h1)), (b2, .inl (cy 1, 8, .inl h2))]) [0, 4, 5, 1, 6, 2, 3] rfl) (hD.sub (ws' := [(o, .inr (12, mo q z)), ((q 40), .inl (cy 1, 8, .inl u0)), ((q 41), .inl (cy 1, 8, .inl f8)), ((q 42), .inl (cy 1, 8, .inl u2)), ((q 43), .inl (cy 1, 8, .inl u3)), (b1, .inl (cy 1, 8, .inl h1)), (b2, .inl (cy 1, 8, .inl h2))]) [0, 4, 5, 1, 6, 2, 3] (by decide) rfl) hS (lv_sub hl [1, 2] rfl)
      · have hf := ifn cx hf
        exact wb_M_divide_117 (fu := fu) F hk_48 _ _ _ _ _ _ hf _ _ _ (hP.sub (ws' := [(o, .inr (12, mo q z)), ((q 40), .inl (cy 1, 8, .inl u0)), ((q 41), .inl (cy 1, 8, .inl f8)), ((q 42), .inl (cy 1, 8, .inl u2)), ((q 43), .inl (cy 1, 8, .inl u3)), (b1, .inl (cy 1, 8, .inl h1)), (b2, .inl (cy 1, 8, .inl h2))]) [0, 4, 5, 1, 6, 2, 3] rfl) (hD.sub (ws' := [(o, .inr (12, mo q z)), ((q 40), .inl (cy 1, 8, .inl u0)), ((q 41), .inl (cy 1, 8, .inl f8)), ((q 42), .inl (cy 1, 8, .inl u2)), ((q 43), .inl (cy 1, 8, .inl u3)), (b1, .inl (cy 1, 8, .inl h1)), (b2, .inl (cy 1, 8, .inl h2))]) [0, 4, 5, 1, 6, 2, 3] (by decide) rfl) hS (lv_sub hl [1, 2] rfl)
def x_M_divide_48 (fu : Nat) (z : Nat → Int32) (h1 : Nat → Int32) (h2 : Nat → Int32) : Nat → Int32 → (Nat → Int32) → (Nat → Int32) → (Nat → Int32) → (Nat → Int32) → Option ((Nat → Int32) × (Nat → Int32) × (Nat → Int32) × (Nat → Int32))
  | 0 => fun _ _ _ _ _ => none
  | n + 1 => xb_M_divide_48 fu z h1 h2 (x_M_divide_48 fu z h1 h2 n)
theorem w_M_divide_48 {p : Program} {l : Launch} {e : Env} {s : State} {m : MethodId} {args : Array Value} {below : List Frame} {meth : Method} {c : Code} {D : va_G} {cy : Nat → ClassId} {A : Nat → Prop} {ad : Nat → Nat} {o : Nat} {q : Nat → Nat} {b1 : Nat} {b2 : Nat} {z : Nat → Int32} {h1 : Nat → Int32} {h2 : Nat → Int32} {fu : Nat} (F : Fx p s m args meth c b_M_divide 5 "CoinKeeperModel" "divide" none D cy ad A) : ∀ n : Nat, I_M_divide_48 p l e s m args below meth c D cy A ad o q b1 b2 z h1 h2 (x_M_divide_48 fu z h1 h2 n)
  | 0 => fun _ _ _ _ _ _ hf => nomatch (show (none : Option ((Nat → Int32) × (Nat → Int32) × (Nat → Int32) × (Nat → Int32))) = some _ from hf)
  | n + 1 => wb_M_divide_48 F (w_M_divide_48 F n)
def xb_M_divide_18 (fu : Nat) (z : Nat → Int32) (h1 : Nat → Int32) (h2 : Nat → Int32) (k_18 : Int32 → (Nat → Int32) → (Nat → Int32) → (Nat → Int32) → (Nat → Int32) → Option ((Nat → Int32) × (Nat → Int32) × (Nat → Int32) × (Nat → Int32))) (x3 : Int32) (u0 : Nat → Int32) (u1 : Nat → Int32) (u2 : Nat → Int32) (u3 : Nat → Int32) : Option ((Nat → Int32) × (Nat → Int32) × (Nat → Int32) × (Nat → Int32)) :=
  if (8 : Int32) ≤ x3 then (x_M_divide_48 fu z h1 h2 fu (255 : Int32) u0 u1 u2 u3) else (gd (inb x3 8) <| bnd (upd u1 x3.toNatClampNeg (0 : Int32)) fun f1 => gd (inb x3 8) <| bnd (upd u2 x3.toNatClampNeg (0 : Int32)) fun f2 => bnd (x3 + (1 : Int32)) fun v3 => k_18 v3 u0 f1 f2 u3)
set_option maxHeartbeats 8000000 in
set_option maxRecDepth 100000 in
theorem wb_M_divide_18 {p : Program} {l : Launch} {e : Env} {s : State} {m : MethodId} {args : Array Value} {below : List Frame} {meth : Method} {c : Code} {D : va_G} {cy : Nat → ClassId} {A : Nat → Prop} {ad : Nat → Nat} {o : Nat} {q : Nat → Nat} {b1 : Nat} {b2 : Nat} {z : Nat → Int32} {h1 : Nat → Int32} {h2 : Nat → Int32} {fu : Nat} {k_18 : Int32 → (Nat → Int32) → (Nat → Int32) → (Nat → Int32) → (Nat → Int32) → Option ((Nat → Int32) × (Nat → Int32) × (Nat → Int32) × (Nat → Int32))} (F : Fx p s m args meth c b_M_divide 5 "CoinKeeperModel" "divide" none D cy ad A) (hk_18 : I_M_divide_18 p l e s m args below meth c D cy A ad o q b1 b2 z h1 h2 k_18) : I_M_divide_18 p l e s m args below meth c D cy A ad o q b1 b2 z h1 h2 (xb_M_divide_18 fu z h1 h2 k_18) := by
  obtain ⟨hx, hb, hr, hml, hown, hts, hlocks, hK, hA, hSt, hnm, hex⟩ := id F
  intro x3 u0 u1 u2 u3 res hf H locs ls hP hD hS hl
  unfold xb_M_divide_18 at hf
  refine lv_iload_n hx hb d_M_divide_18 rfl (lv_at hl 1 rfl) ?_
  refine lv_bipush (v := 8) hx hb d_M_divide_19 (by decide) ?_
  refine lv_icmp_ge (tgt := 44) hx hb d_M_divide_21 (by decide) (fun cx => ?_) (fun cx => ?_)
  · have hf := ifp cx hf
    refine lv_sipush (v := 255) hx hb d_M_divide_44 (by decide) ?_
    refine lv_istore_n (lv' := [(3, .int (255 : Int32)), (0, .ref o)]) hx hb d_M_divide_47 rfl hl (by decide) rfl (fun ls hl => ?_)
    exact w_M_divide_48 F fu _ _ _ _ _ _ hf _ _ _ hP hD hS (lv_sub hl [1, 0] rfl)
  · have hf := ifn cx hf
    refine lv_aload_n hx hb d_M_divide_24 rfl (lv_at hl 0 rfl) ?_
    refine va_get (D := D) (ci := 12) (v := .ref (q 41)) (C := "CoinKeeperModel") (T := F_12) (N := 98) hx hb hts i_12 hown hK hP 0 rfl rfl 49 (by decide) (hts _ gw_1468) (fun _ h9 => h9) rfl d_M_divide_25 ?_
    refine lv_iload_n hx hb d_M_divide_28 rfl (lv_at hl 1 rfl) ?_
    refine lv_iconst (v := 0) hx hb d_M_divide_29 (by decide) ?_
    obtain ⟨hg, hf⟩ := gdp hf
    refine va_iast hx hb hK hP hD hS 2 1 rfl rfl (inb_in hg) d_M_divide_30 (fun H locs hP hD hS => ?_)
    obtain ⟨f1, ev, hf⟩ := bne hf
    have hP : va_P D classes [(o, .inr (12, mo q z)), ((q 40), .inl (cy 1, 8, .inl u0)), ((q 41), .inl (cy 1, 8, .inl f1)), ((q 42), .inl (cy 1, 8, .inl u2)), ((q 43), .inl (cy 1, 8, .inl u3)), (b1, .inl (cy 1, 8, .inl h1)), (b2, .inl (cy 1, 8, .inl h2))] H := by rw [ev]; exact hP
    have hD : va_D A [(o, .inr (12, mo q z)), ((q 40), .inl (cy 1, 8, .inl u0)), ((q 41), .inl (cy 1, 8, .inl f1)), ((q 42), .inl (cy 1, 8, .inl u2)), ((q 43), .inl (cy 1, 8, .inl u3)), (b1, .inl (cy 1, 8, .inl h1)), (b2, .inl (cy 1, 8, .inl h2))] := by rw [ev]; exact hD
    clear ev
    refine lv_aload_n hx hb d_M_divide_31 rfl (lv_at hl 0 rfl) ?_
    refine va_get (D := D) (ci := 12) (v := .ref (q 42)) (C := "CoinKeeperModel") (T := F_12) (N := 98) hx hb hts i_12 hown hK hP 0 rfl rfl 50 (by decide) (hts _ gw_1469) (fun _ h9 => h9) rfl d_M_divide_32 ?_
    refine lv_iload_n hx hb d_M_divide_35 rfl (lv_at hl 1 rfl) ?_
    refine lv_iconst (v := 0) hx hb d_M_divide_36 (by decide) ?_
    obtain ⟨hg, hf⟩ := gdp hf
    refine va_iast hx hb hK hP hD hS 3 1 rfl rfl (inb_in hg) d_M_divide_37 (fun H locs hP hD hS => ?_)
    obtain ⟨f2, ev, hf⟩ := bne hf
    have hP : va_P D classes [(o, .inr (12, mo q z)), ((q 40), .inl (cy 1, 8, .inl u0)), ((q 41), .inl (cy 1, 8, .inl f1)), ((q 42), .inl (cy 1, 8, .inl f2)), ((q 43), .inl (cy 1, 8, .inl u3)), (b1, .inl (cy 1, 8, .inl h1)), (b2, .inl (cy 1, 8, .inl h2))] H := by rw [ev]; exact hP
    have hD : va_D A [(o, .inr (12, mo q z)), ((q 40), .inl (cy 1, 8, .inl u0)), ((q 41), .inl (cy 1, 8, .inl f1)), ((q 42), .inl (cy 1, 8, .inl f2)), ((q 43), .inl (cy 1, 8, .inl u3)), (b1, .inl (cy 1, 8, .inl h1)), (b2, .inl (cy 1, 8, .inl h2))] := by rw [ev]; exact hD
    clear ev
    obtain ⟨v3, ev, hf⟩ := bne hf
    refine lv_iinc (v := v3) (lv' := [(3, .int v3), (0, .ref o)]) hx hb d_M_divide_38 hl (k := 1) rfl (by rw [ev]; rfl) (by decide) rfl (fun ls hl => ?_)
    clear ev
    refine lv_goto (tgt := 18) hx hb d_M_divide_41 (by decide) ?_
    exact hk_18 _ _ _ _ _ _ hf _ _ _ hP hD hS (lv_sub hl [1, 0] rfl)
def x_M_divide_18 (fu : Nat) (z : Nat → Int32) (h1 : Nat → Int32) (h2 : Nat → Int32) : Nat → Int32 → (Nat → Int32) → (Nat → Int32) → (Nat → Int32) → (Nat → Int32) → Option ((Nat → Int32) × (Nat → Int32) × (Nat → Int32) × (Nat → Int32))
  | 0 => fun _ _ _ _ _ => none
  | n + 1 => xb_M_divide_18 fu z h1 h2 (x_M_divide_18 fu z h1 h2 n)
theorem w_M_divide_18 {p : Program} {l : Launch} {e : Env} {s : State} {m : MethodId} {args : Array Value} {below : List Frame} {meth : Method} {c : Code} {D : va_G} {cy : Nat → ClassId} {A : Nat → Prop} {ad : Nat → Nat} {o : Nat} {q : Nat → Nat} {b1 : Nat} {b2 : Nat} {z : Nat → Int32} {h1 : Nat → Int32} {h2 : Nat → Int32} {fu : Nat} (F : Fx p s m args meth c b_M_divide 5 "CoinKeeperModel" "divide" none D cy ad A) : ∀ n : Nat, I_M_divide_18 p l e s m args below meth c D cy A ad o q b1 b2 z h1 h2 (x_M_divide_18 fu z h1 h2 n)
  | 0 => fun _ _ _ _ _ _ hf => nomatch (show (none : Option ((Nat → Int32) × (Nat → Int32) × (Nat → Int32) × (Nat → Int32))) = some _ from hf)
  | n + 1 => wb_M_divide_18 F (w_M_divide_18 F n)
theorem hdc_28 : ({ cls := "CoinKeeperModel", name := "copy", desc := "([I[I)V" } : Jvm.MethodName).cls ≠ "java/lang/invoke/MethodHandle" ∧ ({ cls := "CoinKeeperModel", name := "copy", desc := "([I[I)V" } : Jvm.MethodName).cls ≠ "java/lang/invoke/VarHandle" ∧ (parseMethodDescriptor ({ cls := "CoinKeeperModel", name := "copy", desc := "([I[I)V" } : Jvm.MethodName).desc).map (fun d => d.parameters.length) = some 2 := by decide +kernel
def x_M_divide (fu : Nat) (z : Nat → Int32) (h1 : Nat → Int32) (h2 : Nat → Int32) (u0 : Nat → Int32) (u1 : Nat → Int32) (u2 : Nat → Int32) (u3 : Nat → Int32) : Option ((Nat → Int32) × (Nat → Int32) × (Nat → Int32) × (Nat → Int32)) :=
  bd1 (x_M_copy fu h1 u0) fun f1 => bd1 (x_M_copy fu h2 u3) fun f2 => x_M_divide_18 fu z h1 h2 fu (0 : Int32) f1 u1 u2 f2
set_option maxHeartbeats 8000000 in
set_option maxRecDepth 100000 in
theorem we_M_divide {p : Program} {l : Launch} {e : Env} {s : State} {m : MethodId} {args : Array Value} {below : List Frame} {meth : Method} {c : Code} {D : va_G} {cy : Nat → ClassId} {A : Nat → Prop} {ad : Nat → Nat} {o : Nat} {q : Nat → Nat} {b1 : Nat} {b2 : Nat} {z : Nat → Int32} {h1 : Nat → Int32} {h2 : Nat → Int32} {fu : Nat} (F : Fx p s m args meth c b_M_divide 5 "CoinKeeperModel" "divide" none D cy ad A) : I_M_divide_e p l e s m args below meth c D cy A ad o q b1 b2 z h1 h2 (x_M_divide fu z h1 h2) := by
  obtain ⟨hx, hb, hr, hml, hown, hts, hlocks, hK, hA, hSt, hnm, hex⟩ := id F
  intro u0 u1 u2 u3 res hf H locs ls hP hD hS hl
  unfold x_M_divide at hf
  refine lv_aload_n hx hb d_M_divide_0 rfl (lv_at hl 0 rfl) ?_
  refine va_get (D := D) (ci := 12) (v := .ref (q 40)) (C := "CoinKeeperModel") (T := F_12) (N := 98) hx hb hts i_12 hown hK hP 0 rfl rfl 48 (by decide) (hts _ gw_1467) (fun _ h9 => h9) rfl d_M_divide_1 ?_
  refine lv_aload_n hx hb d_M_divide_4 rfl (lv_at hl 1 rfl) ?_
  obtain ⟨f1, hc, hf⟩ := bdp1 hf
  refine q_av (wr := [(o, .inr (12, mo q z)), ((q 41), .inl (cy 1, 8, .inl u1)), ((q 42), .inl (cy 1, 8, .inl u2)), ((q 43), .inl (cy 1, 8, .inl u3)), (b2, .inl (cy 1, 8, .inl h2))]) (va_runS (As := [.ref (q 40), .ref b1]) (rest := []) ⟨hx, hb, hml, hown, hts⟩ (c_M_copy l D cy ad fu (q 40) b1 h1 u0 _ hc H.size) ⟨q_cB hts gw_1397 gw_18 gw_1395 hdc_28 ⟨by decide, by decide⟩, hts _ gw_1396⟩ (q_pre (hP.sub [1, 5] rfl) (hD.sub [1, 5] (by decide) rfl) hK hSt hS (va_free hD hS hA [1, 5] rfl) _) rfl rfl hl.1 rfl (lv_room (Nat.le_of_ble_eq_true rfl)) d_M_divide_5 ⟨Nat.le_of_ble_eq_true rfl, Nat.le_of_ble_eq_true rfl⟩) hP hD hS hA [1, 5] [0, 2, 3, 4, 6] rfl rfl (by decide) (by decide) (fun H locs hP hD hS => ?_)
  clear hc
  have hP : va_P D classes [(o, .inr (12, mo q z)), ((q 41), .inl (cy 1, 8, .inl u1)), ((q 42), .inl (cy 1, 8, .inl u2)), ((q 43), .inl (cy 1, 8, .inl u3)), (b2, .inl (cy 1, 8, .inl h2)), ((q 40), .inl (cy 1, 8, .inl f1)), (b1, .inl (cy 1, 8, .inl h1))] H := hP
  have hD : va_D A [(o, .inr (12, mo q z)), ((q 41), .inl (cy 1, 8, .inl u1)), ((q 42), .inl (cy 1, 8, .inl u2)), ((q 43), .inl (cy 1, 8, .inl u3)), (b2, .inl (cy 1, 8, .inl h2)), ((q 40), .inl (cy 1, 8, .inl f1)), (b1, .inl (cy 1, 8, .inl h1))] := hD
  refine lv_aload_n hx hb d_M_divide_8 rfl (lv_at hl 0 rfl) ?_
  refine va_get (D := D) (ci := 12) (v := .ref (q 43)) (C := "CoinKeeperModel") (T := F_12) (N := 98) hx hb hts i_12 hown hK hP 0 rfl rfl 51 (by decide) (hts _ gw_1470) (fun _ h9 => h9) rfl d_M_divide_9 ?_
  refine lv_aload_n hx hb d_M_divide_12 rfl (lv_at hl 2 rfl) ?_
  obtain ⟨f2, hc, hf⟩ := bdp1 hf
  refine q_av (wr := [(o, .inr (12, mo q z)), ((q 41), .inl (cy 1, 8, .inl u1)), ((q 42), .inl (cy 1, 8, .inl u2)), ((q 40), .inl (cy 1, 8, .inl f1)), (b1, .inl (cy 1, 8, .inl h1))]) (va_runS (As := [.ref (q 43), .ref b2]) (rest := []) ⟨hx, hb, hml, hown, hts⟩ (c_M_copy l D cy ad fu (q 43) b2 h2 u3 _ hc H.size) ⟨q_cB hts gw_1397 gw_18 gw_1395 hdc_28 ⟨by decide, by decide⟩, hts _ gw_1396⟩ (q_pre (hP.sub [3, 4] rfl) (hD.sub [3, 4] (by decide) rfl) hK hSt hS (va_free hD hS hA [3, 4] rfl) _) rfl rfl hl.1 rfl (lv_room (Nat.le_of_ble_eq_true rfl)) d_M_divide_13 ⟨Nat.le_of_ble_eq_true rfl, Nat.le_of_ble_eq_true rfl⟩) hP hD hS hA [3, 4] [0, 1, 2, 5, 6] rfl rfl (by decide) (by decide) (fun H locs hP hD hS => ?_)
  clear hc
  have hP : va_P D classes [(o, .inr (12, mo q z)), ((q 41), .inl (cy 1, 8, .inl u1)), ((q 42), .inl (cy 1, 8, .inl u2)), ((q 40), .inl (cy 1, 8, .inl f1)), (b1, .inl (cy 1, 8, .inl h1)), ((q 43), .inl (cy 1, 8, .inl f2)), (b2, .inl (cy 1, 8, .inl h2))] H := hP
  have hD : va_D A [(o, .inr (12, mo q z)), ((q 41), .inl (cy 1, 8, .inl u1)), ((q 42), .inl (cy 1, 8, .inl u2)), ((q 40), .inl (cy 1, 8, .inl f1)), (b1, .inl (cy 1, 8, .inl h1)), ((q 43), .inl (cy 1, 8, .inl f2)), (b2, .inl (cy 1, 8, .inl h2))] := hD
  refine lv_iconst (v := 0) hx hb d_M_divide_16 (by decide) ?_
  refine lv_istore_n (lv' := [(3, .int (0 : Int32)), (0, .ref o), (1, .ref b1), (2, .ref b2)]) hx hb d_M_divide_17 rfl hl (by decide) rfl (fun ls hl => ?_)
  exact w_M_divide_18 F fu _ _ _ _ _ _ hf _ _ _ (hP.sub (ws' := [(o, .inr (12, mo q z)), ((q 40), .inl (cy 1, 8, .inl f1)), ((q 41), .inl (cy 1, 8, .inl u1)), ((q 42), .inl (cy 1, 8, .inl u2)), ((q 43), .inl (cy 1, 8, .inl f2)), (b1, .inl (cy 1, 8, .inl h1)), (b2, .inl (cy 1, 8, .inl h2))]) [0, 3, 1, 2, 5, 4, 6] rfl) (hD.sub (ws' := [(o, .inr (12, mo q z)), ((q 40), .inl (cy 1, 8, .inl f1)), ((q 41), .inl (cy 1, 8, .inl u1)), ((q 42), .inl (cy 1, 8, .inl u2)), ((q 43), .inl (cy 1, 8, .inl f2)), (b1, .inl (cy 1, 8, .inl h1)), (b2, .inl (cy 1, 8, .inl h2))]) [0, 3, 1, 2, 5, 4, 6] (by decide) rfl) hS (lv_sub hl [1, 0] rfl)
theorem c_M_divide (l : Launch) (D : va_G) (cy : Nat → ClassId) (ad : Nat → Nat) (fu : Nat) (o : Nat) (q : Nat → Nat) (b1 : Nat) (b2 : Nat) (z : Nat → Int32) (h1 : Nat → Int32) (h2 : Nat → Int32) (u0 : Nat → Int32) (u1 : Nat → Int32) (u2 : Nat → Int32) (u3 : Nat → Int32) (res : (Nat → Int32) × (Nat → Int32) × (Nat → Int32) × (Nat → Int32)) (hf : x_M_divide fu z h1 h2 u0 u1 u2 u3 = some res) (sz : Nat) : Met l ({ cls := "CoinKeeperModel", name := "divide", desc := "([I[I)V" } : Jvm.MethodName) (.code ({ cls := "CoinKeeperModel", name := "divide", desc := "([I[I)V" } : Jvm.MethodName) b_M_divide 5 none :: gw) rm_M_divide (va_Pc [.ref o, .ref b1, .ref b2] (Pr D cy ad [(o, .inr (12, mo q z)), ((q 40), .inl (cy 1, 8, .inl u0)), ((q 41), .inl (cy 1, 8, .inl u1)), ((q 42), .inl (cy 1, 8, .inl u2)), ((q 43), .inl (cy 1, 8, .inl u3)), (b1, .inl (cy 1, 8, .inl h1)), (b2, .inl (cy 1, 8, .inl h2))] sz)) (q_M_divide D cy (va_A [(o, .inr (12, mo q z)), ((q 40), .inl (cy 1, 8, .inl u0)), ((q 41), .inl (cy 1, 8, .inl u1)), ((q 42), .inl (cy 1, 8, .inl u2)), ((q 43), .inl (cy 1, 8, .inl u3)), (b1, .inl (cy 1, 8, .inl h1)), (b2, .inl (cy 1, 8, .inl h2))] sz) o q b1 b2 z h1 h2 res) 0 0 (va_A [(o, .inr (12, mo q z)), ((q 40), .inl (cy 1, 8, .inl u0)), ((q 41), .inl (cy 1, 8, .inl u1)), ((q 42), .inl (cy 1, 8, .inl u2)), ((q 43), .inl (cy 1, 8, .inl u3)), (b1, .inl (cy 1, 8, .inl h1)), (b2, .inl (cy 1, 8, .inl h2))] sz) :=
  q_met (Qc := fun A => q_M_divide D cy A o q b1 b2 z h1 h2 res) (by decide) rfl rfl (Nat.le_of_ble_eq_true rfl) (fun p e s m below meth c ls F hP hD hS hl => we_M_divide (fu := fu) F u0 u1 u2 u3 res hf _ _ _ hP hD hS hl) sz
abbrev rm_M_add_e10 : Room := { frames := 0, cells := 0, slots := 0, locals := 0 }
abbrev q_M_add_e10 (D : va_G) (cy : Nat → ClassId) (A : Nat → Prop) (b0 : Nat) (b2 : Nat) (h2 : Nat → Int32) (res : Int32 × (Nat → Int32)) : Array Value → State → Outcome → State → Prop := va_Qi (fun r' (_ : Unit) => r' = res.1) (fun _ t => Po D cy A [(b0, .inl (cy 1, 8, .inl res.2)), (b2, .inl (cy 1, 8, .inl h2))] t) A
def I_M_add_e10_5 (p : Program) (l : Launch) (e : Env) (s : State) (m : MethodId) (args : Array Value) (below : List Frame) (meth : Method) (c : Code) (D : va_G) (cy : Nat → ClassId) (A : Nat → Prop) (ad : Nat → Nat) (b0 : Nat) (b2 : Nat) (h2 : Nat → Int32) (k : Int64 → Int32 → (Nat → Int32) → Option (Int32 × (Nat → Int32))) : Prop :=
  ∀ (x3 : Int64) (x5 : Int32) (u0 : Nat → Int32) (res : Int32 × (Nat → Int32)), k x3 x5 u0 = some res → ∀ (H : Heap) (locs : List Loc) (ls : Array Slot), va_P D classes [(b0, .inl (cy 1, 8, .inl u0)), (b2, .inl (cy 1, 8, .inl h2))] H → va_D A [(b0, .inl (cy 1, 8, .inl u0)), (b2, .inl (cy 1, 8, .inl h2))] → va_S A s.heap H locs → lv_has ls 6 [(0, .ref b0), (1, .ref b0), (2, .ref b2), (3, .long x3), (5, .int x5)] → W p l e rm_M_add_e10 s m args below meth c H locs 0 0 (MQ below (q_M_add_e10 D cy A b0 b2 h2 res) args s 0 0 A) (F0 m 5 ls [])
def I_M_add_e10_e (p : Program) (l : Launch) (e : Env) (s : State) (m : MethodId) (args : Array Value) (below : List Frame) (meth : Method) (c : Code) (D : va_G) (cy : Nat → ClassId) (A : Nat → Prop) (ad : Nat → Nat) (b0 : Nat) (b2 : Nat) (h2 : Nat → Int32) (k : (Nat → Int32) → Option (Int32 × (Nat → Int32))) : Prop :=
  ∀ (u0 : Nat → Int32) (res : Int32 × (Nat → Int32)), k u0 = some res → ∀ (H : Heap) (locs : List Loc) (ls : Array Slot), va_P D classes [(b0, .inl (cy 1, 8, .inl u0)), (b2, .inl (cy 1, 8, .inl h2))] H → va_D A [(b0, .inl (cy 1, 8, .inl u0)), (b2, .inl (cy 1, 8, .inl h2))] → va_S A s.heap H locs → lv_has ls 6 [(0, .ref b0), (1, .ref b0), (2, .ref b2)] → W p l e rm_M_add_e10 s m args below meth c H locs 0 0 (MQ below (q_M_add_e10 D cy A b0 b2 h2 res) args s 0 0 A) (F0 m 0 ls [])
def xb_M_add_e10_5 (fu : Nat) (h2 : Nat → Int32) (k_5 : Int64 → Int32 → (Nat → Int32) → Option (Int32 × (Nat → Int32))) (x3 : Int64) (x5 : Int32) (u0 : Nat → Int32) : Option (Int32 × (Nat → Int32)) :=
  if (8 : Int32) ≤ x5 then (bnd (x3.toInt32) fun v1 => some (v1, u0)) else (gd (inb x5 8) <| bnd (u0 x5.toNatClampNeg) fun v2 => bnd (v2.toInt64) fun v3 => bnd (v3 &&& (4294967295 : Int64)) fun v4 => gd (inb x5 8) <| bnd (h2 x5.toNatClampNeg) fun v5 => bnd (v5.toInt64) fun v6 => bnd (x3 + (v4 + (v6 &&& (4294967295 : Int64)))) fun v7 => bnd (v7.toInt32) fun v8 => gd (inb x5 8) <| bnd (upd u0 x5.toNatClampNeg v8) fun f9 => bnd ((v7.toUInt64 >>> ((32 : Int32).toInt64.toUInt64 &&& Int64.toUInt64 63)).toInt64) fun v10 => bnd (x5 + (1 : Int32)) fun v11 => k_5 v10 v11 f9)
set_option maxHeartbeats 8000000 in
set_option maxRecDepth 100000 in
theorem wb_M_add_e10_5 {p : Program} {l : Launch} {e : Env} {s : State} {m : MethodId} {args : Array Value} {below : List Frame} {meth : Method} {c : Code} {D : va_G} {cy : Nat → ClassId} {A : Nat → Prop} {ad : Nat → Nat} {b0 : Nat} {b2 : Nat} {h2 : Nat → Int32} {fu : Nat} {k_5 : Int64 → Int32 → (Nat → Int32) → Option (Int32 × (Nat → Int32))} (F : Fx p s m args meth c b_M_add 6 "CoinKeeperModel" "add" (some .int) D cy ad A) (hk_5 : I_M_add_e10_5 p l e s m args below meth c D cy A ad b0 b2 h2 k_5) : I_M_add_e10_5 p l e s m args below meth c D cy A ad b0 b2 h2 (xb_M_add_e10_5 fu h2 k_5) := by
  obtain ⟨hx, hb, hr, hml, hown, hts, hlocks, hK, hA, hSt, hnm, hex⟩ := id F
  intro x3 x5 u0 res hf H locs ls hP hD hS hl
  unfold xb_M_add_e10_5 at hf
  refine lv_iload hx hb d_M_add_5 (lv_at hl 4 rfl) ?_
  refine lv_bipush (v := 8) hx hb d_M_add_7 (by decide) ?_
  refine lv_icmp_ge (tgt := 51) hx hb d_M_add_9 (by decide) (fun cx => ?_) (fun cx => ?_)
  · have hf := ifp cx hf
    refine lv_lload_n hx hb d_M_add_51 rfl (lv_at hl 3 rfl) ?_
    refine lv_l2i hx hb d_M_add_52 rfl ?_
    refine lv_topi (fun v1 ev => ?_)
    have hf := bn ev hf
    clear ev
    obtain rfl := Option.some.inj hf
    exact q_ri hx hb hr hlocks hK hP hD hS d_M_add_53
  · have hf := ifn cx hf
    refine lv_lload_n hx hb d_M_add_12 rfl (lv_at hl 3 rfl) ?_
    refine lv_aload_n hx hb d_M_add_13 rfl (lv_at hl 1 rfl) ?_
    refine lv_iload hx hb d_M_add_14 (lv_at hl 4 rfl) ?_
    obtain ⟨hg, hf⟩ := gdp hf
    refine va_iald hx hb hK hP 0 1 rfl rfl (inb_in hg) d_M_add_16 ?_
    refine lv_topi (fun v2 ev => ?_)
    have hf := bn ev hf
    clear ev
    refine lv_i2l hx hb d_M_add_17 rfl ?_
    refine lv_topl (fun v3 ev => ?_)
    have hf := bn ev hf
    clear ev
    refine lv_ldc2 (v := 4294967295) hx hb hown (hts _ gw_1390) d_M_add_18 ?_
    refine lv_land hx hb d_M_add_21 ?_
    refine lv_topl (fun v4 ev => ?_)
    have hf := bn ev hf
    clear ev
    refine lv_aload_n hx hb d_M_add_22 rfl (lv_at hl 2 rfl) ?_
    refine lv_iload hx hb d_M_add_23 (lv_at hl 4 rfl) ?_
    obtain ⟨hg, hf⟩ := gdp hf
    refine va_iald hx hb hK hP 1 1 rfl rfl (inb_in hg) d_M_add_25 ?_
    refine lv_topi (fun v5 ev => ?_)
    have hf := bn ev hf
    clear ev
    refine lv_i2l hx hb d_M_add_26 rfl ?_
    refine lv_topl (fun v6 ev => ?_)
    have hf := bn ev hf
    clear ev
    refine lv_ldc2 (v := 4294967295) hx hb hown (hts _ gw_1390) d_M_add_27 ?_
    refine lv_land hx hb d_M_add_30 ?_
    refine lv_ladd hx hb d_M_add_31 ?_
    refine lv_ladd hx hb d_M_add_32 ?_
    refine lv_topl (fun v7 ev => ?_)
    have hf := bn ev hf
    clear ev
    refine lv_lstore_n (lv' := [(3, .long v7), (0, .ref b0), (1, .ref b0), (2, .ref b2), (5, .int x5)]) hx hb d_M_add_33 rfl hl (by decide) rfl (fun ls hl => ?_)
    refine lv_aload_n hx hb d_M_add_34 rfl (lv_at hl 1 rfl) ?_
    refine lv_iload hx hb d_M_add_35 (lv_at hl 4 rfl) ?_
    refine lv_lload_n hx hb d_M_add_37 rfl (lv_at hl 0 rfl) ?_
    refine lv_l2i hx hb d_M_add_38 rfl ?_
    refine lv_topi (fun v8 ev => ?_)
    have hf := bn ev hf
    clear ev
    obtain ⟨hg, hf⟩ := gdp hf
    refine va_iast hx hb hK hP hD hS 0 1 rfl rfl (inb_in hg) d_M_add_39 (fun H locs hP hD hS => ?_)
    obtain ⟨f9, ev, hf⟩ := bne hf
    have hP : va_P D classes [(b0, .inl (cy 1, 8, .inl f9)), (b2, .inl (cy 1, 8, .inl h2))] H := by rw [ev]; exact hP
    have hD : va_D A [(b0, .inl (cy 1, 8, .inl f9)), (b2, .inl (cy 1, 8, .inl h2))] := by rw [ev]; exact hD
    clear ev
    refine lv_lload_n hx hb d_M_add_40 rfl (lv_at hl 0 rfl) ?_
    refine lv_bipush (v := 32) hx hb d_M_add_41 (by decide) ?_
    refine lv_lushr hx hb d_M_add_43 rfl ?_
    refine lv_topl (fun v10 ev => ?_)
    have hf := bn ev hf
    clear ev
    refine lv_lstore_n (lv' := [(3, .long v10), (0, .ref b0), (1, .ref b0), (2, .ref b2), (5, .int x5)]) hx hb d_M_add_44 rfl hl (by decide) rfl (fun ls hl => ?_)
    obtain ⟨v11, ev, hf⟩ := bne hf
    refine lv_iinc (v := v11) (lv' := [(5, .int v11), (3, .long v10), (0, .ref b0), (1, .ref b0), (2, .ref b2)]) hx hb d_M_add_45 hl (k := 4) rfl (by rw [ev]; rfl) (by decide) rfl (fun ls hl => ?_)
    clear ev
    refine lv_goto (tgt := 5) hx hb d_M_add_48 (by decide) ?_
    exact hk_5 _ _ _ _ hf _ _ _ hP hD hS (lv_sub hl [2, 3, 4, 1, 0] rfl)
def x_M_add_e10_5 (fu : Nat) (h2 : Nat → Int32) : Nat → Int64 → Int32 → (Nat → Int32) → Option (Int32 × (Nat → Int32))
  | 0 => fun _ _ _ => none
  | n + 1 => xb_M_add_e10_5 fu h2 (x_M_add_e10_5 fu h2 n)
theorem w_M_add_e10_5 {p : Program} {l : Launch} {e : Env} {s : State} {m : MethodId} {args : Array Value} {below : List Frame} {meth : Method} {c : Code} {D : va_G} {cy : Nat → ClassId} {A : Nat → Prop} {ad : Nat → Nat} {b0 : Nat} {b2 : Nat} {h2 : Nat → Int32} {fu : Nat} (F : Fx p s m args meth c b_M_add 6 "CoinKeeperModel" "add" (some .int) D cy ad A) : ∀ n : Nat, I_M_add_e10_5 p l e s m args below meth c D cy A ad b0 b2 h2 (x_M_add_e10_5 fu h2 n)
  | 0 => fun _ _ _ _ hf => nomatch (show (none : Option (Int32 × (Nat → Int32))) = some _ from hf)
  | n + 1 => wb_M_add_e10_5 F (w_M_add_e10_5 F n)
def x_M_add_e10 (fu : Nat) (h2 : Nat → Int32) (u0 : Nat → Int32) : Option (Int32 × (Nat → Int32)) :=
  x_M_add_e10_5 fu h2 fu (0 : Int64) (0 : Int32) u0
set_option maxHeartbeats 8000000 in
set_option maxRecDepth 100000 in
theorem we_M_add_e10 {p : Program} {l : Launch} {e : Env} {s : State} {m : MethodId} {args : Array Value} {below : List Frame} {meth : Method} {c : Code} {D : va_G} {cy : Nat → ClassId} {A : Nat → Prop} {ad : Nat → Nat} {b0 : Nat} {b2 : Nat} {h2 : Nat → Int32} {fu : Nat} (F : Fx p s m args meth c b_M_add 6 "CoinKeeperModel" "add" (some .int) D cy ad A) : I_M_add_e10_e p l e s m args below meth c D cy A ad b0 b2 h2 (x_M_add_e10 fu h2) := by
  obtain ⟨hx, hb, hr, hml, hown, hts, hlocks, hK, hA, hSt, hnm, hex⟩ := id F
  intro u0 res hf H locs ls hP hD hS hl
  unfold x_M_add_e10 at hf
  refine lv_lconst (v := 0) hx hb d_M_add_0 (by decide) ?_
  refine lv_lstore_n (lv' := [(3, .long (0 : Int64)), (0, .ref b0), (1, .ref b0), (2, .ref b2)]) hx hb d_M_add_1 rfl hl (by decide) rfl (fun ls hl => ?_)
  refine lv_iconst (v := 0) hx hb d_M_add_2 (by decide) ?_
  refine lv_istore (lv' := [(5, .int (0 : Int32)), (3, .long (0 : Int64)), (0, .ref b0), (1, .ref b0), (2, .ref b2)]) hx hb d_M_add_3 hl (by decide) rfl (fun ls hl => ?_)
  exact w_M_add_e10_5 F fu _ _ _ _ hf _ _ _ hP hD hS (lv_sub hl [2, 3, 4, 1, 0] rfl)
theorem c_M_add_e10 (l : Launch) (D : va_G) (cy : Nat → ClassId) (ad : Nat → Nat) (fu : Nat) (b0 : Nat) (b2 : Nat) (h2 : Nat → Int32) (u0 : Nat → Int32) (res : Int32 × (Nat → Int32)) (hf : x_M_add_e10 fu h2 u0 = some res) (sz : Nat) : Met l ({ cls := "CoinKeeperModel", name := "add", desc := "([I[I[I)I" } : Jvm.MethodName) (.code ({ cls := "CoinKeeperModel", name := "add", desc := "([I[I[I)I" } : Jvm.MethodName) b_M_add 6 (some .int) :: gw) rm_M_add_e10 (va_Pc [.ref b0, .ref b0, .ref b2] (Pr D cy ad [(b0, .inl (cy 1, 8, .inl u0)), (b2, .inl (cy 1, 8, .inl h2))] sz)) (q_M_add_e10 D cy (va_A [(b0, .inl (cy 1, 8, .inl u0)), (b2, .inl (cy 1, 8, .inl h2))] sz) b0 b2 h2 res) 0 0 (va_A [(b0, .inl (cy 1, 8, .inl u0)), (b2, .inl (cy 1, 8, .inl h2))] sz) :=
  q_met (Qc := fun A => q_M_add_e10 D cy A b0 b2 h2 res) (by decide) rfl rfl (Nat.le_of_ble_eq_true rfl) (fun p e s m below meth c ls F hP hD hS hl => we_M_add_e10 (fu := fu) F u0 res hf _ _ _ hP hD hS hl) sz
