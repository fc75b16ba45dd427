abbrev rm_Sc_subtract_s1x4 : Room := { frames := 0, cells := 0, slots := 0, locals := 0 }
abbrev q_Sc_subtract_s1x4 (D : va_G) (cy : Nat → ClassId) (A : Nat → Prop) (b0 : Nat) (res : (Nat → Int64)) : Array Value → State → Outcome → State → Prop := va_Qv (fun (_ : Unit) => True) (fun _ t => Po D cy A [(b0, .inl (cy 2, 5, .inr (.inl res)))] t) A
def I_Sc_subtract_s1x4_41 (p : Program) (l : Launch) (e : Env) (s : State) (m : MethodId) (args : Array Value) (below : List Frame) (meth : Method) (c : Code) (D : va_G) (cy : Nat → ClassId) (A : Nat → Prop) (ad : Nat → Nat) (b0 : Nat) (k : Int64 → Int32 → Int64 → Int32 → (Nat → Int64) → Option ((Nat → Int64))) : Prop :=
  ∀ (x2 : Int64) (x4 : Int32) (y0 : Int64) (y1 : Int32) (u0 : Nat → Int64) (res : (Nat → Int64)), k x2 x4 y0 y1 u0 = some res → ∀ (H : Heap) (locs : List Loc) (ls : Array Slot), va_P D classes [(b0, .inl (cy 2, 5, .inr (.inl u0)))] H → va_D A [(b0, .inl (cy 2, 5, .inr (.inl u0)))] → va_S A s.heap H locs → lv_has ls 5 [(0, .ref b0), (1, .ref (ad 4)), (2, .long x2), (4, .int x4)] → W p l e rm_Sc_subtract_s1x4 s m args below meth c H locs 0 0 (MQ below (q_Sc_subtract_s1x4 D cy A b0 res) args s 0 0 A) (F0 m 41 ls [.long y0, .int y1, .ref b0])
def I_Sc_subtract_s1x4_5 (p : Program) (l : Launch) (e : Env) (s : State) (m : MethodId) (args : Array Value) (below : List Frame) (meth : Method) (c : Code) (D : va_G) (cy : Nat → ClassId) (A : Nat → Prop) (ad : Nat → Nat) (b0 : Nat) (k : Int64 → Int32 → (Nat → Int64) → Option ((Nat → Int64))) : Prop :=
  ∀ (x2 : Int64) (x4 : Int32) (u0 : Nat → Int64) (res : (Nat → Int64)), k x2 x4 u0 = some res → ∀ (H : Heap) (locs : List Loc) (ls : Array Slot), va_P D classes [(b0, .inl (cy 2, 5, .inr (.inl u0)))] H → va_D A [(b0, .inl (cy 2, 5, .inr (.inl u0)))] → va_S A s.heap H locs → lv_has ls 5 [(0, .ref b0), (1, .ref (ad 4)), (2, .long x2), (4, .int x4)] → W p l e rm_Sc_subtract_s1x4 s m args below meth c H locs 0 0 (MQ below (q_Sc_subtract_s1x4 D cy A b0 res) args s 0 0 A) (F0 m 5 ls [])
def I_Sc_subtract_s1x4_e (p : Program) (l : Launch) (e : Env) (s : State) (m : MethodId) (args : Array Value) (below : List Frame) (meth : Method) (c : Code) (D : va_G) (cy : Nat → ClassId) (A : Nat → Prop) (ad : Nat → Nat) (b0 : Nat) (k : (Nat → Int64) → Option ((Nat → Int64))) : Prop :=
  ∀ (u0 : Nat → Int64) (res : (Nat → Int64)), k u0 = some res → ∀ (H : Heap) (locs : List Loc) (ls : Array Slot), va_P D classes [(b0, .inl (cy 2, 5, .inr (.inl u0)))] H → va_D A [(b0, .inl (cy 2, 5, .inr (.inl u0)))] → va_S A s.heap H locs → lv_has ls 5 [(0, .ref b0), (1, .ref (ad 4))] → W p l e rm_Sc_subtract_s1x4 s m args below meth c H locs 0 0 (MQ below (q_Sc_subtract_s1x4 D cy A b0 res) args s 0 0 A) (F0 m 0 ls [])
set_option maxHeartbeats 8000000 in
set_option maxRecDepth 100000 in
theorem wb_Sc_subtract_s1x4_41 {p : Program} {l : Launch} {e : Env} {s : State} {m : MethodId} {args : Array Value} {below : List Frame} {meth : Method} {c : Code} {D : va_G} {cy : Nat → ClassId} {A : Nat → Prop} {ad : Nat → Nat} {b0 : Nat} {fu : Nat} {k_5 : Int64 → Int32 → (Nat → Int64) → Option ((Nat → Int64))} (F : Fx p s m args meth c b_Sc_subtract 5 "CoinKeeper$Scalar" "subtract" none D cy ad A) (hk_5 : I_Sc_subtract_s1x4_5 p l e s m args below meth c D cy A ad b0 k_5) : I_Sc_subtract_s1x4_41 p l e s m args below meth c D cy A ad b0 (xb_Sc_subtract_s1x4_41 fu k_5) := by
  obtain ⟨hx, hb, hr, hml, hown, hts, hlocks, hK, hA, hSt, hnm, hex⟩ := id F
  intro x2 x4 y0 y1 u0 res hf H locs ls hP hD hS hl
  unfold xb_Sc_subtract_s1x4_41 at hf
  obtain ⟨hg, hf⟩ := gdp hf
  refine va_last hx hb hK hP hD hS 0 2 rfl rfl (inb_in hg) d_Sc_subtract_41 (fun H locs hP hD hS => ?_)
  obtain ⟨f1, ev, hf⟩ := bne hf
  have hP : va_P D classes [(b0, .inl (cy 2, 5, .inr (.inl f1)))] H := by rw [ev]; exact hP
  have hD : va_D A [(b0, .inl (cy 2, 5, .inr (.inl f1)))] := by rw [ev]; exact hD
  clear ev
  refine lv_lload_n hx hb d_Sc_subtract_42 rfl (lv_at hl 2 rfl) ?_
  refine lv_bipush (v := 52) hx hb d_Sc_subtract_43 (by decide) ?_
  refine lv_lshr hx hb d_Sc_subtract_45 rfl ?_
  refine lv_topl (fun v2 ev => ?_)
  have hf := bn ev hf
  clear ev
  refine lv_lstore_n (lv' := [(2, .long v2), (0, .ref b0), (1, .ref (ad 4)), (4, .int x4)]) hx hb d_Sc_subtract_46 rfl hl (by decide) rfl (fun ls hl => ?_)
  obtain ⟨v3, ev, hf⟩ := bne hf
  refine lv_iinc (v := v3) (lv' := [(4, .int v3), (2, .long v2), (0, .ref b0), (1, .ref (ad 4))]) hx hb d_Sc_subtract_47 hl (k := 3) rfl (by rw [ev]; rfl) (by decide) rfl (fun ls hl => ?_)
  clear ev
  refine lv_goto (tgt := 5) hx hb d_Sc_subtract_50 (by decide) ?_
  exact hk_5 _ _ _ _ hf _ _ _ hP hD hS (lv_sub hl [2, 3, 1, 0] rfl)
set_option maxHeartbeats 8000000 in
set_option maxRecDepth 100000 in
theorem wb_Sc_subtract_s1x4_5 {p : Program} {l : Launch} {e : Env} {s : State} {m : MethodId} {args : Array Value} {below : List Frame} {meth : Method} {c : Code} {D : va_G} {cy : Nat → ClassId} {A : Nat → Prop} {ad : Nat → Nat} {b0 : Nat} {fu : Nat} {k_5 : Int64 → Int32 → (Nat → Int64) → Option ((Nat → Int64))} (F : Fx p s m args meth c b_Sc_subtract 5 "CoinKeeper$Scalar" "subtract" none D cy ad A) (hk_5 : I_Sc_subtract_s1x4_5 p l e s m args below meth c D cy A ad b0 k_5) : I_Sc_subtract_s1x4_5 p l e s m args below meth c D cy A ad b0 (xb_Sc_subtract_s1x4_5 fu k_5) := by
  obtain ⟨hx, hb, hr, hml, hown, hts, hlocks, hK, hA, hSt, hnm, hex⟩ := id F
  intro x2 x4 u0 res hf H locs ls hP hD hS hl
  unfold xb_Sc_subtract_s1x4_5 at hf
  refine lv_iload hx hb d_Sc_subtract_5 (lv_at hl 3 rfl) ?_
  refine lv_iconst (v := 5) hx hb d_Sc_subtract_7 (by decide) ?_
  refine lv_icmp_ge (tgt := 53) hx hb d_Sc_subtract_8 (by decide) (fun cx => ?_) (fun cx => ?_)
  · have hf := ifp cx hf
    obtain rfl := Option.some.inj hf
    exact q_rv hx hb hr hlocks hK hP hD hS d_Sc_subtract_53
  · have hf := ifn cx hf
    refine lv_lload_n hx hb d_Sc_subtract_11 rfl (lv_at hl 2 rfl) ?_
    refine lv_aload_n hx hb d_Sc_subtract_12 rfl (lv_at hl 0 rfl) ?_
    refine lv_iload hx hb d_Sc_subtract_13 (lv_at hl 3 rfl) ?_
    obtain ⟨hg, hf⟩ := gdp hf
    refine va_lald hx hb hK hP 0 2 rfl rfl (inb_in hg) d_Sc_subtract_15 ?_
    refine lv_topl (fun v1 ev => ?_)
    have hf := bn ev hf
    clear ev
    refine lv_aload_n hx hb d_Sc_subtract_16 rfl (lv_at hl 1 rfl) ?_
    refine lv_iload hx hb d_Sc_subtract_17 (lv_at hl 3 rfl) ?_
    obtain ⟨hg, hf⟩ := gdp hf
    refine va_tl (v := .long (tb_4.getD x4.toNatClampNeg 0)) hx hb (hSt.1 4 _ rfl).2 hS (inb_in hg) rfl d_Sc_subtract_19 ?_
    refine lv_topl (fun v2 ev => ?_)
    have hf := bn ev hf
    clear ev
    refine lv_lsub hx hb d_Sc_subtract_20 ?_
    refine lv_ladd hx hb d_Sc_subtract_21 ?_
    refine lv_topl (fun v3 ev => ?_)
    have hf := bn ev hf
    clear ev
    refine lv_lstore_n (lv' := [(2, .long v3), (0, .ref b0), (1, .ref (ad 4)), (4, .int x4)]) hx hb d_Sc_subtract_22 rfl hl (by decide) rfl (fun ls hl => ?_)
    refine lv_aload_n hx hb d_Sc_subtract_23 rfl (lv_at hl 1 rfl) ?_
    refine lv_iload hx hb d_Sc_subtract_24 (lv_at hl 3 rfl) ?_
    refine lv_iload hx hb d_Sc_subtract_26 (lv_at hl 3 rfl) ?_
    refine lv_iconst (v := 4) hx hb d_Sc_subtract_28 (by decide) ?_
    refine lv_icmp_ge (tgt := 40) hx hb d_Sc_subtract_29 (by decide) (fun cx => ?_) (fun cx => ?_)
    · have hf := ifp cx hf
      refine lv_lload_n hx hb d_Sc_subtract_40 rfl (lv_at hl 0 rfl) ?_
      exact wb_Sc_subtract_s1x4_41 (fu := fu) F hk_5 _ _ _ _ _ _ hf _ _ _ hP hD hS (lv_sub hl [1, 2, 0, 3] rfl)
    · have hf := ifn cx hf
      refine lv_lload_n hx hb d_Sc_subtract_32 rfl (lv_at hl 0 rfl) ?_
      refine lv_ldc2 (v := 4503599627370495) hx hb hown (hts _ gw_1051) d_Sc_subtract_33 ?_
      refine lv_land hx hb d_Sc_subtract_36 ?_
      refine lv_goto (tgt := 41) hx hb d_Sc_subtract_37 (by decide) ?_
      exact wb_Sc_subtract_s1x4_41 (fu := fu) F hk_5 _ _ _ _ _ _ hf _ _ _ hP hD hS (lv_sub hl [1, 2, 0, 3] rfl)
theorem w_Sc_subtract_s1x4_5 {p : Program} {l : Launch} {e : Env} {s : State} {m : MethodId} {args : Array Value} {below : List Frame} {meth : Method} {c : Code} {D : va_G} {cy : Nat → ClassId} {A : Nat → Prop} {ad : Nat → Nat} {b0 : Nat} {fu : Nat} (F : Fx p s m args meth c b_Sc_subtract 5 "CoinKeeper$Scalar" "subtract" none D cy ad A) : ∀ n : Nat, I_Sc_subtract_s1x4_5 p l e s m args below meth c D cy A ad b0 (x_Sc_subtract_s1x4_5 fu n)
  | 0 => fun _ _ _ _ hf => nomatch (show (none : Option ((Nat → Int64))) = some _ from hf)
  | n + 1 => wb_Sc_subtract_s1x4_5 F (w_Sc_subtract_s1x4_5 F n)
set_option maxHeartbeats 8000000 in
set_option maxRecDepth 100000 in
theorem we_Sc_subtract_s1x4 {p : Program} {l : Launch} {e : Env} {s : State} {m : MethodId} {args : Array Value} {below : List Frame} {meth : Method} {c : Code} {D : va_G} {cy : Nat → ClassId} {A : Nat → Prop} {ad : Nat → Nat} {b0 : Nat} {fu : Nat} (F : Fx p s m args meth c b_Sc_subtract 5 "CoinKeeper$Scalar" "subtract" none D cy ad A) : I_Sc_subtract_s1x4_e p l e s m args below meth c D cy A ad b0 (x_Sc_subtract_s1x4 fu) := by
  obtain ⟨hx, hb, hr, hml, hown, hts, hlocks, hK, hA, hSt, hnm, hex⟩ := id F
  intro u0 res hf H locs ls hP hD hS hl
  unfold x_Sc_subtract_s1x4 at hf
  refine lv_lconst (v := 0) hx hb d_Sc_subtract_0 (by decide) ?_
  refine lv_lstore_n (lv' := [(2, .long (0 : Int64)), (0, .ref b0), (1, .ref (ad 4))]) hx hb d_Sc_subtract_1 rfl hl (by decide) rfl (fun ls hl => ?_)
  refine lv_iconst (v := 0) hx hb d_Sc_subtract_2 (by decide) ?_
  refine lv_istore (lv' := [(4, .int (0 : Int32)), (2, .long (0 : Int64)), (0, .ref b0), (1, .ref (ad 4))]) hx hb d_Sc_subtract_3 hl (by decide) rfl (fun ls hl => ?_)
  exact w_Sc_subtract_s1x4_5 F fu _ _ _ _ hf _ _ _ hP hD hS (lv_sub hl [2, 3, 1, 0] rfl)
theorem c_Sc_subtract_s1x4 (l : Launch) (D : va_G) (cy : Nat → ClassId) (ad : Nat → Nat) (fu : Nat) (b0 : Nat) (u0 : Nat → Int64) (res : (Nat → Int64)) (hf : x_Sc_subtract_s1x4 fu u0 = some res) (sz : Nat) : Met l ({ cls := "CoinKeeper$Scalar", name := "subtract", desc := "([J[J)V" } : Jvm.MethodName) (.code ({ cls := "CoinKeeper$Scalar", name := "subtract", desc := "([J[J)V" } : Jvm.MethodName) b_Sc_subtract 5 none :: gw) rm_Sc_subtract_s1x4 (va_Pc [.ref b0, .ref (ad 4)] (Pr D cy ad [(b0, .inl (cy 2, 5, .inr (.inl u0)))] sz)) (q_Sc_subtract_s1x4 D cy (va_A [(b0, .inl (cy 2, 5, .inr (.inl u0)))] sz) b0 res) 0 0 (va_A [(b0, .inl (cy 2, 5, .inr (.inl u0)))] sz) :=
  q_met (Qc := fun A => q_Sc_subtract_s1x4 D cy A b0 res) (by decide) rfl rfl (Nat.le_of_ble_eq_true rfl) (fun p e s m below meth c ls F hP hD hS hl => we_Sc_subtract_s1x4 (fu := fu) F u0 res hf _ _ _ hP hD hS hl) sz
abbrev rm_Sh_add_s1x3 : Room := { frames := 1, cells := 0, slots := 0, locals := 32 }
abbrev q_Sh_add_s1x3 (D : va_G) (cy : Nat → ClassId) (A : Nat → Prop) (o : Nat) (a_state : Nat) (a_w : Nat) (a_chunk : Nat) (res : Int32 × Int64 × (Nat → Int32) × (Nat → Int32) × (Nat → Int32)) : Array Value → State → Outcome → State → Prop := va_Qv (fun (_ : Unit) => True) (fun _ t => Po D cy A [(o, .inr (9, [.ref a_state, .ref a_w, .ref a_chunk, .int res.1, .long res.2.1])), (a_state, .inl (cy 1, 8, .inl res.2.2.1)), (a_w, .inl (cy 1, 64, .inl res.2.2.2.1)), (a_chunk, .inl (cy 0, 64, .inl res.2.2.2.2))] t) A
def I_Sh_add_s1x3_84 (p : Program) (l : Launch) (e : Env) (s : State) (m : MethodId) (args : Array Value) (below : List Frame) (meth : Method) (c : Code) (D : va_G) (cy : Nat → ClassId) (A : Nat → Prop) (ad : Nat → Nat) (o : Nat) (a_state : Nat) (a_w : Nat) (a_chunk : Nat) (k : Int32 → Int32 → Int32 → Int64 → (Nat → Int32) → (Nat → Int32) → (Nat → Int32) → Option (Int32 × Int64 × (Nat → Int32) × (Nat → Int32) × (Nat → Int32))) : Prop :=
  ∀ (x3 : Int32) (x4 : Int32) (u0 : Int32) (u1 : Int64) (u2 : Nat → Int32) (u3 : Nat → Int32) (u4 : Nat → Int32) (res : Int32 × Int64 × (Nat → Int32) × (Nat → Int32) × (Nat → Int32)), k x3 x4 u0 u1 u2 u3 u4 = some res → ∀ (H : Heap) (locs : List Loc) (ls : Array Slot), va_P D classes [(o, .inr (9, [.ref a_state, .ref a_w, .ref a_chunk, .int u0, .long u1])), (a_state, .inl (cy 1, 8, .inl u2)), (a_w, .inl (cy 1, 64, .inl u3)), (a_chunk, .inl (cy 0, 64, .inl u4))] H → va_D A [(o, .inr (9, [.ref a_state, .ref a_w, .ref a_chunk, .int u0, .long u1])), (a_state, .inl (cy 1, 8, .inl u2)), (a_w, .inl (cy 1, 64, .inl u3)), (a_chunk, .inl (cy 0, 64, .inl u4))] → va_S A s.heap H locs → lv_has ls 6 [(0, .ref o), (1, .ref (ad 3)), (3, .int x3), (4, .int x4)] → W p l e rm_Sh_add_s1x3 s m args below meth c H locs 0 0 (MQ below (q_Sh_add_s1x3 D cy A o a_state a_w a_chunk res) args s 0 0 A) (F0 m 84 ls [])
def I_Sh_add_s1x3_3 (p : Program) (l : Launch) (e : Env) (s : State) (m : MethodId) (args : Array Value) (below : List Frame) (meth : Method) (c : Code) (D : va_G) (cy : Nat → ClassId) (A : Nat → Prop) (ad : Nat → Nat) (o : Nat) (a_state : Nat) (a_w : Nat) (a_chunk : Nat) (k : Int32 → Int32 → Int32 → Int64 → (Nat → Int32) → (Nat → Int32) → (Nat → Int32) → Option (Int32 × Int64 × (Nat → Int32) × (Nat → Int32) × (Nat → Int32))) : Prop :=
  ∀ (x3 : Int32) (x4 : Int32) (u0 : Int32) (u1 : Int64) (u2 : Nat → Int32) (u3 : Nat → Int32) (u4 : Nat → Int32) (res : Int32 × Int64 × (Nat → Int32) × (Nat → Int32) × (Nat → Int32)), k x3 x4 u0 u1 u2 u3 u4 = some res → ∀ (H : Heap) (locs : List Loc) (ls : Array Slot), va_P D classes [(o, .inr (9, [.ref a_state, .ref a_w, .ref a_chunk, .int u0, .long u1])), (a_state, .inl (cy 1, 8, .inl u2)), (a_w, .inl (cy 1, 64, .inl u3)), (a_chunk, .inl (cy 0, 64, .inl u4))] H → va_D A [(o, .inr (9, [.ref a_state, .ref a_w, .ref a_chunk, .int u0, .long u1])), (a_state, .inl (cy 1, 8, .inl u2)), (a_w, .inl (cy 1, 64, .inl u3)), (a_chunk, .inl (cy 0, 64, .inl u4))] → va_S A s.heap H locs → lv_has ls 6 [(0, .ref o), (1, .ref (ad 3)), (3, .int x3), (4, .int x4)] → W p l e rm_Sh_add_s1x3 s m args below meth c H locs 0 0 (MQ below (q_Sh_add_s1x3 D cy A o a_state a_w a_chunk res) args s 0 0 A) (F0 m 3 ls [])
def I_Sh_add_s1x3_e (p : Program) (l : Launch) (e : Env) (s : State) (m : MethodId) (args : Array Value) (below : List Frame) (meth : Method) (c : Code) (D : va_G) (cy : Nat → ClassId) (A : Nat → Prop) (ad : Nat → Nat) (o : Nat) (a_state : Nat) (a_w : Nat) (a_chunk : Nat) (k : Int32 → Int32 → Int32 → Int64 → (Nat → Int32) → (Nat → Int32) → (Nat → Int32) → Option (Int32 × Int64 × (Nat → Int32) × (Nat → Int32) × (Nat → Int32))) : Prop :=
  ∀ (a2 : Int32) (a3 : Int32) (u0 : Int32) (u1 : Int64) (u2 : Nat → Int32) (u3 : Nat → Int32) (u4 : Nat → Int32) (res : Int32 × Int64 × (Nat → Int32) × (Nat → Int32) × (Nat → Int32)), k a2 a3 u0 u1 u2 u3 u4 = some res → ∀ (H : Heap) (locs : List Loc) (ls : Array Slot), va_P D classes [(o, .inr (9, [.ref a_state, .ref a_w, .ref a_chunk, .int u0, .long u1])), (a_state, .inl (cy 1, 8, .inl u2)), (a_w, .inl (cy 1, 64, .inl u3)), (a_chunk, .inl (cy 0, 64, .inl u4))] H → va_D A [(o, .inr (9, [.ref a_state, .ref a_w, .ref a_chunk, .int u0, .long u1])), (a_state, .inl (cy 1, 8, .inl u2)), (a_w, .inl (cy 1, 64, .inl u3)), (a_chunk, .inl (cy 0, 64, .inl u4))] → va_S A s.heap H locs → lv_has ls 6 [(0, .ref o), (1, .ref (ad 3)), (2, .int a2), (3, .int a3)] → W p l e rm_Sh_add_s1x3 s m args below meth c H locs 0 0 (MQ below (q_Sh_add_s1x3 D cy A o a_state a_w a_chunk res) args s 0 0 A) (F0 m 0 ls [])
set_option maxHeartbeats 8000000 in
set_option maxRecDepth 100000 in
theorem wb_Sh_add_s1x3_84 {p : Program} {l : Launch} {e : Env} {s : State} {m : MethodId} {args : Array Value} {below : List Frame} {meth : Method} {c : Code} {D : va_G} {cy : Nat → ClassId} {A : Nat → Prop} {ad : Nat → Nat} {o : Nat} {a_state : Nat} {a_w : Nat} {a_chunk : Nat} {fu : Nat} {k_3 : Int32 → Int32 → Int32 → Int64 → (Nat → Int32) → (Nat → Int32) → (Nat → Int32) → Option (Int32 × Int64 × (Nat → Int32) × (Nat → Int32) × (Nat → Int32))} (F : Fx p s m args meth c b_Sh_add 6 "CoinKeeper$Sha256" "add" none D cy ad A) (hk_3 : I_Sh_add_s1x3_3 p l e s m args below meth c D cy A ad o a_state a_w a_chunk k_3) : I_Sh_add_s1x3_84 p l e s m args below meth c D cy A ad o a_state a_w a_chunk (xb_Sh_add_s1x3_84 fu k_3) := by
  obtain ⟨hx, hb, hr, hml, hown, hts, hlocks, hK, hA, hSt, hnm, hex⟩ := id F
  intro x3 x4 u0 u1 u2 u3 u4 res hf H locs ls hP hD hS hl
  unfold xb_Sh_add_s1x3_84 at hf
  refine lv_goto (tgt := 3) hx hb d_Sh_add_84 (by decide) ?_
  exact hk_3 _ _ _ _ _ _ _ _ hf _ _ _ hP hD hS (lv_sub hl [0, 1, 2, 3] rfl)
theorem hds_75 : ({ cls := "CoinKeeper$Sha256", name := "mix", desc := "()V" } : Jvm.MethodName).cls ≠ "java/lang/invoke/MethodHandle" ∧ ({ cls := "CoinKeeper$Sha256", name := "mix", desc := "()V" } : Jvm.MethodName).cls ≠ "java/lang/invoke/VarHandle" ∧ (parseMethodDescriptor ({ cls := "CoinKeeper$Sha256", name := "mix", desc := "()V" } : Jvm.MethodName).desc).map (fun d => d.parameters.length) = some 0 := by decide +kernel
set_option maxHeartbeats 8000000 in
set_option maxRecDepth 100000 in
theorem wb_Sh_add_s1x3_3 {p : Program} {l : Launch} {e : Env} {s : State} {m : MethodId} {args : Array Value} {below : List Frame} {meth : Method} {c : Code} {D : va_G} {cy : Nat → ClassId} {A : Nat → Prop} {ad : Nat → Nat} {o : Nat} {a_state : Nat} {a_w : Nat} {a_chunk : Nat} {fu : Nat} {k_3 : Int32 → Int32 → Int32 → Int64 → (Nat → Int32) → (Nat → Int32) → (Nat → Int32) → Option (Int32 × Int64 × (Nat → Int32) × (Nat → Int32) × (Nat → Int32))} (F : Fx p s m args meth c b_Sh_add 6 "CoinKeeper$Sha256" "add" none D cy ad A) (hk_3 : I_Sh_add_s1x3_3 p l e s m args below meth c D cy A ad o a_state a_w a_chunk k_3) : I_Sh_add_s1x3_3 p l e s m args below meth c D cy A ad o a_state a_w a_chunk (xb_Sh_add_s1x3_3 fu k_3) := by
  obtain ⟨hx, hb, hr, hml, hown, hts, hlocks, hK, hA, hSt, hnm, hex⟩ := id F
  intro x3 x4 u0 u1 u2 u3 u4 res hf H locs ls hP hD hS hl
  unfold xb_Sh_add_s1x3_3 at hf
  refine lv_iload hx hb d_Sh_add_3 (lv_at hl 3 rfl) ?_
  refine lv_iload_n hx hb d_Sh_add_5 rfl (lv_at hl 2 rfl) ?_
  refine lv_icmp_ge (tgt := 87) hx hb d_Sh_add_6 (by decide) (fun cx => ?_) (fun cx => ?_)
  · have hf := ifp cx hf
    obtain rfl := Option.some.inj hf
    exact q_rv hx hb hr hlocks hK hP hD hS d_Sh_add_87
  · have hf := ifn cx hf
    refine lv_bipush (v := 64) hx hb d_Sh_add_9 (by decide) ?_
    refine lv_aload_n hx hb d_Sh_add_11 rfl (lv_at hl 0 rfl) ?_
    refine va_get (D := D) (ci := 9) (v := .int u0) (C := "CoinKeeper$Sha256") (T := F_9) (N := 5) hx hb hts i_9 hown hK hP 0 rfl rfl 3 (by decide) (hts _ gw_47) (fun _ h9 => h9) rfl d_Sh_add_12 ?_
    refine lv_isub hx hb d_Sh_add_15 ?_
    refine lv_topi (fun v1 ev => ?_)
    have hf := bn ev hf
    clear ev
    refine lv_iload_n hx hb d_Sh_add_16 rfl (lv_at hl 2 rfl) ?_
    refine lv_iload hx hb d_Sh_add_17 (lv_at hl 3 rfl) ?_
    refine lv_isub hx hb d_Sh_add_19 ?_
    refine lv_topi (fun v2 ev => ?_)
    have hf := bn ev hf
    clear ev
    refine va_mmin (rest := []) hx hb (hml.trans hl.1.symm) hown (hts _ gw_723) (hts _ gw_493) (hts _ gw_15) (hts _ gw_494) (by decide) (Nat.le_of_ble_eq_true rfl) (Nat.zero_le _) (Nat.zero_le _) d_Sh_add_20 ?_
    refine lv_topi (fun v3 ev => ?_)
    have hf := bn ev hf
    clear ev
    refine lv_istore (lv' := [(5, .int v3), (0, .ref o), (1, .ref (ad 3)), (3, .int x3), (4, .int x4)]) hx hb d_Sh_add_23 hl (by decide) rfl (fun ls hl => ?_)
    refine lv_aload_n hx hb d_Sh_add_25 rfl (lv_at hl 2 rfl) ?_
    refine lv_iload hx hb d_Sh_add_26 (lv_at hl 4 rfl) ?_
    refine lv_aload_n hx hb d_Sh_add_28 rfl (lv_at hl 1 rfl) ?_
    refine va_get (D := D) (ci := 9) (v := .ref a_chunk) (C := "CoinKeeper$Sha256") (T := F_9) (N := 5) hx hb hts i_9 hown hK hP 0 rfl rfl 2 (by decide) (hts _ gw_46) (fun _ h9 => h9) rfl d_Sh_add_29 ?_
    refine lv_aload_n hx hb d_Sh_add_32 rfl (lv_at hl 1 rfl) ?_
    refine va_get (D := D) (ci := 9) (v := .int u0) (C := "CoinKeeper$Sha256") (T := F_9) (N := 5) hx hb hts i_9 hown hK hP 0 rfl rfl 3 (by decide) (hts _ gw_47) (fun _ h9 => h9) rfl d_Sh_add_33 ?_
    refine lv_iload hx hb d_Sh_add_36 (lv_at hl 0 rfl) ?_
    obtain ⟨hg, hf⟩ := gdp hf
    refine q_copytb (rest := []) hx hb (hml.trans hl.1.symm) hown (hts _ gw_718) (hts _ gw_497) (hts _ gw_496) (hts _ gw_17) hK hP hD hS (hSt.1 3 _ rfl).2 3 0 rfl rfl (cpk_p hg).1 (cpk_p hg).2.1 (cpk_p hg).2.2.1 (cpk_p hg).2.2.2.1 (cpk_p hg).2.2.2.2 (by decide) (by decide) (by decide) d_Sh_add_38 (fun H locs hP hD hS => ?_)
    obtain ⟨f4, ev, hf⟩ := bne hf
    have hP : va_P D classes [(o, .inr (9, [.ref a_state, .ref a_w, .ref a_chunk, .int u0, .long u1])), (a_state, .inl (cy 1, 8, .inl u2)), (a_w, .inl (cy 1, 64, .inl u3)), (a_chunk, .inl (cy 0, 64, .inl f4))] H := by rw [ev]; exact hP
    have hD : va_D A [(o, .inr (9, [.ref a_state, .ref a_w, .ref a_chunk, .int u0, .long u1])), (a_state, .inl (cy 1, 8, .inl u2)), (a_w, .inl (cy 1, 64, .inl u3)), (a_chunk, .inl (cy 0, 64, .inl f4))] := by rw [ev]; exact hD
    clear ev
    refine lv_iload hx hb d_Sh_add_41 (lv_at hl 4 rfl) ?_
    refine lv_iload hx hb d_Sh_add_43 (lv_at hl 0 rfl) ?_
    refine lv_iadd hx hb d_Sh_add_45 ?_
    refine lv_topi (fun v5 ev => ?_)
    have hf := bn ev hf
    clear ev
    refine lv_istore (lv' := [(4, .int v5), (5, .int v3), (0, .ref o), (1, .ref (ad 3)), (3, .int x3)]) hx hb d_Sh_add_46 hl (by decide) rfl (fun ls hl => ?_)
    refine lv_aload_n hx hb d_Sh_add_48 rfl (lv_at hl 2 rfl) ?_
    refine lv_dup hx hb d_Sh_add_49 rfl ?_
    refine va_get (D := D) (ci := 9) (v := .int u0) (C := "CoinKeeper$Sha256") (T := F_9) (N := 5) hx hb hts i_9 hown hK hP 0 rfl rfl 3 (by decide) (hts _ gw_47) (fun _ h9 => h9) rfl d_Sh_add_50 ?_
    refine lv_iload hx hb d_Sh_add_53 (lv_at hl 1 rfl) ?_
    refine lv_iadd hx hb d_Sh_add_55 ?_
    refine lv_topi (fun v6 ev => ?_)
    have hf := bn ev hf
    clear ev
    refine va_put (D := D) (ci := 9) (v := .int v6) (ty := .int) (C := "CoinKeeper$Sha256") (T := F_9) (N := 5) hx hb hts i_9 t_9 t_9_ok n_9 hown hK hP hD hS 0 rfl rfl 3 (by decide) (hts _ gw_47) (fun _ h9 => h9) rfl (by decide +kernel) rfl rfl (Nat.le_of_ble_eq_true rfl) d_Sh_add_56 (fun H locs hP hD hS => ?_)
    have hP : va_P D classes [(o, .inr (9, [.ref a_state, .ref a_w, .ref a_chunk, .int v6, .long u1])), (a_state, .inl (cy 1, 8, .inl u2)), (a_w, .inl (cy 1, 64, .inl u3)), (a_chunk, .inl (cy 0, 64, .inl f4))] H := hP
    have hD : va_D A [(o, .inr (9, [.ref a_state, .ref a_w, .ref a_chunk, .int v6, .long u1])), (a_state, .inl (cy 1, 8, .inl u2)), (a_w, .inl (cy 1, 64, .inl u3)), (a_chunk, .inl (cy 0, 64, .inl f4))] := hD
    refine lv_aload_n hx hb d_Sh_add_59 rfl (lv_at hl 2 rfl) ?_
    refine lv_dup hx hb d_Sh_add_60 rfl ?_
    refine va_get (D := D) (ci := 9) (v := .long u1) (C := "CoinKeeper$Sha256") (T := F_9) (N := 5) hx hb hts i_9 hown hK hP 0 rfl rfl 4 (by decide) (hts _ gw_48) (fun _ h9 => h9) rfl d_Sh_add_61 ?_
    refine lv_iload hx hb d_Sh_add_64 (lv_at hl 1 rfl) ?_
    refine lv_i2l hx hb d_Sh_add_66 rfl ?_
    refine lv_ladd hx hb d_Sh_add_67 ?_
    refine lv_topl (fun v7 ev => ?_)
    have hf := bn ev hf
    clear ev
    refine va_put (D := D) (ci := 9) (v := .long v7) (ty := .long) (C := "CoinKeeper$Sha256") (T := F_9) (N := 5) hx hb hts i_9 t_9 t_9_ok n_9 hown hK hP hD hS 0 rfl rfl 4 (by decide) (hts _ gw_48) (fun _ h9 => h9) rfl (by decide +kernel) rfl rfl (Nat.le_of_ble_eq_true rfl) d_Sh_add_68 (fun H locs hP hD hS => ?_)
    have hP : va_P D classes [(o, .inr (9, [.ref a_state, .ref a_w, .ref a_chunk, .int v6, .long v7])), (a_state, .inl (cy 1, 8, .inl u2)), (a_w, .inl (cy 1, 64, .inl u3)), (a_chunk, .inl (cy 0, 64, .inl f4))] H := hP
    have hD : va_D A [(o, .inr (9, [.ref a_state, .ref a_w, .ref a_chunk, .int v6, .long v7])), (a_state, .inl (cy 1, 8, .inl u2)), (a_w, .inl (cy 1, 64, .inl u3)), (a_chunk, .inl (cy 0, 64, .inl f4))] := hD
    refine lv_aload_n hx hb d_Sh_add_71 rfl (lv_at hl 2 rfl) ?_
    refine va_get (D := D) (ci := 9) (v := .int v6) (C := "CoinKeeper$Sha256") (T := F_9) (N := 5) hx hb hts i_9 hown hK hP 0 rfl rfl 3 (by decide) (hts _ gw_47) (fun _ h9 => h9) rfl d_Sh_add_72 ?_
    refine lv_bipush (v := 64) hx hb d_Sh_add_75 (by decide) ?_
    refine lv_icmp_ne (tgt := 84) hx hb d_Sh_add_77 (by decide) (fun cx => ?_) (fun cx => ?_)
    · have hf := ifn cx hf
      exact wb_Sh_add_s1x3_84 (fu := fu) F hk_3 _ _ _ _ _ _ _ _ hf _ _ _ hP hD hS (lv_sub hl [2, 3, 4, 0] rfl)
    · have hf := ifp cx hf
      refine lv_aload_n hx hb d_Sh_add_80 rfl (lv_at hl 2 rfl) ?_
      obtain ⟨e8, f9, f10, hc, hf⟩ := bdp3 hf
      refine q_av (wr := []) (va_runV (C := "CoinKeeper$Sha256") (As := []) (rest := []) ⟨hx, hb, hml, hown, hts⟩ (c_Sh_mix l D cy ad fu o a_state a_w a_chunk v7 f4 v6 u2 u3 _ hc H.size) ⟨q_cB hts gw_727 gw_2 gw_724 hds_75 ⟨by decide, by decide⟩, hts _ gw_726, hts _ gs_10⟩ (q_preV (q_pre (hP.sub [0, 1, 2, 3] rfl) (hD.sub [0, 1, 2, 3] (by decide) rfl) hK hSt hS (va_free hD hS hA [0, 1, 2, 3] rfl) _) (va_recv hK (hP.sub [0, 1, 2, 3] rfl) (ci := 9) (q0 := 0) rfl rfl)) rfl rfl hl.1 rfl (lv_room (Nat.le_of_ble_eq_true rfl)) d_Sh_add_81 ⟨Nat.le_of_ble_eq_true rfl, Nat.le_of_ble_eq_true rfl⟩) hP hD hS hA [0, 1, 2, 3] [] rfl rfl (by decide) (by decide) (fun H locs hP hD hS => ?_)
      clear hc
      have hP : va_P D classes [(o, .inr (9, [.ref a_state, .ref a_w, .ref a_chunk, .int e8, .long v7])), (a_state, .inl (cy 1, 8, .inl f9)), (a_w, .inl (cy 1, 64, .inl f10)), (a_chunk, .inl (cy 0, 64, .inl f4))] H := hP
      have hD : va_D A [(o, .inr (9, [.ref a_state, .ref a_w, .ref a_chunk, .int e8, .long v7])), (a_state, .inl (cy 1, 8, .inl f9)), (a_w, .inl (cy 1, 64, .inl f10)), (a_chunk, .inl (cy 0, 64, .inl f4))] := hD
      exact wb_Sh_add_s1x3_84 (fu := fu) F hk_3 _ _ _ _ _ _ _ _ hf _ _ _ hP hD hS (lv_sub hl [2, 3, 4, 0] rfl)
theorem w_Sh_add_s1x3_3 {p : Program} {l : Launch} {e : Env} {s : State} {m : MethodId} {args : Array Value} {below : List Frame} {meth : Method} {c : Code} {D : va_G} {cy : Nat → ClassId} {A : Nat → Prop} {ad : Nat → Nat} {o : Nat} {a_state : Nat} {a_w : Nat} {a_chunk : Nat} {fu : Nat} (F : Fx p s m args meth c b_Sh_add 6 "CoinKeeper$Sha256" "add" none D cy ad A) : ∀ n : Nat, I_Sh_add_s1x3_3 p l e s m args below meth c D cy A ad o a_state a_w a_chunk (x_Sh_add_s1x3_3 fu n)
  | 0 => fun _ _ _ _ _ _ _ _ hf => nomatch (show (none : Option (Int32 × Int64 × (Nat → Int32) × (Nat → Int32) × (Nat → Int32))) = some _ from hf)
  | n + 1 => wb_Sh_add_s1x3_3 F (w_Sh_add_s1x3_3 F n)
set_option maxHeartbeats 8000000 in
set_option maxRecDepth 100000 in
theorem we_Sh_add_s1x3 {p : Program} {l : Launch} {e : Env} {s : State} {m : MethodId} {args : Array Value} {below : List Frame} {meth : Method} {c : Code} {D : va_G} {cy : Nat → ClassId} {A : Nat → Prop} {ad : Nat → Nat} {o : Nat} {a_state : Nat} {a_w : Nat} {a_chunk : Nat} {fu : Nat} (F : Fx p s m args meth c b_Sh_add 6 "CoinKeeper$Sha256" "add" none D cy ad A) : I_Sh_add_s1x3_e p l e s m args below meth c D cy A ad o a_state a_w a_chunk (x_Sh_add_s1x3 fu) := by
  obtain ⟨hx, hb, hr, hml, hown, hts, hlocks, hK, hA, hSt, hnm, hex⟩ := id F
  intro a2 a3 u0 u1 u2 u3 u4 res hf H locs ls hP hD hS hl
  unfold x_Sh_add_s1x3 at hf
  refine lv_iload_n hx hb d_Sh_add_0 rfl (lv_at hl 2 rfl) ?_
  refine lv_istore (lv' := [(4, .int a2), (0, .ref o), (1, .ref (ad 3)), (2, .int a2), (3, .int a3)]) hx hb d_Sh_add_1 hl (by decide) rfl (fun ls hl => ?_)
  exact w_Sh_add_s1x3_3 F fu _ _ _ _ _ _ _ _ hf _ _ _ hP hD hS (lv_sub hl [1, 2, 4, 0] rfl)
theorem c_Sh_add_s1x3 (l : Launch) (D : va_G) (cy : Nat → ClassId) (ad : Nat → Nat) (fu : Nat) (o : Nat) (a_state : Nat) (a_w : Nat) (a_chunk : Nat) (a2 : Int32) (a3 : Int32) (u0 : Int32) (u1 : Int64) (u2 : Nat → Int32) (u3 : Nat → Int32) (u4 : Nat → Int32) (res : Int32 × Int64 × (Nat → Int32) × (Nat → Int32) × (Nat → Int32)) (hf : x_Sh_add_s1x3 fu a2 a3 u0 u1 u2 u3 u4 = some res) (sz : Nat) : Met l ({ cls := "CoinKeeper$Sha256", name := "add", desc := "([BII)V" } : Jvm.MethodName) (.code ({ cls := "CoinKeeper$Sha256", name := "add", desc := "([BII)V" } : Jvm.MethodName) b_Sh_add 6 none :: gw) rm_Sh_add_s1x3 (va_Pc [.ref o, .ref (ad 3), .int a2, .int a3] (Pr D cy ad [(o, .inr (9, [.ref a_state, .ref a_w, .ref a_chunk, .int u0, .long u1])), (a_state, .inl (cy 1, 8, .inl u2)), (a_w, .inl (cy 1, 64, .inl u3)), (a_chunk, .inl (cy 0, 64, .inl u4))] sz)) (q_Sh_add_s1x3 D cy (va_A [(o, .inr (9, [.ref a_state, .ref a_w, .ref a_chunk, .int u0, .long u1])), (a_state, .inl (cy 1, 8, .inl u2)), (a_w, .inl (cy 1, 64, .inl u3)), (a_chunk, .inl (cy 0, 64, .inl u4))] sz) o a_state a_w a_chunk res) 0 0 (va_A [(o, .inr (9, [.ref a_state, .ref a_w, .ref a_chunk, .int u0, .long u1])), (a_state, .inl (cy 1, 8, .inl u2)), (a_w, .inl (cy 1, 64, .inl u3)), (a_chunk, .inl (cy 0, 64, .inl u4))] sz) :=
  q_met (Qc := fun A => q_Sh_add_s1x3 D cy A o a_state a_w a_chunk res) (by decide) rfl rfl (Nat.le_of_ble_eq_true rfl) (fun p e s m below meth c ls F hP hD hS hl => we_Sh_add_s1x3 (fu := fu) F a2 a3 u0 u1 u2 u3 u4 res hf _ _ _ hP hD hS hl) sz
abbrev b_Cu_takeRoot : ByteArray := prog_4_method_6_code
theorem d_Cu_takeRoot_0 : decode b_Cu_takeRoot 0 = .ok (.aload_n 1, 1) := by decide +kernel
theorem d_Cu_takeRoot_1 : decode b_Cu_takeRoot 1 = .ok (.iconst 0, 1) := by decide +kernel
theorem d_Cu_takeRoot_2 : decode b_Cu_takeRoot 2 = .ok (.aload_n 0, 1) := by decide +kernel
theorem d_Cu_takeRoot_3 : decode b_Cu_takeRoot 3 = .ok (.getfield 11, 3) := by decide +kernel
theorem d_Cu_takeRoot_6 : decode b_Cu_takeRoot 6 = .ok (.iconst 0, 1) := by decide +kernel
theorem d_Cu_takeRoot_7 : decode b_Cu_takeRoot 7 = .ok (.aaload, 1) := by decide +kernel
theorem d_Cu_takeRoot_8 : decode b_Cu_takeRoot 8 = .ok (.iconst 0, 1) := by decide +kernel
theorem d_Cu_takeRoot_9 : decode b_Cu_takeRoot 9 = .ok (.bipush 10, 2) := by decide +kernel
theorem d_Cu_takeRoot_11 : decode b_Cu_takeRoot 11 = .ok (.invokestatic 87, 3) := by decide +kernel
theorem d_Cu_takeRoot_14 : decode b_Cu_takeRoot 14 = .ok (.iconst 0, 1) := by decide +kernel
theorem d_Cu_takeRoot_15 : decode b_Cu_takeRoot 15 = .ok (.istore_n 3, 1) := by decide +kernel
theorem d_Cu_takeRoot_16 : decode b_Cu_takeRoot 16 = .ok (.iload_n 3, 1) := by decide +kernel
theorem d_Cu_takeRoot_17 : decode b_Cu_takeRoot 17 = .ok (.getstatic 93, 3) := by decide +kernel
theorem d_Cu_takeRoot_20 : decode b_Cu_takeRoot 20 = .ok (.arraylength, 1) := by decide +kernel
theorem d_Cu_takeRoot_21 : decode b_Cu_takeRoot 21 = .ok (.if_icmp .ge 82, 3) := by decide +kernel
theorem d_Cu_takeRoot_24 : decode b_Cu_takeRoot 24 = .ok (.aload_n 0, 1) := by decide +kernel
theorem d_Cu_takeRoot_25 : decode b_Cu_takeRoot 25 = .ok (.getfield 11, 3) := by decide +kernel
theorem d_Cu_takeRoot_28 : decode b_Cu_takeRoot 28 = .ok (.getstatic 93, 3) := by decide +kernel
theorem d_Cu_takeRoot_31 : decode b_Cu_takeRoot 31 = .ok (.iload_n 3, 1) := by decide +kernel
theorem d_Cu_takeRoot_32 : decode b_Cu_takeRoot 32 = .ok (.iconst 1, 1) := by decide +kernel
theorem d_Cu_takeRoot_33 : decode b_Cu_takeRoot 33 = .ok (.iadd, 1) := by decide +kernel
theorem d_Cu_takeRoot_34 : decode b_Cu_takeRoot 34 = .ok (.baload, 1) := by decide +kernel
theorem d_Cu_takeRoot_35 : decode b_Cu_takeRoot 35 = .ok (.aaload, 1) := by decide +kernel
theorem d_Cu_takeRoot_36 : decode b_Cu_takeRoot 36 = .ok (.iconst 0, 1) := by decide +kernel
theorem d_Cu_takeRoot_37 : decode b_Cu_takeRoot 37 = .ok (.aload_n 2, 1) := by decide +kernel
theorem d_Cu_takeRoot_38 : decode b_Cu_takeRoot 38 = .ok (.iconst 0, 1) := by decide +kernel
theorem d_Cu_takeRoot_39 : decode b_Cu_takeRoot 39 = .ok (.bipush 10, 2) := by decide +kernel
theorem d_Cu_takeRoot_41 : decode b_Cu_takeRoot 41 = .ok (.invokestatic 87, 3) := by decide +kernel
theorem d_Cu_takeRoot_44 : decode b_Cu_takeRoot 44 = .ok (.iconst 0, 1) := by decide +kernel
theorem d_Cu_takeRoot_45 : decode b_Cu_takeRoot 45 = .ok (.istore 4, 2) := by decide +kernel
theorem d_Cu_takeRoot_47 : decode b_Cu_takeRoot 47 = .ok (.iload 4, 2) := by decide +kernel
theorem d_Cu_takeRoot_49 : decode b_Cu_takeRoot 49 = .ok (.getstatic 93, 3) := by decide +kernel
theorem d_Cu_takeRoot_52 : decode b_Cu_takeRoot 52 = .ok (.iload_n 3, 1) := by decide +kernel
theorem d_Cu_takeRoot_53 : decode b_Cu_takeRoot 53 = .ok (.iconst 2, 1) := by decide +kernel
theorem d_Cu_takeRoot_54 : decode b_Cu_takeRoot 54 = .ok (.iadd, 1) := by decide +kernel
theorem d_Cu_takeRoot_55 : decode b_Cu_takeRoot 55 = .ok (.baload, 1) := by decide +kernel
theorem d_Cu_takeRoot_56 : decode b_Cu_takeRoot 56 = .ok (.if_icmp .ge 15, 3) := by decide +kernel
theorem d_Cu_takeRoot_59 : decode b_Cu_takeRoot 59 = .ok (.aload_n 2, 1) := by decide +kernel
theorem d_Cu_takeRoot_60 : decode b_Cu_takeRoot 60 = .ok (.aload_n 2, 1) := by decide +kernel
theorem d_Cu_takeRoot_61 : decode b_Cu_takeRoot 61 = .ok (.aload_n 2, 1) := by decide +kernel
theorem d_Cu_takeRoot_62 : decode b_Cu_takeRoot 62 = .ok (.invokestatic 44, 3) := by decide +kernel
theorem d_Cu_takeRoot_65 : decode b_Cu_takeRoot 65 = .ok (.iinc 4 1, 3) := by decide +kernel
theorem d_Cu_takeRoot_68 : decode b_Cu_takeRoot 68 = .ok (.goto (-21), 3) := by decide +kernel
theorem d_Cu_takeRoot_71 : decode b_Cu_takeRoot 71 = .ok (.aload_n 2, 1) := by decide +kernel
theorem d_Cu_takeRoot_72 : decode b_Cu_takeRoot 72 = .ok (.aload_n 0, 1) := by decide +kernel
theorem d_Cu_takeRoot_73 : decode b_Cu_takeRoot 73 = .ok (.getfield 11, 3) := by decide +kernel
theorem d_Cu_takeRoot_76 : decode b_Cu_takeRoot 76 = .ok (.getstatic 93, 3) := by decide +kernel
theorem d_Cu_takeRoot_79 : decode b_Cu_takeRoot 79 = .ok (.iload_n 3, 1) := by decide +kernel
theorem d_Cu_takeRoot_80 : decode b_Cu_takeRoot 80 = .ok (.iconst 3, 1) := by decide +kernel
theorem d_Cu_takeRoot_81 : decode b_Cu_takeRoot 81 = .ok (.iadd, 1) := by decide +kernel
theorem d_Cu_takeRoot_82 : decode b_Cu_takeRoot 82 = .ok (.baload, 1) := by decide +kernel
theorem d_Cu_takeRoot_83 : decode b_Cu_takeRoot 83 = .ok (.aaload, 1) := by decide +kernel
theorem d_Cu_takeRoot_84 : decode b_Cu_takeRoot 84 = .ok (.aload_n 0, 1) := by decide +kernel
theorem d_Cu_takeRoot_85 : decode b_Cu_takeRoot 85 = .ok (.getfield 11, 3) := by decide +kernel
theorem d_Cu_takeRoot_88 : decode b_Cu_takeRoot 88 = .ok (.getstatic 93, 3) := by decide +kernel
theorem d_Cu_takeRoot_91 : decode b_Cu_takeRoot 91 = .ok (.iload_n 3, 1) := by decide +kernel
theorem d_Cu_takeRoot_92 : decode b_Cu_takeRoot 92 = .ok (.baload, 1) := by decide +kernel
theorem d_Cu_takeRoot_93 : decode b_Cu_takeRoot 93 = .ok (.aaload, 1) := by decide +kernel
theorem d_Cu_takeRoot_94 : decode b_Cu_takeRoot 94 = .ok (.invokestatic 44, 3) := by decide +kernel
theorem d_Cu_takeRoot_97 : decode b_Cu_takeRoot 97 = .ok (.iinc 3 4, 3) := by decide +kernel
theorem d_Cu_takeRoot_100 : decode b_Cu_takeRoot 100 = .ok (.goto (-84), 3) := by decide +kernel
theorem d_Cu_takeRoot_103 : decode b_Cu_takeRoot 103 = .ok (.aload_n 0, 1) := by decide +kernel
theorem d_Cu_takeRoot_104 : decode b_Cu_takeRoot 104 = .ok (.getfield 11, 3) := by decide +kernel
theorem d_Cu_takeRoot_107 : decode b_Cu_takeRoot 107 = .ok (.iconst 3, 1) := by decide +kernel
theorem d_Cu_takeRoot_108 : decode b_Cu_takeRoot 108 = .ok (.aaload, 1) := by decide +kernel
theorem d_Cu_takeRoot_109 : decode b_Cu_takeRoot 109 = .ok (.aload_n 0, 1) := by decide +kernel
theorem d_Cu_takeRoot_110 : decode b_Cu_takeRoot 110 = .ok (.getfield 11, 3) := by decide +kernel
theorem d_Cu_takeRoot_113 : decode b_Cu_takeRoot 113 = .ok (.iconst 3, 1) := by decide +kernel
theorem d_Cu_takeRoot_114 : decode b_Cu_takeRoot 114 = .ok (.aaload, 1) := by decide +kernel
theorem d_Cu_takeRoot_115 : decode b_Cu_takeRoot 115 = .ok (.aload_n 2, 1) := by decide +kernel
theorem d_Cu_takeRoot_116 : decode b_Cu_takeRoot 116 = .ok (.invokestatic 44, 3) := by decide +kernel
theorem d_Cu_takeRoot_119 : decode b_Cu_takeRoot 119 = .ok (.aload_n 2, 1) := by decide +kernel
theorem d_Cu_takeRoot_120 : decode b_Cu_takeRoot 120 = .ok (.aload_n 2, 1) := by decide +kernel
theorem d_Cu_takeRoot_121 : decode b_Cu_takeRoot 121 = .ok (.aload_n 2, 1) := by decide +kernel
theorem d_Cu_takeRoot_122 : decode b_Cu_takeRoot 122 = .ok (.invokestatic 44, 3) := by decide +kernel
theorem d_Cu_takeRoot_125 : decode b_Cu_takeRoot 125 = .ok (.return_, 1) := by decide +kernel
abbrev rmw_mCu_takeRoot (MC MS : Nat) : Room := { frames := 1, cells := MC, slots := MS, locals := 84 }
def Iw_mCu_takeRoot_47 (p : Program) (l : Launch) (e : Env) (s : State) (m : MethodId) (args : Array Value) (below : List Frame) (meth : Method) (c : Code) (D : va_G) (cy : Nat → ClassId) (A : Nat → Prop) (ad : Nat → Nat) (mi MC MS : Nat) (Φ : Mm → Prop) (k : Nat → Nat → Mm → Nat → Nat → Int32 → Int32 → Prop) : Prop :=
  ∀ (κ σ : Nat) (M : Mm) (x0 : Nat) (x2 : Nat) (x3 : Int32) (x4 : Int32), k κ σ M x0 x2 x3 x4 → κ ≤ MC → σ ≤ MS → ∀ (H : Heap) (locs : List Loc) (ls : Array Slot), va_P D classes (mw M) H → va_D A (mw M) → va_S A s.heap H locs → lv_has ls 5 [(0, .ref x0), (2, .ref x2), (3, .int x3), (4, .int x4)] → W p l e (rmw_mCu_takeRoot MC MS) s m args below meth c H locs κ σ (MQ below (va_Qv Φ (fun u t => Po D cy A (mw u) t) A) args s MC MS A) (F0 m 47 ls [])
def Iw_mCu_takeRoot_16 (p : Program) (l : Launch) (e : Env) (s : State) (m : MethodId) (args : Array Value) (below : List Frame) (meth : Method) (c : Code) (D : va_G) (cy : Nat → ClassId) (A : Nat → Prop) (ad : Nat → Nat) (mi MC MS : Nat) (Φ : Mm → Prop) (k : Nat → Nat → Mm → Nat → Nat → Int32 → Prop) : Prop :=
  ∀ (κ σ : Nat) (M : Mm) (x0 : Nat) (x2 : Nat) (x3 : Int32), k κ σ M x0 x2 x3 → κ ≤ MC → σ ≤ MS → ∀ (H : Heap) (locs : List Loc) (ls : Array Slot), va_P D classes (mw M) H → va_D A (mw M) → va_S A s.heap H locs → lv_has ls 5 [(0, .ref x0), (2, .ref x2), (3, .int x3)] → W p l e (rmw_mCu_takeRoot MC MS) s m args below meth c H locs κ σ (MQ below (va_Qv Φ (fun u t => Po D cy A (mw u) t) A) args s MC MS A) (F0 m 16 ls [])
def Iw_mCu_takeRoot_e (p : Program) (l : Launch) (e : Env) (s : State) (m : MethodId) (args : Array Value) (below : List Frame) (meth : Method) (c : Code) (D : va_G) (cy : Nat → ClassId) (A : Nat → Prop) (ad : Nat → Nat) (mi MC MS : Nat) (Φ : Mm → Prop) (k : Nat → Nat → Mm → Nat → Nat → Nat → Prop) : Prop :=
  ∀ (κ σ : Nat) (M : Mm) (a0 : Nat) (a1 : Nat) (a2 : Nat), k κ σ M a0 a1 a2 → κ ≤ MC → σ ≤ MS → ∀ (H : Heap) (locs : List Loc) (ls : Array Slot), va_P D classes (mw M) H → va_D A (mw M) → va_S A s.heap H locs → lv_has ls 5 [(0, .ref a0), (1, .ref a1), (2, .ref a2)] → W p l e (rmw_mCu_takeRoot MC MS) s m args below meth c H locs κ σ (MQ below (va_Qv Φ (fun u t => Po D cy A (mw u) t) A) args s MC MS A) (F0 m 0 ls [])
theorem hds_49 : ({ cls := "CoinKeeper$Curve", name := "multiply", desc := "([J[J[J)V" } : Jvm.MethodName).cls ≠ "java/lang/invoke/MethodHandle" ∧ ({ cls := "CoinKeeper$Curve", name := "multiply", desc := "([J[J[J)V" } : Jvm.MethodName).cls ≠ "java/lang/invoke/VarHandle" ∧ (parseMethodDescriptor ({ cls := "CoinKeeper$Curve", name := "multiply", desc := "([J[J[J)V" } : Jvm.MethodName).desc).map (fun d => d.parameters.length) = some 3 := by decide +kernel
set_option maxHeartbeats 8000000 in
set_option maxRecDepth 100000 in
theorem wv_mCu_takeRoot_47 {p : Program} {l : Launch} {e : Env} {s : State} {m : MethodId} {args : Array Value} {below : List Frame} {meth : Method} {c : Code} {D : va_G} {cy : Nat → ClassId} {A : Nat → Prop} {ad : Nat → Nat} {mi MC MS : Nat} {Φ : Mm → Prop} {fu : Nat} {k_16 : Nat → Nat → Mm → Nat → Nat → Int32 → Prop} {k_47 : Nat → Nat → Mm → Nat → Nat → Int32 → Int32 → Prop} (F : FxM p s m args meth c b_Cu_takeRoot 5 "CoinKeeper$Curve" "takeRoot" none D cy ad mi A) (hk_16 : Iw_mCu_takeRoot_16 p l e s m args below meth c D cy A ad mi MC MS Φ k_16) (hk_47 : Iw_mCu_takeRoot_47 p l e s m args below meth c D cy A ad mi MC MS Φ k_47) : Iw_mCu_takeRoot_47 p l e s m args below meth c D cy A ad mi MC MS Φ (xv_mCu_takeRoot_47 fu MC MS cy ad mi Φ k_16 k_47) := by
  obtain ⟨⟨hx, hb, hr, hml, hown, hts, hlocks, hK, hA, hSt, hnm, hex⟩, hT, hMi⟩ := id F
  intro κ σ M x0 x2 x3 x4 hf hkc hks H locs ls hP hD hS hl
  unfold xv_mCu_takeRoot_47 at hf
  refine lv_iload hx hb d_Cu_takeRoot_47 (lv_at hl 3 rfl) ?_
  refine va_gets hx hb (hSt.1 6 _ rfl).1 hS hown (hts _ gw_1091) (fun _ h9 => h9) d_Cu_takeRoot_49 ?_
  refine lv_iload_n hx hb d_Cu_takeRoot_52 rfl (lv_at hl 2 rfl) ?_
  refine lv_iconst (v := 2) hx hb d_Cu_takeRoot_53 (by decide) ?_
  refine lv_iadd hx hb d_Cu_takeRoot_54 ?_
  refine lv_topi (fun v1 ev => ?_)
  have hf := bnQ ev hf
  clear ev
  obtain ⟨hg, hf⟩ := hf
  refine va_tb (v := .int (tb_6.getD v1.toNatClampNeg 0)) hx hb (hSt.1 6 _ rfl).2 hS (inb_in hg) rfl d_Cu_takeRoot_55 ?_
  refine lv_topi (fun v2 ev => ?_)
  have hf := bnQ ev hf
  clear ev
  refine lv_icmp_ge (tgt := 71) hx hb d_Cu_takeRoot_56 (by decide) (fun cx => ?_) (fun cx => ?_)
  · have hf := ifpP cx hf
    refine lv_aload_n hx hb d_Cu_takeRoot_71 rfl (lv_at hl 1 rfl) ?_
    refine lv_aload_n hx hb d_Cu_takeRoot_72 rfl (lv_at hl 0 rfl) ?_
    obtain ⟨fs_, hm_, r3, hv_, hf⟩ := hf
    obtain ⟨ix_, hi_⟩ := m_ix hm_
    refine va_get (D := D) (ci := 3) (v := va_rf r3) (C := "CoinKeeper$Curve") (T := F_3) (N := 7) hx hb hts i_3 hown hK hP ix_ hi_ rfl 0 (by decide) (hts _ gw_76) (fun _ h9 => h9) hv_ d_Cu_takeRoot_73 ?_
    clear hv_ hi_ hm_
    obtain ⟨q4, rfl, hf⟩ := hf
    refine W.eq (g2 := F0 m 76 ls [.ref q4, .ref x2]) rfl ?_
    refine va_gets hx hb (hSt.1 6 _ rfl).1 hS hown (hts _ gw_1091) (fun _ h9 => h9) d_Cu_takeRoot_76 ?_
    refine lv_iload_n hx hb d_Cu_takeRoot_79 rfl (lv_at hl 2 rfl) ?_
    refine lv_iconst (v := 3) hx hb d_Cu_takeRoot_80 (by decide) ?_
    refine lv_iadd hx hb d_Cu_takeRoot_81 ?_
    refine lv_topi (fun v5 ev => ?_)
    have hf := bnQ ev hf
    clear ev
    obtain ⟨hg, hf⟩ := hf
    refine va_tb (v := .int (tb_6.getD v5.toNatClampNeg 0)) hx hb (hSt.1 6 _ rfl).2 hS (inb_in hg) rfl d_Cu_takeRoot_82 ?_
    refine lv_topi (fun v6 ev => ?_)
    have hf := bnQ ev hf
    clear ev
    obtain ⟨n_, f_, hm_, hin_, hf⟩ := hf
    obtain ⟨ix_, hi_⟩ := m_ix hm_
    refine q_ald2 hx hb hK hP ix_ hi_ (inb_in hin_) d_Cu_takeRoot_83 ?_
    obtain ⟨r7, ev⟩ : ∃ z, z = f_ v6.toNatClampNeg := ⟨_, rfl⟩
    first | rw [← ev] at hf ⊢ | rw [← ev]
    clear ev hi_ hm_ hin_
    obtain ⟨q8, rfl, hf⟩ := hf
    refine W.eq (g2 := F0 m 84 ls [.ref q8, .ref x2]) rfl ?_
    refine lv_aload_n hx hb d_Cu_takeRoot_84 rfl (lv_at hl 0 rfl) ?_
    obtain ⟨fs_, hm_, r9, hv_, hf⟩ := hf
    obtain ⟨ix_, hi_⟩ := m_ix hm_
    refine va_get (D := D) (ci := 3) (v := va_rf r9) (C := "CoinKeeper$Curve") (T := F_3) (N := 7) hx hb hts i_3 hown hK hP ix_ hi_ rfl 0 (by decide) (hts _ gw_76) (fun _ h9 => h9) hv_ d_Cu_takeRoot_85 ?_
    clear hv_ hi_ hm_
    obtain ⟨q10, rfl, he_, hf⟩ := hf
    subst q10
    refine W.eq (g2 := F0 m 88 ls [.ref q4, .ref q8, .ref x2]) rfl ?_
    refine va_gets hx hb (hSt.1 6 _ rfl).1 hS hown (hts _ gw_1091) (fun _ h9 => h9) d_Cu_takeRoot_88 ?_
    refine lv_iload_n hx hb d_Cu_takeRoot_91 rfl (lv_at hl 2 rfl) ?_
    obtain ⟨hg, hf⟩ := hf
    refine va_tb (v := .int (tb_6.getD x3.toNatClampNeg 0)) hx hb (hSt.1 6 _ rfl).2 hS (inb_in hg) rfl d_Cu_takeRoot_92 ?_
    refine lv_topi (fun v11 ev => ?_)
    have hf := bnQ ev hf
    clear ev
    obtain ⟨n_, f_, hm_, hin_, hf⟩ := hf
    obtain ⟨ix_, hi_⟩ := m_ix hm_
    refine q_ald2 hx hb hK hP ix_ hi_ (inb_in hin_) d_Cu_takeRoot_93 ?_
    obtain ⟨r12, ev⟩ : ∃ z, z = f_ v11.toNatClampNeg := ⟨_, rfl⟩
    first | rw [← ev] at hf ⊢ | rw [← ev]
    clear ev hi_ hm_ hin_
    obtain ⟨q13, rfl, hf⟩ := hf
    refine W.eq (g2 := F0 m 94 ls [.ref q13, .ref q8, .ref x2]) rfl ?_
    by_cases cx : q8 = q13
    · have hg_ := ifpP cx hf
      clear hf
      subst cx
      have hf := hg_
      clear hg_
      obtain ⟨c14, c15, hal_, hnd_, c16, hc, hf⟩ := hf
      refine m_lv (va_runS (As := [.ref x2, .ref q8, .ref q8]) (rest := []) ⟨hx, hb, hml, hown, hts⟩ (c_Cu_multiply_e21 l D cy ad fu x2 q8 c14 c15 _ hc H.size) ⟨q_cB hts gw_1078 gw_4 gw_1076 hds_49 ⟨Nat.le_of_ble_eq_true rfl, Nat.le_of_ble_eq_true rfl⟩, hts _ gw_1077⟩ (q_pre (m_subP hP hal_) (m_subD hD hal_ hnd_) hK hSt hS (m_lF hD hS hA hal_) _) rfl rfl hl.1 rfl (lv_room (Nat.le_of_ble_eq_true rfl)) d_Cu_takeRoot_94 ⟨hkc, hks⟩) hP hD hS hA hal_ rfl (fun H locs hP hD hS => ?_)
      refine W.widen (k := κ) (n := σ) (Nat.le_refl _) (Nat.le_refl _) ?_
      obtain ⟨M17, eM_, hf⟩ := bnP hf
      have hP : va_P D classes (mw M17) H := by rw [eM_]; exact hP
      have hD : va_D A (mw M17) := by rw [eM_]; exact hD
      clear eM_ hal_ hnd_ hc
      obtain ⟨v18, ev, hf⟩ := bnP hf
      refine lv_iinc (v := v18) (lv' := [(3, .int v18), (0, .ref x0), (2, .ref x2), (4, .int x4)]) hx hb d_Cu_takeRoot_97 hl (k := 2) rfl (by rw [ev]; rfl) (by decide) rfl (fun ls hl => ?_)
      clear ev
      refine lv_goto (tgt := 16) hx hb d_Cu_takeRoot_100 (by decide) ?_
      exact hk_16 _ _ _ _ _ _ hf hkc hks _ _ _ hP hD hS (lv_sub hl [1, 2, 0] rfl)
    · have hf := ifnP cx hf
      obtain ⟨c19, c20, c21, hal_, hnd_, c22, hc, hf⟩ := hf
      refine m_lv (va_runS (As := [.ref x2, .ref q8, .ref q13]) (rest := []) ⟨hx, hb, hml, hown, hts⟩ (c_Cu_multiply l D cy ad fu x2 q8 q13 c19 c20 c21 _ hc H.size) ⟨q_cB hts gw_1078 gw_4 gw_1076 hds_49 ⟨Nat.le_of_ble_eq_true rfl, Nat.le_of_ble_eq_true rfl⟩, hts _ gw_1077⟩ (q_pre (m_subP hP hal_) (m_subD hD hal_ hnd_) hK hSt hS (m_lF hD hS hA hal_) _) rfl rfl hl.1 rfl (lv_room (Nat.le_of_ble_eq_true rfl)) d_Cu_takeRoot_94 ⟨hkc, hks⟩) hP hD hS hA hal_ rfl (fun H locs hP hD hS => ?_)
      refine W.widen (k := κ) (n := σ) (Nat.le_refl _) (Nat.le_refl _) ?_
      obtain ⟨M23, eM_, hf⟩ := bnP hf
      have hP : va_P D classes (mw M23) H := by rw [eM_]; exact hP
      have hD : va_D A (mw M23) := by rw [eM_]; exact hD
      clear eM_ hal_ hnd_ hc
      obtain ⟨v24, ev, hf⟩ := bnP hf
      refine lv_iinc (v := v24) (lv' := [(3, .int v24), (0, .ref x0), (2, .ref x2), (4, .int x4)]) hx hb d_Cu_takeRoot_97 hl (k := 2) rfl (by rw [ev]; rfl) (by decide) rfl (fun ls hl => ?_)
      clear ev
      refine lv_goto (tgt := 16) hx hb d_Cu_takeRoot_100 (by decide) ?_
      exact hk_16 _ _ _ _ _ _ hf hkc hks _ _ _ hP hD hS (lv_sub hl [1, 2, 0] rfl)
  · have hf := ifnP cx hf
    refine lv_aload_n hx hb d_Cu_takeRoot_59 rfl (lv_at hl 1 rfl) ?_
    refine lv_aload_n hx hb d_Cu_takeRoot_60 rfl (lv_at hl 1 rfl) ?_
    refine lv_aload_n hx hb d_Cu_takeRoot_61 rfl (lv_at hl 1 rfl) ?_
    obtain ⟨c25, hal_, hnd_, c26, hc, hf⟩ := hf
    refine m_lv (va_runS (As := [.ref x2, .ref x2, .ref x2]) (rest := []) ⟨hx, hb, hml, hown, hts⟩ (c_Cu_multiply_e10e20 l D cy ad fu x2 c25 _ hc H.size) ⟨q_cB hts gw_1078 gw_4 gw_1076 hds_49 ⟨Nat.le_of_ble_eq_true rfl, Nat.le_of_ble_eq_true rfl⟩, hts _ gw_1077⟩ (q_pre (m_subP hP hal_) (m_subD hD hal_ hnd_) hK hSt hS (m_lF hD hS hA hal_) _) rfl rfl hl.1 rfl (lv_room (Nat.le_of_ble_eq_true rfl)) d_Cu_takeRoot_62 ⟨hkc, hks⟩) hP hD hS hA hal_ rfl (fun H locs hP hD hS => ?_)
    refine W.widen (k := κ) (n := σ) (Nat.le_refl _) (Nat.le_refl _) ?_
    obtain ⟨M27, eM_, hf⟩ := bnP hf
    have hP : va_P D classes (mw M27) H := by rw [eM_]; exact hP
    have hD : va_D A (mw M27) := by rw [eM_]; exact hD
    clear eM_ hal_ hnd_ hc
    obtain ⟨v28, ev, hf⟩ := bnP hf
    refine lv_iinc (v := v28) (lv' := [(4, .int v28), (0, .ref x0), (2, .ref x2), (3, .int x3)]) hx hb d_Cu_takeRoot_65 hl (k := 3) rfl (by rw [ev]; rfl) (by decide) rfl (fun ls hl => ?_)
    clear ev
    refine lv_goto (tgt := 47) hx hb d_Cu_takeRoot_68 (by decide) ?_
    exact hk_47 _ _ _ _ _ _ _ hf hkc hks _ _ _ hP hD hS (lv_sub hl [1, 2, 3, 0] rfl)
theorem ww_mCu_takeRoot_47 {p : Program} {l : Launch} {e : Env} {s : State} {m : MethodId} {args : Array Value} {below : List Frame} {meth : Method} {c : Code} {D : va_G} {cy : Nat → ClassId} {A : Nat → Prop} {ad : Nat → Nat} {mi MC MS : Nat} {Φ : Mm → Prop} {fu : Nat} {k_16 : Nat → Nat → Mm → Nat → Nat → Int32 → Prop} (F : FxM p s m args meth c b_Cu_takeRoot 5 "CoinKeeper$Curve" "takeRoot" none D cy ad mi A) (hk_16 : Iw_mCu_takeRoot_16 p l e s m args below meth c D cy A ad mi MC MS Φ k_16) : ∀ n : Nat, Iw_mCu_takeRoot_47 p l e s m args below meth c D cy A ad mi MC MS Φ (xw_mCu_takeRoot_47 fu MC MS cy ad mi Φ k_16 n)
  | 0 => fun _ _ _ _ _ _ _ hf => False.elim hf
  | n + 1 => wv_mCu_takeRoot_47 F hk_16 (ww_mCu_takeRoot_47 F hk_16 n)
set_option maxHeartbeats 8000000 in
set_option maxRecDepth 100000 in
theorem wv_mCu_takeRoot_16 {p : Program} {l : Launch} {e : Env} {s : State} {m : MethodId} {args : Array Value} {below : List Frame} {meth : Method} {c : Code} {D : va_G} {cy : Nat → ClassId} {A : Nat → Prop} {ad : Nat → Nat} {mi MC MS : Nat} {Φ : Mm → Prop} {fu : Nat} {k_16 : Nat → Nat → Mm → Nat → Nat → Int32 → Prop} (F : FxM p s m args meth c b_Cu_takeRoot 5 "CoinKeeper$Curve" "takeRoot" none D cy ad mi A) (hk_16 : Iw_mCu_takeRoot_16 p l e s m args below meth c D cy A ad mi MC MS Φ k_16) : Iw_mCu_takeRoot_16 p l e s m args below meth c D cy A ad mi MC MS Φ (xv_mCu_takeRoot_16 fu MC MS cy ad mi Φ k_16) := by
  obtain ⟨⟨hx, hb, hr, hml, hown, hts, hlocks, hK, hA, hSt, hnm, hex⟩, hT, hMi⟩ := id F
  intro κ σ M x0 x2 x3 hf hkc hks H locs ls hP hD hS hl
  unfold xv_mCu_takeRoot_16 at hf
  refine lv_iload_n hx hb d_Cu_takeRoot_16 rfl (lv_at hl 2 rfl) ?_
  refine va_gets hx hb (hSt.1 6 _ rfl).1 hS hown (hts _ gw_1091) (fun _ h9 => h9) d_Cu_takeRoot_17 ?_
  refine va_tlen (v := 52) hx hb (hSt.1 6 _ rfl).2 hS rfl d_Cu_takeRoot_20 ?_
  refine lv_icmp_ge (tgt := 103) hx hb d_Cu_takeRoot_21 (by decide) (fun cx => ?_) (fun cx => ?_)
  · have hf := ifpP cx hf
    refine lv_aload_n hx hb d_Cu_takeRoot_103 rfl (lv_at hl 0 rfl) ?_
    obtain ⟨fs_, hm_, r1, hv_, hf⟩ := hf
    obtain ⟨ix_, hi_⟩ := m_ix hm_
    refine va_get (D := D) (ci := 3) (v := va_rf r1) (C := "CoinKeeper$Curve") (T := F_3) (N := 7) hx hb hts i_3 hown hK hP ix_ hi_ rfl 0 (by decide) (hts _ gw_76) (fun _ h9 => h9) hv_ d_Cu_takeRoot_104 ?_
    clear hv_ hi_ hm_
    obtain ⟨q2, rfl, hf⟩ := hf
    refine W.eq (g2 := F0 m 107 ls [.ref q2]) rfl ?_
    refine lv_iconst (v := 3) hx hb d_Cu_takeRoot_107 (by decide) ?_
    obtain ⟨n_, f_, hm_, hin_, hf⟩ := hf
    obtain ⟨ix_, hi_⟩ := m_ix hm_
    refine q_ald2 hx hb hK hP ix_ hi_ (inb_in hin_) d_Cu_takeRoot_108 ?_
    obtain ⟨r3, ev⟩ : ∃ z, z = f_ (3 : Int32).toNatClampNeg := ⟨_, rfl⟩
    first | rw [← ev] at hf ⊢ | rw [← ev]
    clear ev hi_ hm_ hin_
    obtain ⟨q4, rfl, hf⟩ := hf
    refine W.eq (g2 := F0 m 109 ls [.ref q4]) rfl ?_
    refine lv_aload_n hx hb d_Cu_takeRoot_109 rfl (lv_at hl 0 rfl) ?_
    obtain ⟨fs_, hm_, r5, hv_, hf⟩ := hf
    obtain ⟨ix_, hi_⟩ := m_ix hm_
    refine va_get (D := D) (ci := 3) (v := va_rf r5) (C := "CoinKeeper$Curve") (T := F_3) (N := 7) hx hb hts i_3 hown hK hP ix_ hi_ rfl 0 (by decide) (hts _ gw_76) (fun _ h9 => h9) hv_ d_Cu_takeRoot_110 ?_
    clear hv_ hi_ hm_
    obtain ⟨q6, rfl, he_, hf⟩ := hf
    subst q6
    refine W.eq (g2 := F0 m 113 ls [.ref q2, .ref q4]) rfl ?_
    refine lv_iconst (v := 3) hx hb d_Cu_takeRoot_113 (by decide) ?_
    obtain ⟨n_, f_, hm_, hin_, hf⟩ := hf
    obtain ⟨ix_, hi_⟩ := m_ix hm_
    refine q_ald2 hx hb hK hP ix_ hi_ (inb_in hin_) d_Cu_takeRoot_114 ?_
    obtain ⟨r7, ev⟩ : ∃ z, z = f_ (3 : Int32).toNatClampNeg := ⟨_, rfl⟩
    first | rw [← ev] at hf ⊢ | rw [← ev]
    clear ev hi_ hm_ hin_
    obtain ⟨q8, rfl, he_, hf⟩ := hf
    subst q8
    refine W.eq (g2 := F0 m 115 ls [.ref q4, .ref q4]) rfl ?_
    refine lv_aload_n hx hb d_Cu_takeRoot_115 rfl (lv_at hl 1 rfl) ?_
    obtain ⟨c9, c10, hal_, hnd_, c11, hc, hf⟩ := hf
    refine m_lv (va_runS (As := [.ref q4, .ref q4, .ref x2]) (rest := []) ⟨hx, hb, hml, hown, hts⟩ (c_Cu_multiply_e10 l D cy ad fu q4 x2 c9 c10 _ hc H.size) ⟨q_cB hts gw_1078 gw_4 gw_1076 hds_49 ⟨Nat.le_of_ble_eq_true rfl, Nat.le_of_ble_eq_true rfl⟩, hts _ gw_1077⟩ (q_pre (m_subP hP hal_) (m_subD hD hal_ hnd_) hK hSt hS (m_lF hD hS hA hal_) _) rfl rfl hl.1 rfl (lv_room (Nat.le_of_ble_eq_true rfl)) d_Cu_takeRoot_116 ⟨hkc, hks⟩) hP hD hS hA hal_ rfl (fun H locs hP hD hS => ?_)
    refine W.widen (k := κ) (n := σ) (Nat.le_refl _) (Nat.le_refl _) ?_
    obtain ⟨M12, eM_, hf⟩ := bnP hf
    have hP : va_P D classes (mw M12) H := by rw [eM_]; exact hP
    have hD : va_D A (mw M12) := by rw [eM_]; exact hD
    clear eM_ hal_ hnd_ hc
    refine lv_aload_n hx hb d_Cu_takeRoot_119 rfl (lv_at hl 1 rfl) ?_
    refine lv_aload_n hx hb d_Cu_takeRoot_120 rfl (lv_at hl 1 rfl) ?_
    refine lv_aload_n hx hb d_Cu_takeRoot_121 rfl (lv_at hl 1 rfl) ?_
    obtain ⟨c13, hal_, hnd_, c14, hc, hf⟩ := hf
    refine m_lv (va_runS (As := [.ref x2, .ref x2, .ref x2]) (rest := []) ⟨hx, hb, hml, hown, hts⟩ (c_Cu_multiply_e10e20 l D cy ad fu x2 c13 _ hc H.size) ⟨q_cB hts gw_1078 gw_4 gw_1076 hds_49 ⟨Nat.le_of_ble_eq_true rfl, Nat.le_of_ble_eq_true rfl⟩, hts _ gw_1077⟩ (q_pre (m_subP hP hal_) (m_subD hD hal_ hnd_) hK hSt hS (m_lF hD hS hA hal_) _) rfl rfl hl.1 rfl (lv_room (Nat.le_of_ble_eq_true rfl)) d_Cu_takeRoot_122 ⟨hkc, hks⟩) hP hD hS hA hal_ rfl (fun H locs hP hD hS => ?_)
    refine W.widen (k := κ) (n := σ) (Nat.le_refl _) (Nat.le_refl _) ?_
    obtain ⟨M15, eM_, hf⟩ := bnP hf
    have hP : va_P D classes (mw M15) H := by rw [eM_]; exact hP
    have hD : va_D A (mw M15) := by rw [eM_]; exact hD
    clear eM_ hal_ hnd_ hc
    refine W.widen (k := MC) (n := MS) hkc hks ?_
    exact m_rv hf hx hb hr hlocks hK hP hD hS d_Cu_takeRoot_125
  · have hf := ifnP cx hf
    refine lv_aload_n hx hb d_Cu_takeRoot_24 rfl (lv_at hl 0 rfl) ?_
    obtain ⟨fs_, hm_, r16, hv_, hf⟩ := hf
    obtain ⟨ix_, hi_⟩ := m_ix hm_
    refine va_get (D := D) (ci := 3) (v := va_rf r16) (C := "CoinKeeper$Curve") (T := F_3) (N := 7) hx hb hts i_3 hown hK hP ix_ hi_ rfl 0 (by decide) (hts _ gw_76) (fun _ h9 => h9) hv_ d_Cu_takeRoot_25 ?_
    clear hv_ hi_ hm_
    obtain ⟨q17, rfl, hf⟩ := hf
    refine W.eq (g2 := F0 m 28 ls [.ref q17]) rfl ?_
    refine va_gets hx hb (hSt.1 6 _ rfl).1 hS hown (hts _ gw_1091) (fun _ h9 => h9) d_Cu_takeRoot_28 ?_
    refine lv_iload_n hx hb d_Cu_takeRoot_31 rfl (lv_at hl 2 rfl) ?_
    refine lv_iconst (v := 1) hx hb d_Cu_takeRoot_32 (by decide) ?_
    refine lv_iadd hx hb d_Cu_takeRoot_33 ?_
    refine lv_topi (fun v18 ev => ?_)
    have hf := bnQ ev hf
    clear ev
    obtain ⟨hg, hf⟩ := hf
    refine va_tb (v := .int (tb_6.getD v18.toNatClampNeg 0)) hx hb (hSt.1 6 _ rfl).2 hS (inb_in hg) rfl d_Cu_takeRoot_34 ?_
    refine lv_topi (fun v19 ev => ?_)
    have hf := bnQ ev hf
    clear ev
    obtain ⟨n_, f_, hm_, hin_, hf⟩ := hf
    obtain ⟨ix_, hi_⟩ := m_ix hm_
    refine q_ald2 hx hb hK hP ix_ hi_ (inb_in hin_) d_Cu_takeRoot_35 ?_
    obtain ⟨r20, ev⟩ : ∃ z, z = f_ v19.toNatClampNeg := ⟨_, rfl⟩
    first | rw [← ev] at hf ⊢ | rw [← ev]
    clear ev hi_ hm_ hin_
    obtain ⟨q21, rfl, hf⟩ := hf
    refine W.eq (g2 := F0 m 36 ls [.ref q21]) rfl ?_
    refine lv_iconst (v := 0) hx hb d_Cu_takeRoot_36 (by decide) ?_
    refine lv_aload_n hx hb d_Cu_takeRoot_37 rfl (lv_at hl 1 rfl) ?_
    refine lv_iconst (v := 0) hx hb d_Cu_takeRoot_38 (by decide) ?_
    refine lv_bipush (v := 10) hx hb d_Cu_takeRoot_39 (by decide) ?_
    obtain ⟨n0_, f0_, n1_, f1_, hs_, hm_, hcp_, hf⟩ := hf
    obtain ⟨jx_, hj_⟩ := m_ix hs_
    obtain ⟨ix_, hi_⟩ := m_ix hm_
    have hE_ := m_set (y := .inl (cy 2, n1_, .inr (.inl (va_cpy f0_ f1_ (0 : Int32).toNatClampNeg (0 : Int32).toNatClampNeg (10 : Int32).toNatClampNeg)))) hD hi_
    refine va_copyl (R := rmw_mCu_takeRoot MC MS) (rest := []) hx hb (hml.trans hl.1.symm) hown (hts _ gw_1090) (hts _ gw_497) (hts _ gw_496) (hts _ gw_17) hK hP hD hS jx_ ix_ 2 2 hj_ hi_ rfl rfl rfl (cpk_p hcp_).1 (cpk_p hcp_).2.1 (cpk_p hcp_).2.2.1 (cpk_p hcp_).2.2.2.1 (cpk_p hcp_).2.2.2.2 (fun _ _ => rfl) (Nat.le_of_ble_eq_true rfl) (Nat.le_of_ble_eq_true rfl) d_Cu_takeRoot_41 (fun H locs hP hD hS => ?_)
    obtain ⟨M22, eM_⟩ : ∃ z, z = mu M x2 (.inl (cy 2, n1_, .inr (.inl (va_cpy f0_ f1_ (0 : Int32).toNatClampNeg (0 : Int32).toNatClampNeg (10 : Int32).toNatClampNeg)))) := ⟨_, rfl⟩
    rw [← eM_] at hf hE_
    rw [hE_] at hP hD
    clear hE_ eM_ hi_ hm_
    clear hj_ hs_ hcp_
    refine lv_iconst (v := 0) hx hb d_Cu_takeRoot_44 (by decide) ?_
    refine lv_istore (lv' := [(4, .int (0 : Int32)), (0, .ref x0), (2, .ref x2), (3, .int x3)]) hx hb d_Cu_takeRoot_45 hl (by decide) rfl (fun ls hl => ?_)
    exact ww_mCu_takeRoot_47 F hk_16 fu _ _ _ _ _ _ _ hf hkc hks _ _ _ hP hD hS (lv_sub hl [1, 2, 3, 0] rfl)
theorem ww_mCu_takeRoot_16 {p : Program} {l : Launch} {e : Env} {s : State} {m : MethodId} {args : Array Value} {below : List Frame} {meth : Method} {c : Code} {D : va_G} {cy : Nat → ClassId} {A : Nat → Prop} {ad : Nat → Nat} {mi MC MS : Nat} {Φ : Mm → Prop} {fu : Nat} (F : FxM p s m args meth c b_Cu_takeRoot 5 "CoinKeeper$Curve" "takeRoot" none D cy ad mi A) : ∀ n : Nat, Iw_mCu_takeRoot_16 p l e s m args below meth c D cy A ad mi MC MS Φ (xw_mCu_takeRoot_16 fu MC MS cy ad mi Φ n)
  | 0 => fun _ _ _ _ _ _ hf => False.elim hf
  | n + 1 => wv_mCu_takeRoot_16 F (ww_mCu_takeRoot_16 F n)
set_option maxHeartbeats 8000000 in
set_option maxRecDepth 100000 in
theorem wew_mCu_takeRoot {p : Program} {l : Launch} {e : Env} {s : State} {m : MethodId} {args : Array Value} {below : List Frame} {meth : Method} {c : Code} {D : va_G} {cy : Nat → ClassId} {A : Nat → Prop} {ad : Nat → Nat} {mi MC MS : Nat} {Φ : Mm → Prop} {fu : Nat} (F : FxM p s m args meth c b_Cu_takeRoot 5 "CoinKeeper$Curve" "takeRoot" none D cy ad mi A) : Iw_mCu_takeRoot_e p l e s m args below meth c D cy A ad mi MC MS Φ (xw_mCu_takeRoot fu MC MS cy ad mi Φ) := by
  obtain ⟨⟨hx, hb, hr, hml, hown, hts, hlocks, hK, hA, hSt, hnm, hex⟩, hT, hMi⟩ := id F
  intro κ σ M a0 a1 a2 hf hkc hks H locs ls hP hD hS hl
  unfold xw_mCu_takeRoot at hf
  refine lv_aload_n hx hb d_Cu_takeRoot_0 rfl (lv_at hl 1 rfl) ?_
  refine lv_iconst (v := 0) hx hb d_Cu_takeRoot_1 (by decide) ?_
  refine lv_aload_n hx hb d_Cu_takeRoot_2 rfl (lv_at hl 0 rfl) ?_
  obtain ⟨fs_, hm_, r1, hv_, hf⟩ := hf
  obtain ⟨ix_, hi_⟩ := m_ix hm_
  refine va_get (D := D) (ci := 3) (v := va_rf r1) (C := "CoinKeeper$Curve") (T := F_3) (N := 7) hx hb hts i_3 hown hK hP ix_ hi_ rfl 0 (by decide) (hts _ gw_76) (fun _ h9 => h9) hv_ d_Cu_takeRoot_3 ?_
  clear hv_ hi_ hm_
  obtain ⟨q2, rfl, hf⟩ := hf
  refine W.eq (g2 := F0 m 6 ls [.ref q2, .int (0 : Int32), .ref a1]) rfl ?_
  refine lv_iconst (v := 0) hx hb d_Cu_takeRoot_6 (by decide) ?_
  obtain ⟨n_, f_, hm_, hin_, hf⟩ := hf
  obtain ⟨ix_, hi_⟩ := m_ix hm_
  refine q_ald2 hx hb hK hP ix_ hi_ (inb_in hin_) d_Cu_takeRoot_7 ?_
  obtain ⟨r3, ev⟩ : ∃ z, z = f_ (0 : Int32).toNatClampNeg := ⟨_, rfl⟩
  first | rw [← ev] at hf ⊢ | rw [← ev]
  clear ev hi_ hm_ hin_
  obtain ⟨q4, rfl, hf⟩ := hf
  refine W.eq (g2 := F0 m 8 ls [.ref q4, .int (0 : Int32), .ref a1]) rfl ?_
  refine lv_iconst (v := 0) hx hb d_Cu_takeRoot_8 (by decide) ?_
  refine lv_bipush (v := 10) hx hb d_Cu_takeRoot_9 (by decide) ?_
  obtain ⟨n0_, f0_, n1_, f1_, hs_, hm_, hcp_, hf⟩ := hf
  obtain ⟨jx_, hj_⟩ := m_ix hs_
  obtain ⟨ix_, hi_⟩ := m_ix hm_
  have hE_ := m_set (y := .inl (cy 2, n1_, .inr (.inl (va_cpy f0_ f1_ (0 : Int32).toNatClampNeg (0 : Int32).toNatClampNeg (10 : Int32).toNatClampNeg)))) hD hi_
  refine va_copyl (R := rmw_mCu_takeRoot MC MS) (rest := []) hx hb (hml.trans hl.1.symm) hown (hts _ gw_1090) (hts _ gw_497) (hts _ gw_496) (hts _ gw_17) hK hP hD hS jx_ ix_ 2 2 hj_ hi_ rfl rfl rfl (cpk_p hcp_).1 (cpk_p hcp_).2.1 (cpk_p hcp_).2.2.1 (cpk_p hcp_).2.2.2.1 (cpk_p hcp_).2.2.2.2 (fun _ _ => rfl) (Nat.le_of_ble_eq_true rfl) (Nat.le_of_ble_eq_true rfl) d_Cu_takeRoot_11 (fun H locs hP hD hS => ?_)
  obtain ⟨M5, eM_⟩ : ∃ z, z = mu M q4 (.inl (cy 2, n1_, .inr (.inl (va_cpy f0_ f1_ (0 : Int32).toNatClampNeg (0 : Int32).toNatClampNeg (10 : Int32).toNatClampNeg)))) := ⟨_, rfl⟩
  rw [← eM_] at hf hE_
  rw [hE_] at hP hD
  clear hE_ eM_ hi_ hm_
  clear hj_ hs_ hcp_
  refine lv_iconst (v := 0) hx hb d_Cu_takeRoot_14 (by decide) ?_
  refine lv_istore_n (lv' := [(3, .int (0 : Int32)), (0, .ref a0), (1, .ref a1), (2, .ref a2)]) hx hb d_Cu_takeRoot_15 rfl hl (by decide) rfl (fun ls hl => ?_)
  exact ww_mCu_takeRoot_16 F fu _ _ _ _ _ _ hf hkc hks _ _ _ hP hD hS (lv_sub hl [1, 3, 0] rfl)
theorem cw_mCu_takeRoot (l : Launch) (D : va_G) (cy : Nat → ClassId) (ad : Nat → Nat) (mi fu MC MS : Nat) (a0 : Nat) (a1 : Nat) (a2 : Nat) (M : Mm) (Φ : Mm → Prop) (hf : xw_mCu_takeRoot fu MC MS cy ad mi Φ 0 0 M a0 a1 a2) (sz : Nat) : Met l ({ cls := "CoinKeeper$Curve", name := "takeRoot", desc := "([J[J)V" } : Jvm.MethodName) (.code ({ cls := "CoinKeeper$Curve", name := "takeRoot", desc := "([J[J)V" } : Jvm.MethodName) b_Cu_takeRoot 5 none :: gw) (rmw_mCu_takeRoot MC MS) (va_Pc [.ref a0, .ref a1, .ref a2] (PrM D cy ad mi (mw M) sz)) (va_Qv Φ (fun u t => Po D cy (va_A (mw M) sz) (mw u) t) (va_A (mw M) sz)) MC MS (va_A (mw M) sz) :=
  q_metM (Qc := fun A => va_Qv Φ (fun u t => Po D cy A (mw u) t) A) (by decide) rfl rfl (Nat.le_of_ble_eq_true rfl) (fun p e s m below meth c ls F hP hD hS hl => wew_mCu_takeRoot (fu := fu) F 0 0 M a0 a1 a2 hf (Nat.zero_le _) (Nat.zero_le _) _ _ _ hP hD hS hl) sz
abbrev b_Cu_readKey : ByteArray := prog_4_method_2_code
theorem d_Cu_readKey_0 : decode b_Cu_readKey 0 = .ok (.iload_n 3, 1) := by decide +kernel
theorem d_Cu_readKey_1 : decode b_Cu_readKey 1 = .ok (.bipush 33, 2) := by decide +kernel
theorem d_Cu_readKey_3 : decode b_Cu_readKey 3 = .ok (.if_icmp .ne 21, 3) := by decide +kernel
theorem d_Cu_readKey_6 : decode b_Cu_readKey 6 = .ok (.aload_n 1, 1) := by decide +kernel
theorem d_Cu_readKey_7 : decode b_Cu_readKey 7 = .ok (.iload_n 2, 1) := by decide +kernel
theorem d_Cu_readKey_8 : decode b_Cu_readKey 8 = .ok (.baload, 1) := by decide +kernel
theorem d_Cu_readKey_9 : decode b_Cu_readKey 9 = .ok (.iconst 2, 1) := by decide +kernel
theorem d_Cu_readKey_10 : decode b_Cu_readKey 10 = .ok (.if_icmp .eq 10, 3) := by decide +kernel
theorem d_Cu_readKey_13 : decode b_Cu_readKey 13 = .ok (.aload_n 1, 1) := by decide +kernel
theorem d_Cu_readKey_14 : decode b_Cu_readKey 14 = .ok (.iload_n 2, 1) := by decide +kernel
theorem d_Cu_readKey_15 : decode b_Cu_readKey 15 = .ok (.baload, 1) := by decide +kernel
theorem d_Cu_readKey_16 : decode b_Cu_readKey 16 = .ok (.iconst 3, 1) := by decide +kernel
theorem d_Cu_readKey_17 : decode b_Cu_readKey 17 = .ok (.if_icmp .ne 7, 3) := by decide +kernel
theorem d_Cu_readKey_20 : decode b_Cu_readKey 20 = .ok (.iconst 1, 1) := by decide +kernel
theorem d_Cu_readKey_21 : decode b_Cu_readKey 21 = .ok (.goto 4, 3) := by decide +kernel
theorem d_Cu_readKey_24 : decode b_Cu_readKey 24 = .ok (.iconst 0, 1) := by decide +kernel
theorem d_Cu_readKey_25 : decode b_Cu_readKey 25 = .ok (.istore 5, 2) := by decide +kernel
theorem d_Cu_readKey_27 : decode b_Cu_readKey 27 = .ok (.iload_n 3, 1) := by decide +kernel
theorem d_Cu_readKey_28 : decode b_Cu_readKey 28 = .ok (.bipush 65, 2) := by decide +kernel
theorem d_Cu_readKey_30 : decode b_Cu_readKey 30 = .ok (.if_icmp .ne 14, 3) := by decide +kernel
theorem d_Cu_readKey_33 : decode b_Cu_readKey 33 = .ok (.aload_n 1, 1) := by decide +kernel
theorem d_Cu_readKey_34 : decode b_Cu_readKey 34 = .ok (.iload_n 2, 1) := by decide +kernel
theorem d_Cu_readKey_35 : decode b_Cu_readKey 35 = .ok (.baload, 1) := by decide +kernel
theorem d_Cu_readKey_36 : decode b_Cu_readKey 36 = .ok (.iconst 4, 1) := by decide +kernel
theorem d_Cu_readKey_37 : decode b_Cu_readKey 37 = .ok (.if_icmp .ne 7, 3) := by decide +kernel
theorem d_Cu_readKey_40 : decode b_Cu_readKey 40 = .ok (.iconst 1, 1) := by decide +kernel
theorem d_Cu_readKey_41 : decode b_Cu_readKey 41 = .ok (.goto 4, 3) := by decide +kernel
theorem d_Cu_readKey_44 : decode b_Cu_readKey 44 = .ok (.iconst 0, 1) := by decide +kernel
theorem d_Cu_readKey_45 : decode b_Cu_readKey 45 = .ok (.istore 6, 2) := by decide +kernel
theorem d_Cu_readKey_47 : decode b_Cu_readKey 47 = .ok (.iload 5, 2) := by decide +kernel
theorem d_Cu_readKey_49 : decode b_Cu_readKey 49 = .ok (.ifCond .ne 8, 3) := by decide +kernel
theorem d_Cu_readKey_52 : decode b_Cu_readKey 52 = .ok (.iload 6, 2) := by decide +kernel
theorem d_Cu_readKey_54 : decode b_Cu_readKey 54 = .ok (.ifCond .eq 19, 3) := by decide +kernel
theorem d_Cu_readKey_57 : decode b_Cu_readKey 57 = .ok (.aload_n 0, 1) := by decide +kernel
theorem d_Cu_readKey_58 : decode b_Cu_readKey 58 = .ok (.aload_n 1, 1) := by decide +kernel
theorem d_Cu_readKey_59 : decode b_Cu_readKey 59 = .ok (.iload_n 2, 1) := by decide +kernel
theorem d_Cu_readKey_60 : decode b_Cu_readKey 60 = .ok (.iconst 1, 1) := by decide +kernel
theorem d_Cu_readKey_61 : decode b_Cu_readKey 61 = .ok (.iadd, 1) := by decide +kernel
theorem d_Cu_readKey_62 : decode b_Cu_readKey 62 = .ok (.aload 4, 2) := by decide +kernel
theorem d_Cu_readKey_64 : decode b_Cu_readKey 64 = .ok (.getfield 35, 3) := by decide +kernel
theorem d_Cu_readKey_67 : decode b_Cu_readKey 67 = .ok (.invokevirtual 40, 3) := by decide +kernel
theorem d_Cu_readKey_70 : decode b_Cu_readKey 70 = .ok (.ifCond .ne 5, 3) := by decide +kernel
theorem d_Cu_readKey_73 : decode b_Cu_readKey 73 = .ok (.iconst 0, 1) := by decide +kernel
theorem d_Cu_readKey_74 : decode b_Cu_readKey 74 = .ok (.ireturn, 1) := by decide +kernel
theorem d_Cu_readKey_75 : decode b_Cu_readKey 75 = .ok (.aload 4, 2) := by decide +kernel
theorem d_Cu_readKey_77 : decode b_Cu_readKey 77 = .ok (.getfield 35, 3) := by decide +kernel
theorem d_Cu_readKey_80 : decode b_Cu_readKey 80 = .ok (.aload 4, 2) := by decide +kernel
theorem d_Cu_readKey_82 : decode b_Cu_readKey 82 = .ok (.getfield 35, 3) := by decide +kernel
theorem d_Cu_readKey_85 : decode b_Cu_readKey 85 = .ok (.aload_n 0, 1) := by decide +kernel
theorem d_Cu_readKey_86 : decode b_Cu_readKey 86 = .ok (.getfield 20, 3) := by decide +kernel
theorem d_Cu_readKey_89 : decode b_Cu_readKey 89 = .ok (.invokestatic 44, 3) := by decide +kernel
theorem d_Cu_readKey_92 : decode b_Cu_readKey 92 = .ok (.aload_n 0, 1) := by decide +kernel
theorem d_Cu_readKey_93 : decode b_Cu_readKey 93 = .ok (.getfield 20, 3) := by decide +kernel
theorem d_Cu_readKey_96 : decode b_Cu_readKey 96 = .ok (.aload 4, 2) := by decide +kernel
theorem d_Cu_readKey_98 : decode b_Cu_readKey 98 = .ok (.getfield 35, 3) := by decide +kernel
theorem d_Cu_readKey_101 : decode b_Cu_readKey 101 = .ok (.aload_n 0, 1) := by decide +kernel
theorem d_Cu_readKey_102 : decode b_Cu_readKey 102 = .ok (.getfield 20, 3) := by decide +kernel
theorem d_Cu_readKey_105 : decode b_Cu_readKey 105 = .ok (.invokestatic 44, 3) := by decide +kernel
theorem d_Cu_readKey_108 : decode b_Cu_readKey 108 = .ok (.aload_n 0, 1) := by decide +kernel
theorem d_Cu_readKey_109 : decode b_Cu_readKey 109 = .ok (.getfield 20, 3) := by decide +kernel
theorem d_Cu_readKey_112 : decode b_Cu_readKey 112 = .ok (.iconst 0, 1) := by decide +kernel
theorem d_Cu_readKey_113 : decode b_Cu_readKey 113 = .ok (.dup2, 1) := by decide +kernel
theorem d_Cu_readKey_114 : decode b_Cu_readKey 114 = .ok (.laload, 1) := by decide +kernel
theorem d_Cu_readKey_115 : decode b_Cu_readKey 115 = .ok (.ldc2_w 48, 3) := by decide +kernel
theorem d_Cu_readKey_118 : decode b_Cu_readKey 118 = .ok (.ladd, 1) := by decide +kernel
theorem d_Cu_readKey_119 : decode b_Cu_readKey 119 = .ok (.lastore, 1) := by decide +kernel
theorem d_Cu_readKey_120 : decode b_Cu_readKey 120 = .ok (.iload 5, 2) := by decide +kernel
theorem d_Cu_readKey_122 : decode b_Cu_readKey 122 = .ok (.ifCond .eq 54, 3) := by decide +kernel
theorem d_Cu_readKey_125 : decode b_Cu_readKey 125 = .ok (.aload_n 0, 1) := by decide +kernel
theorem d_Cu_readKey_126 : decode b_Cu_readKey 126 = .ok (.aload_n 0, 1) := by decide +kernel
theorem d_Cu_readKey_127 : decode b_Cu_readKey 127 = .ok (.getfield 20, 3) := by decide +kernel
theorem d_Cu_readKey_130 : decode b_Cu_readKey 130 = .ok (.aload 4, 2) := by decide +kernel
theorem d_Cu_readKey_132 : decode b_Cu_readKey 132 = .ok (.getfield 50, 3) := by decide +kernel
theorem d_Cu_readKey_135 : decode b_Cu_readKey 135 = .ok (.invokevirtual 53, 3) := by decide +kernel
theorem d_Cu_readKey_138 : decode b_Cu_readKey 138 = .ok (.aload 4, 2) := by decide +kernel
theorem d_Cu_readKey_140 : decode b_Cu_readKey 140 = .ok (.getfield 50, 3) := by decide +kernel
theorem d_Cu_readKey_143 : decode b_Cu_readKey 143 = .ok (.invokestatic 57, 3) := by decide +kernel
theorem d_Cu_readKey_146 : decode b_Cu_readKey 146 = .ok (.aload 4, 2) := by decide +kernel
theorem d_Cu_readKey_148 : decode b_Cu_readKey 148 = .ok (.getfield 50, 3) := by decide +kernel
theorem d_Cu_readKey_151 : decode b_Cu_readKey 151 = .ok (.iconst 0, 1) := by decide +kernel
theorem d_Cu_readKey_152 : decode b_Cu_readKey 152 = .ok (.laload, 1) := by decide +kernel
theorem d_Cu_readKey_153 : decode b_Cu_readKey 153 = .ok (.lconst 1, 1) := by decide +kernel
theorem d_Cu_readKey_154 : decode b_Cu_readKey 154 = .ok (.land, 1) := by decide +kernel
theorem d_Cu_readKey_155 : decode b_Cu_readKey 155 = .ok (.aload_n 1, 1) := by decide +kernel
theorem d_Cu_readKey_156 : decode b_Cu_readKey 156 = .ok (.iload_n 2, 1) := by decide +kernel
theorem d_Cu_readKey_157 : decode b_Cu_readKey 157 = .ok (.baload, 1) := by decide +kernel
theorem d_Cu_readKey_158 : decode b_Cu_readKey 158 = .ok (.iconst 1, 1) := by decide +kernel
theorem d_Cu_readKey_159 : decode b_Cu_readKey 159 = .ok (.iand, 1) := by decide +kernel
theorem d_Cu_readKey_160 : decode b_Cu_readKey 160 = .ok (.i2l, 1) := by decide +kernel
theorem d_Cu_readKey_161 : decode b_Cu_readKey 161 = .ok (.lcmp, 1) := by decide +kernel
theorem d_Cu_readKey_162 : decode b_Cu_readKey 162 = .ok (.ifCond .eq 33, 3) := by decide +kernel
theorem d_Cu_readKey_165 : decode b_Cu_readKey 165 = .ok (.aload 4, 2) := by decide +kernel
theorem d_Cu_readKey_167 : decode b_Cu_readKey 167 = .ok (.getfield 50, 3) := by decide +kernel
theorem d_Cu_readKey_170 : decode b_Cu_readKey 170 = .ok (.invokestatic 61, 3) := by decide +kernel
theorem d_Cu_readKey_173 : decode b_Cu_readKey 173 = .ok (.goto 22, 3) := by decide +kernel
theorem d_Cu_readKey_176 : decode b_Cu_readKey 176 = .ok (.aload_n 0, 1) := by decide +kernel
theorem d_Cu_readKey_177 : decode b_Cu_readKey 177 = .ok (.aload_n 1, 1) := by decide +kernel
theorem d_Cu_readKey_178 : decode b_Cu_readKey 178 = .ok (.iload_n 2, 1) := by decide +kernel
theorem d_Cu_readKey_179 : decode b_Cu_readKey 179 = .ok (.bipush 33, 2) := by decide +kernel
theorem d_Cu_readKey_181 : decode b_Cu_readKey 181 = .ok (.iadd, 1) := by decide +kernel
theorem d_Cu_readKey_182 : decode b_Cu_readKey 182 = .ok (.aload 4, 2) := by decide +kernel
theorem d_Cu_readKey_184 : decode b_Cu_readKey 184 = .ok (.getfield 50, 3) := by decide +kernel
theorem d_Cu_readKey_187 : decode b_Cu_readKey 187 = .ok (.invokevirtual 40, 3) := by decide +kernel
theorem d_Cu_readKey_190 : decode b_Cu_readKey 190 = .ok (.ifCond .ne 5, 3) := by decide +kernel
theorem d_Cu_readKey_193 : decode b_Cu_readKey 193 = .ok (.iconst 0, 1) := by decide +kernel
theorem d_Cu_readKey_194 : decode b_Cu_readKey 194 = .ok (.ireturn, 1) := by decide +kernel
theorem d_Cu_readKey_195 : decode b_Cu_readKey 195 = .ok (.aload 4, 2) := by decide +kernel
theorem d_Cu_readKey_197 : decode b_Cu_readKey 197 = .ok (.invokevirtual 64, 3) := by decide +kernel
theorem d_Cu_readKey_200 : decode b_Cu_readKey 200 = .ok (.aload 4, 2) := by decide +kernel
theorem d_Cu_readKey_202 : decode b_Cu_readKey 202 = .ok (.getfield 50, 3) := by decide +kernel
theorem d_Cu_readKey_205 : decode b_Cu_readKey 205 = .ok (.aload 4, 2) := by decide +kernel
theorem d_Cu_readKey_207 : decode b_Cu_readKey 207 = .ok (.getfield 50, 3) := by decide +kernel
theorem d_Cu_readKey_210 : decode b_Cu_readKey 210 = .ok (.aload_n 0, 1) := by decide +kernel
theorem d_Cu_readKey_211 : decode b_Cu_readKey 211 = .ok (.getfield 23, 3) := by decide +kernel
theorem d_Cu_readKey_214 : decode b_Cu_readKey 214 = .ok (.invokestatic 44, 3) := by decide +kernel
theorem d_Cu_readKey_217 : decode b_Cu_readKey 217 = .ok (.iconst 0, 1) := by decide +kernel
theorem d_Cu_readKey_218 : decode b_Cu_readKey 218 = .ok (.istore 7, 2) := by decide +kernel
theorem d_Cu_readKey_220 : decode b_Cu_readKey 220 = .ok (.iload 7, 2) := by decide +kernel
theorem d_Cu_readKey_222 : decode b_Cu_readKey 222 = .ok (.bipush 10, 2) := by decide +kernel
theorem d_Cu_readKey_224 : decode b_Cu_readKey 224 = .ok (.if_icmp .ge 26, 3) := by decide +kernel
theorem d_Cu_readKey_227 : decode b_Cu_readKey 227 = .ok (.aload_n 0, 1) := by decide +kernel
theorem d_Cu_readKey_228 : decode b_Cu_readKey 228 = .ok (.getfield 20, 3) := by decide +kernel
theorem d_Cu_readKey_231 : decode b_Cu_readKey 231 = .ok (.iload 7, 2) := by decide +kernel
theorem d_Cu_readKey_233 : decode b_Cu_readKey 233 = .ok (.dup2, 1) := by decide +kernel
theorem d_Cu_readKey_234 : decode b_Cu_readKey 234 = .ok (.laload, 1) := by decide +kernel
theorem d_Cu_readKey_235 : decode b_Cu_readKey 235 = .ok (.aload_n 0, 1) := by decide +kernel
theorem d_Cu_readKey_236 : decode b_Cu_readKey 236 = .ok (.getfield 23, 3) := by decide +kernel
theorem d_Cu_readKey_239 : decode b_Cu_readKey 239 = .ok (.iload 7, 2) := by decide +kernel
theorem d_Cu_readKey_241 : decode b_Cu_readKey 241 = .ok (.laload, 1) := by decide +kernel
theorem d_Cu_readKey_242 : decode b_Cu_readKey 242 = .ok (.lsub, 1) := by decide +kernel
theorem d_Cu_readKey_243 : decode b_Cu_readKey 243 = .ok (.lastore, 1) := by decide +kernel
theorem d_Cu_readKey_244 : decode b_Cu_readKey 244 = .ok (.iinc 7 1, 3) := by decide +kernel
theorem d_Cu_readKey_247 : decode b_Cu_readKey 247 = .ok (.goto (-27), 3) := by decide +kernel
theorem d_Cu_readKey_250 : decode b_Cu_readKey 250 = .ok (.aload_n 0, 1) := by decide +kernel
theorem d_Cu_readKey_251 : decode b_Cu_readKey 251 = .ok (.getfield 20, 3) := by decide +kernel
theorem d_Cu_readKey_254 : decode b_Cu_readKey 254 = .ok (.invokestatic 57, 3) := by decide +kernel
theorem d_Cu_readKey_257 : decode b_Cu_readKey 257 = .ok (.aload_n 0, 1) := by decide +kernel
theorem d_Cu_readKey_258 : decode b_Cu_readKey 258 = .ok (.getfield 20, 3) := by decide +kernel
theorem d_Cu_readKey_261 : decode b_Cu_readKey 261 = .ok (.invokestatic 67, 3) := by decide +kernel
theorem d_Cu_readKey_264 : decode b_Cu_readKey 264 = .ok (.ireturn, 1) := by decide +kernel
abbrev rmw_mCu_readKey (MC MS : Nat) : Room := { frames := 2, cells := MC, slots := MS, locals := 108 }
def Iw_mCu_readKey_220 (p : Program) (l : Launch) (e : Env) (s : State) (m : MethodId) (args : Array Value) (below : List Frame) (meth : Method) (c : Code) (D : va_G) (cy : Nat → ClassId) (A : Nat → Prop) (ad : Nat → Nat) (mi MC MS : Nat) (Φ : Int32 → Mm → Prop) (k : Nat → Nat → Mm → Nat → Int32 → Prop) : Prop :=
  ∀ (κ σ : Nat) (M : Mm) (x0 : Nat) (x7 : Int32), k κ σ M x0 x7 → κ ≤ MC → σ ≤ MS → ∀ (H : Heap) (locs : List Loc) (ls : Array Slot), va_P D classes (mw M) H → va_D A (mw M) → va_S A s.heap H locs → lv_has ls 8 [(0, .ref x0), (7, .int x7)] → W p l e (rmw_mCu_readKey MC MS) s m args below meth c H locs κ σ (MQ below (va_Qi Φ (fun u t => Po D cy A (mw u) t) A) args s MC MS A) (F0 m 220 ls [])
def Iw_mCu_readKey_195 (p : Program) (l : Launch) (e : Env) (s : State) (m : MethodId) (args : Array Value) (below : List Frame) (meth : Method) (c : Code) (D : va_G) (cy : Nat → ClassId) (A : Nat → Prop) (ad : Nat → Nat) (mi MC MS : Nat) (Φ : Int32 → Mm → Prop) (k : Nat → Nat → Mm → Nat → Nat → Prop) : Prop :=
  ∀ (κ σ : Nat) (M : Mm) (x0 : Nat) (x4 : Nat), k κ σ M x0 x4 → κ ≤ MC → σ ≤ MS → ∀ (H : Heap) (locs : List Loc) (ls : Array Slot), va_P D classes (mw M) H → va_D A (mw M) → va_S A s.heap H locs → lv_has ls 8 [(0, .ref x0), (4, .ref x4)] → W p l e (rmw_mCu_readKey MC MS) s m args below meth c H locs κ σ (MQ below (va_Qi Φ (fun u t => Po D cy A (mw u) t) A) args s MC MS A) (F0 m 195 ls [])
def Iw_mCu_readKey_57 (p : Program) (l : Launch) (e : Env) (s : State) (m : MethodId) (args : Array Value) (below : List Frame) (meth : Method) (c : Code) (D : va_G) (cy : Nat → ClassId) (A : Nat → Prop) (ad : Nat → Nat) (mi MC MS : Nat) (Φ : Int32 → Mm → Prop) (k : Nat → Nat → Mm → Nat → Nat → Int32 → Nat → Int32 → Prop) : Prop :=
  ∀ (κ σ : Nat) (M : Mm) (x0 : Nat) (x1 : Nat) (x2 : Int32) (x4 : Nat) (x5 : Int32), k κ σ M x0 x1 x2 x4 x5 → κ ≤ MC → σ ≤ MS → ∀ (H : Heap) (locs : List Loc) (ls : Array Slot), va_P D classes (mw M) H → va_D A (mw M) → va_S A s.heap H locs → lv_has ls 8 [(0, .ref x0), (1, .ref x1), (2, .int x2), (4, .ref x4), (5, .int x5)] → W p l e (rmw_mCu_readKey MC MS) s m args below meth c H locs κ σ (MQ below (va_Qi Φ (fun u t => Po D cy A (mw u) t) A) args s MC MS A) (F0 m 57 ls [])
def Iw_mCu_readKey_45 (p : Program) (l : Launch) (e : Env) (s : State) (m : MethodId) (args : Array Value) (below : List Frame) (meth : Method) (c : Code) (D : va_G) (cy : Nat → ClassId) (A : Nat → Prop) (ad : Nat → Nat) (mi MC MS : Nat) (Φ : Int32 → Mm → Prop) (k : Nat → Nat → Mm → Nat → Nat → Int32 → Nat → Int32 → Int32 → Prop) : Prop :=
  ∀ (κ σ : Nat) (M : Mm) (x0 : Nat) (x1 : Nat) (x2 : Int32) (x4 : Nat) (x5 : Int32) (y0 : Int32), k κ σ M x0 x1 x2 x4 x5 y0 → κ ≤ MC → σ ≤ MS → ∀ (H : Heap) (locs : List Loc) (ls : Array Slot), va_P D classes (mw M) H → va_D A (mw M) → va_S A s.heap H locs → lv_has ls 8 [(0, .ref x0), (1, .ref x1), (2, .int x2), (4, .ref x4), (5, .int x5)] → W p l e (rmw_mCu_readKey MC MS) s m args below meth c H locs κ σ (MQ below (va_Qi Φ (fun u t => Po D cy A (mw u) t) A) args s MC MS A) (F0 m 45 ls [.int y0])
def Iw_mCu_readKey_44 (p : Program) (l : Launch) (e : Env) (s : State) (m : MethodId) (args : Array Value) (below : List Frame) (meth : Method) (c : Code) (D : va_G) (cy : Nat → ClassId) (A : Nat → Prop) (ad : Nat → Nat) (mi MC MS : Nat) (Φ : Int32 → Mm → Prop) (k : Nat → Nat → Mm → Nat → Nat → Int32 → Nat → Int32 → Prop) : Prop :=
  ∀ (κ σ : Nat) (M : Mm) (x0 : Nat) (x1 : Nat) (x2 : Int32) (x4 : Nat) (x5 : Int32), k κ σ M x0 x1 x2 x4 x5 → κ ≤ MC → σ ≤ MS → ∀ (H : Heap) (locs : List Loc) (ls : Array Slot), va_P D classes (mw M) H → va_D A (mw M) → va_S A s.heap H locs → lv_has ls 8 [(0, .ref x0), (1, .ref x1), (2, .int x2), (4, .ref x4), (5, .int x5)] → W p l e (rmw_mCu_readKey MC MS) s m args below meth c H locs κ σ (MQ below (va_Qi Φ (fun u t => Po D cy A (mw u) t) A) args s MC MS A) (F0 m 44 ls [])
def Iw_mCu_readKey_25 (p : Program) (l : Launch) (e : Env) (s : State) (m : MethodId) (args : Array Value) (below : List Frame) (meth : Method) (c : Code) (D : va_G) (cy : Nat → ClassId) (A : Nat → Prop) (ad : Nat → Nat) (mi MC MS : Nat) (Φ : Int32 → Mm → Prop) (k : Nat → Nat → Mm → Nat → Nat → Int32 → Int32 → Nat → Int32 → Prop) : Prop :=
  ∀ (κ σ : Nat) (M : Mm) (x0 : Nat) (x1 : Nat) (x2 : Int32) (x3 : Int32) (x4 : Nat) (y0 : Int32), k κ σ M x0 x1 x2 x3 x4 y0 → κ ≤ MC → σ ≤ MS → ∀ (H : Heap) (locs : List Loc) (ls : Array Slot), va_P D classes (mw M) H → va_D A (mw M) → va_S A s.heap H locs → lv_has ls 8 [(0, .ref x0), (1, .ref x1), (2, .int x2), (3, .int x3), (4, .ref x4)] → W p l e (rmw_mCu_readKey MC MS) s m args below meth c H locs κ σ (MQ below (va_Qi Φ (fun u t => Po D cy A (mw u) t) A) args s MC MS A) (F0 m 25 ls [.int y0])
def Iw_mCu_readKey_24 (p : Program) (l : Launch) (e : Env) (s : State) (m : MethodId) (args : Array Value) (below : List Frame) (meth : Method) (c : Code) (D : va_G) (cy : Nat → ClassId) (A : Nat → Prop) (ad : Nat → Nat) (mi MC MS : Nat) (Φ : Int32 → Mm → Prop) (k : Nat → Nat → Mm → Nat → Nat → Int32 → Int32 → Nat → Prop) : Prop :=
  ∀ (κ σ : Nat) (M : Mm) (x0 : Nat) (x1 : Nat) (x2 : Int32) (x3 : Int32) (x4 : Nat), k κ σ M x0 x1 x2 x3 x4 → κ ≤ MC → σ ≤ MS → ∀ (H : Heap) (locs : List Loc) (ls : Array Slot), va_P D classes (mw M) H → va_D A (mw M) → va_S A s.heap H locs → lv_has ls 8 [(0, .ref x0), (1, .ref x1), (2, .int x2), (3, .int x3), (4, .ref x4)] → W p l e (rmw_mCu_readKey MC MS) s m args below meth c H locs κ σ (MQ below (va_Qi Φ (fun u t => Po D cy A (mw u) t) A) args s MC MS A) (F0 m 24 ls [])
def Iw_mCu_readKey_20 (p : Program) (l : Launch) (e : Env) (s : State) (m : MethodId) (args : Array Value) (below : List Frame) (meth : Method) (c : Code) (D : va_G) (cy : Nat → ClassId) (A : Nat → Prop) (ad : Nat → Nat) (mi MC MS : Nat) (Φ : Int32 → Mm → Prop) (k : Nat → Nat → Mm → Nat → Nat → Int32 → Int32 → Nat → Prop) : Prop :=
  ∀ (κ σ : Nat) (M : Mm) (x0 : Nat) (x1 : Nat) (x2 : Int32) (x3 : Int32) (x4 : Nat), k κ σ M x0 x1 x2 x3 x4 → κ ≤ MC → σ ≤ MS → ∀ (H : Heap) (locs : List Loc) (ls : Array Slot), va_P D classes (mw M) H → va_D A (mw M) → va_S A s.heap H locs → lv_has ls 8 [(0, .ref x0), (1, .ref x1), (2, .int x2), (3, .int x3), (4, .ref x4)] → W p l e (rmw_mCu_readKey MC MS) s m args below meth c H locs κ σ (MQ below (va_Qi Φ (fun u t => Po D cy A (mw u) t) A) args s MC MS A) (F0 m 20 ls [])
def Iw_mCu_readKey_e (p : Program) (l : Launch) (e : Env) (s : State) (m : MethodId) (args : Array Value) (below : List Frame) (meth : Method) (c : Code) (D : va_G) (cy : Nat → ClassId) (A : Nat → Prop) (ad : Nat → Nat) (mi MC MS : Nat) (Φ : Int32 → Mm → Prop) (k : Nat → Nat → Mm → Nat → Nat → Int32 → Int32 → Nat → Prop) : Prop :=
  ∀ (κ σ : Nat) (M : Mm) (a0 : Nat) (a1 : Nat) (a2 : Int32) (a3 : Int32) (a4 : Nat), k κ σ M a0 a1 a2 a3 a4 → κ ≤ MC → σ ≤ MS → ∀ (H : Heap) (locs : List Loc) (ls : Array Slot), va_P D classes (mw M) H → va_D A (mw M) → va_S A s.heap H locs → lv_has ls 8 [(0, .ref a0), (1, .ref a1), (2, .int a2), (3, .int a3), (4, .ref a4)] → W p l e (rmw_mCu_readKey MC MS) s m args below meth c H locs κ σ (MQ below (va_Qi Φ (fun u t => Po D cy A (mw u) t) A) args s MC MS A) (F0 m 0 ls [])
theorem hds_50 : ({ cls := "CoinKeeper$Curve", name := "settle", desc := "([J)V" } : Jvm.MethodName).cls ≠ "java/lang/invoke/MethodHandle" ∧ ({ cls := "CoinKeeper$Curve", name := "settle", desc := "([J)V" } : Jvm.MethodName).cls ≠ "java/lang/invoke/VarHandle" ∧ (parseMethodDescriptor ({ cls := "CoinKeeper$Curve", name := "settle", desc := "([J)V" } : Jvm.MethodName).desc).map (fun d => d.parameters.length) = some 1 := by decide +kernel
theorem hds_51 : ({ cls := "CoinKeeper$Curve", name := "hasNoBit", desc := "([J)Z" } : Jvm.MethodName).cls ≠ "java/lang/invoke/MethodHandle" ∧ ({ cls := "CoinKeeper$Curve", name := "hasNoBit", desc := "([J)Z" } : Jvm.MethodName).cls ≠ "java/lang/invoke/VarHandle" ∧ (parseMethodDescriptor ({ cls := "CoinKeeper$Curve", name := "hasNoBit", desc := "([J)Z" } : Jvm.MethodName).desc).map (fun d => d.parameters.length) = some 1 := by decide +kernel
set_option maxHeartbeats 8000000 in
set_option maxRecDepth 100000 in
theorem wv_mCu_readKey_220 {p : Program} {l : Launch} {e : Env} {s : State} {m : MethodId} {args : Array Value} {below : List Frame} {meth : Method} {c : Code} {D : va_G} {cy : Nat → ClassId} {A : Nat → Prop} {ad : Nat → Nat} {mi MC MS : Nat} {Φ : Int32 → Mm → Prop} {fu : Nat} {k_220 : Nat → Nat → Mm → Nat → Int32 → Prop} (F : FxM p s m args meth c b_Cu_readKey 8 "CoinKeeper$Curve" "readKey" (some .boolean) D cy ad mi A) (hk_220 : Iw_mCu_readKey_220 p l e s m args below meth c D cy A ad mi MC MS Φ k_220) : Iw_mCu_readKey_220 p l e s m args below meth c D cy A ad mi MC MS Φ (xv_mCu_readKey_220 fu MC MS cy ad mi Φ k_220) := by
  obtain ⟨⟨hx, hb, hr, hml, hown, hts, hlocks, hK, hA, hSt, hnm, hex⟩, hT, hMi⟩ := id F
  intro κ σ M x0 x7 hf hkc hks H locs ls hP hD hS hl
  unfold xv_mCu_readKey_220 at hf
  refine lv_iload hx hb d_Cu_readKey_220 (lv_at hl 1 rfl) ?_
  refine lv_bipush (v := 10) hx hb d_Cu_readKey_222 (by decide) ?_
  refine lv_icmp_ge (tgt := 250) hx hb d_Cu_readKey_224 (by decide) (fun cx => ?_) (fun cx => ?_)
  · have hf := ifpP cx hf
    refine lv_aload_n hx hb d_Cu_readKey_250 rfl (lv_at hl 0 rfl) ?_
    obtain ⟨fs_, hm_, r1, hv_, hf⟩ := hf
    obtain ⟨ix_, hi_⟩ := m_ix hm_
    refine va_get (D := D) (ci := 3) (v := va_rf r1) (C := "CoinKeeper$Curve") (T := F_3) (N := 7) hx hb hts i_3 hown hK hP ix_ hi_ rfl 2 (by decide) (hts _ gw_78) (fun _ h9 => h9) hv_ d_Cu_readKey_251 ?_
    clear hv_ hi_ hm_
    obtain ⟨q2, rfl, hf⟩ := hf
    refine W.eq (g2 := F0 m 254 ls [.ref q2]) rfl ?_
    obtain ⟨c3, hal_, hnd_, c4, hc, hf⟩ := hf
    refine m_lv (va_runS (As := [.ref q2]) (rest := []) ⟨hx, hb, hml, hown, hts⟩ (c_Cu_settle l D cy ad fu q2 c3 _ hc H.size) ⟨q_cB hts gw_1095 gw_4 gw_1093 hds_50 ⟨Nat.le_of_ble_eq_true rfl, Nat.le_of_ble_eq_true rfl⟩, hts _ gw_1094⟩ (q_pre (m_subP hP hal_) (m_subD hD hal_ hnd_) hK hSt hS (m_lF hD hS hA hal_) _) rfl rfl hl.1 rfl (lv_room (Nat.le_of_ble_eq_true rfl)) d_Cu_readKey_254 ⟨hkc, hks⟩) hP hD hS hA hal_ rfl (fun H locs hP hD hS => ?_)
    refine W.widen (k := κ) (n := σ) (Nat.le_refl _) (Nat.le_refl _) ?_
    obtain ⟨M5, eM_, hf⟩ := bnP hf
    have hP : va_P D classes (mw M5) H := by rw [eM_]; exact hP
    have hD : va_D A (mw M5) := by rw [eM_]; exact hD
    clear eM_ hal_ hnd_ hc
    refine lv_aload_n hx hb d_Cu_readKey_257 rfl (lv_at hl 0 rfl) ?_
    obtain ⟨fs_, hm_, r6, hv_, hf⟩ := hf
    obtain ⟨ix_, hi_⟩ := m_ix hm_
    refine va_get (D := D) (ci := 3) (v := va_rf r6) (C := "CoinKeeper$Curve") (T := F_3) (N := 7) hx hb hts i_3 hown hK hP ix_ hi_ rfl 2 (by decide) (hts _ gw_78) (fun _ h9 => h9) hv_ d_Cu_readKey_258 ?_
    clear hv_ hi_ hm_
    obtain ⟨q7, rfl, hf⟩ := hf
    refine W.eq (g2 := F0 m 261 ls [.ref q7]) rfl ?_
    obtain ⟨c8, hal_, hnd_, v9, hc, hf⟩ := hf
    refine m_li (va_runS (As := [.ref q7]) (rest := []) ⟨hx, hb, hml, hown, hts⟩ (c_Cu_hasNoBit l D cy ad fu q7 c8 _ hc H.size) ⟨q_cB hts gw_1103 gw_4 gw_1101 hds_51 ⟨Nat.le_of_ble_eq_true rfl, Nat.le_of_ble_eq_true rfl⟩, hts _ gw_1102⟩ (q_pre (m_subP hP hal_) (m_subD hD hal_ hnd_) hK hSt hS (m_lF hD hS hA hal_) _) rfl rfl hl.1 rfl (lv_room (Nat.le_of_ble_eq_true rfl)) d_Cu_readKey_261 ⟨hkc, hks⟩) hP hD hS hA hal_ rfl (fun H locs hP hD hS => ?_)
    refine W.widen (k := κ) (n := σ) (Nat.le_refl _) (Nat.le_refl _) ?_
    obtain ⟨M10, eM_, hf⟩ := bnP hf
    have hP : va_P D classes (mw M10) H := by rw [eM_]; exact hP
    have hD : va_D A (mw M10) := by rw [eM_]; exact hD
    clear eM_ hal_ hnd_ hc
    obtain ⟨hg, hf⟩ := hf
    refine W.widen (k := MC) (n := MS) hkc hks ?_
    exact m_rz hf hx hb hr hlocks hK hP hD hS (isb_n hg) d_Cu_readKey_264
  · have hf := ifnP cx hf
    refine lv_aload_n hx hb d_Cu_readKey_227 rfl (lv_at hl 0 rfl) ?_
    obtain ⟨fs_, hm_, r11, hv_, hf⟩ := hf
    obtain ⟨ix_, hi_⟩ := m_ix hm_
    refine va_get (D := D) (ci := 3) (v := va_rf r11) (C := "CoinKeeper$Curve") (T := F_3) (N := 7) hx hb hts i_3 hown hK hP ix_ hi_ rfl 2 (by decide) (hts _ gw_78) (fun _ h9 => h9) hv_ d_Cu_readKey_228 ?_
    clear hv_ hi_ hm_
    obtain ⟨q12, rfl, hf⟩ := hf
    refine W.eq (g2 := F0 m 231 ls [.ref q12]) rfl ?_
    refine lv_iload hx hb d_Cu_readKey_231 (lv_at hl 1 rfl) ?_
    refine lv_dup2_11 hx hb d_Cu_readKey_233 rfl rfl ?_
    obtain ⟨n_, f_, hm_, hin_, hf⟩ := hf
    obtain ⟨ix_, hi_⟩ := m_ix hm_
    refine va_lald hx hb hK hP ix_ 2 hi_ rfl (inb_in hin_) d_Cu_readKey_234 ?_
    obtain ⟨v13, ev⟩ : ∃ z, z = f_ x7.toNatClampNeg := ⟨_, rfl⟩
    first | rw [← ev] at hf ⊢ | rw [← ev]
    clear ev hi_ hm_ hin_
    refine lv_aload_n hx hb d_Cu_readKey_235 rfl (lv_at hl 0 rfl) ?_
    obtain ⟨fs_, hm_, r14, hv_, hf⟩ := hf
    obtain ⟨ix_, hi_⟩ := m_ix hm_
    refine va_get (D := D) (ci := 3) (v := va_rf r14) (C := "CoinKeeper$Curve") (T := F_3) (N := 7) hx hb hts i_3 hown hK hP ix_ hi_ rfl 3 (by decide) (hts _ gw_79) (fun _ h9 => h9) hv_ d_Cu_readKey_236 ?_
    clear hv_ hi_ hm_
    obtain ⟨q15, rfl, hf⟩ := hf
    refine W.eq (g2 := F0 m 239 ls [.ref q15, .long v13, .int x7, .ref q12]) rfl ?_
    refine lv_iload hx hb d_Cu_readKey_239 (lv_at hl 1 rfl) ?_
    obtain ⟨n_, f_, hm_, hin_, hf⟩ := hf
    obtain ⟨ix_, hi_⟩ := m_ix hm_
    refine va_lald hx hb hK hP ix_ 2 hi_ rfl (inb_in hin_) d_Cu_readKey_241 ?_
    obtain ⟨v16, ev⟩ : ∃ z, z = f_ x7.toNatClampNeg := ⟨_, rfl⟩
    first | rw [← ev] at hf ⊢ | rw [← ev]
    clear ev hi_ hm_ hin_
    refine lv_lsub hx hb d_Cu_readKey_242 ?_
    refine lv_topl (fun v17 ev => ?_)
    have hf := bnQ ev hf
    clear ev
    obtain ⟨n_, f_, hm_, hin_, hf⟩ := hf
    obtain ⟨ix_, hi_⟩ := m_ix hm_
    have hE_ := m_set (y := .inl (cy 2, n_, .inr (.inl (vp_updL f_ x7.toNatClampNeg v17)))) hD hi_
    refine va_last hx hb hK hP hD hS ix_ 2 hi_ rfl (inb_in hin_) d_Cu_readKey_243 (fun H locs hP hD hS => ?_)
    obtain ⟨M18, eM_⟩ : ∃ z, z = mu M q12 (.inl (cy 2, n_, .inr (.inl (vp_updL f_ x7.toNatClampNeg v17)))) := ⟨_, rfl⟩
    rw [← eM_] at hf hE_
    rw [hE_] at hP hD
    clear hE_ eM_ hi_ hm_
    obtain ⟨v19, ev, hf⟩ := bnP hf
    refine lv_iinc (v := v19) (lv' := [(7, .int v19), (0, .ref x0)]) hx hb d_Cu_readKey_244 hl (k := 1) rfl (by rw [ev]; rfl) (by decide) rfl (fun ls hl => ?_)
    clear ev
    refine lv_goto (tgt := 220) hx hb d_Cu_readKey_247 (by decide) ?_
    exact hk_220 _ _ _ _ _ hf hkc hks _ _ _ hP hD hS (lv_sub hl [1, 0] rfl)
theorem ww_mCu_readKey_220 {p : Program} {l : Launch} {e : Env} {s : State} {m : MethodId} {args : Array Value} {below : List Frame} {meth : Method} {c : Code} {D : va_G} {cy : Nat → ClassId} {A : Nat → Prop} {ad : Nat → Nat} {mi MC MS : Nat} {Φ : Int32 → Mm → Prop} {fu : Nat} (F : FxM p s m args meth c b_Cu_readKey 8 "CoinKeeper$Curve" "readKey" (some .boolean) D cy ad mi A) : ∀ n : Nat, Iw_mCu_readKey_220 p l e s m args below meth c D cy A ad mi MC MS Φ (xw_mCu_readKey_220 fu MC MS cy ad mi Φ n)
  | 0 => fun _ _ _ _ _ hf => False.elim hf
  | n + 1 => wv_mCu_readKey_220 F (ww_mCu_readKey_220 F n)
theorem hds_52 : ({ cls := "CoinKeeper$Point", name := "becomePlain", desc := "()V" } : Jvm.MethodName).cls ≠ "java/lang/invoke/MethodHandle" ∧ ({ cls := "CoinKeeper$Point", name := "becomePlain", desc := "()V" } : Jvm.MethodName).cls ≠ "java/lang/invoke/VarHandle" ∧ (parseMethodDescriptor ({ cls := "CoinKeeper$Point", name := "becomePlain", desc := "()V" } : Jvm.MethodName).desc).map (fun d => d.parameters.length) = some 0 := by decide +kernel
set_option maxHeartbeats 8000000 in
set_option maxRecDepth 100000 in
theorem wv_mCu_readKey_195 {p : Program} {l : Launch} {e : Env} {s : State} {m : MethodId} {args : Array Value} {below : List Frame} {meth : Method} {c : Code} {D : va_G} {cy : Nat → ClassId} {A : Nat → Prop} {ad : Nat → Nat} {mi MC MS : Nat} {Φ : Int32 → Mm → Prop} {fu : Nat} (F : FxM p s m args meth c b_Cu_readKey 8 "CoinKeeper$Curve" "readKey" (some .boolean) D cy ad mi A) : Iw_mCu_readKey_195 p l e s m args below meth c D cy A ad mi MC MS Φ (xv_mCu_readKey_195 fu MC MS cy ad mi Φ) := by
  obtain ⟨⟨hx, hb, hr, hml, hown, hts, hlocks, hK, hA, hSt, hnm, hex⟩, hT, hMi⟩ := id F
  intro κ σ M x0 x4 hf hkc hks H locs ls hP hD hS hl
  unfold xv_mCu_readKey_195 at hf
  refine lv_aload hx hb d_Cu_readKey_195 (lv_at hl 1 rfl) ?_
  obtain ⟨b1, b2, b3, c4, c5, c6, hal_, hnd_, c7, c8, c9, hc, hf⟩ := hf
  refine m_lv (va_runV (C := "CoinKeeper$Point") (As := []) (rest := []) ⟨hx, hb, hml, hown, hts⟩ (c_Po_becomePlain l D cy ad fu x4 b1 b2 b3 c4 c5 c6 _ hc H.size) ⟨q_cB hts gw_138 gw_5 gw_1100 hds_52 ⟨Nat.le_of_ble_eq_true rfl, Nat.le_of_ble_eq_true rfl⟩, hts _ gw_136, hts _ gw_137⟩ (q_preV (q_pre (m_subP hP hal_) (m_subD hD hal_ hnd_) hK hSt hS (m_lF hD hS hA hal_) _) (va_recv hK (m_subP hP hal_) (ci := 7) (q0 := 0) rfl rfl)) rfl rfl hl.1 rfl (lv_room (Nat.le_of_ble_eq_true rfl)) d_Cu_readKey_197 ⟨hkc, hks⟩) hP hD hS hA hal_ rfl (fun H locs hP hD hS => ?_)
  refine W.widen (k := κ) (n := σ) (Nat.le_refl _) (Nat.le_refl _) ?_
  obtain ⟨M10, eM_, hf⟩ := bnP hf
  have hP : va_P D classes (mw M10) H := by rw [eM_]; exact hP
  have hD : va_D A (mw M10) := by rw [eM_]; exact hD
  clear eM_ hal_ hnd_ hc
  refine lv_aload hx hb d_Cu_readKey_200 (lv_at hl 1 rfl) ?_
  obtain ⟨fs_, hm_, r11, hv_, hf⟩ := hf
  obtain ⟨ix_, hi_⟩ := m_ix hm_
  refine va_get (D := D) (ci := 7) (v := va_rf r11) (C := "CoinKeeper$Point") (T := F_7) (N := 5) hx hb hts i_7 hown hK hP ix_ hi_ rfl 1 (by decide) (hts _ gw_110) (fun _ h9 => h9) hv_ d_Cu_readKey_202 ?_
  clear hv_ hi_ hm_
  obtain ⟨q12, rfl, hf⟩ := hf
  refine W.eq (g2 := F0 m 205 ls [.ref q12]) rfl ?_
  refine lv_aload hx hb d_Cu_readKey_205 (lv_at hl 1 rfl) ?_
  obtain ⟨fs_, hm_, r13, hv_, hf⟩ := hf
  obtain ⟨ix_, hi_⟩ := m_ix hm_
  refine va_get (D := D) (ci := 7) (v := va_rf r13) (C := "CoinKeeper$Point") (T := F_7) (N := 5) hx hb hts i_7 hown hK hP ix_ hi_ rfl 1 (by decide) (hts _ gw_110) (fun _ h9 => h9) hv_ d_Cu_readKey_207 ?_
  clear hv_ hi_ hm_
  obtain ⟨q14, rfl, he_, hf⟩ := hf
  subst q14
  refine W.eq (g2 := F0 m 210 ls [.ref q12, .ref q12]) rfl ?_
  refine lv_aload_n hx hb d_Cu_readKey_210 rfl (lv_at hl 0 rfl) ?_
  obtain ⟨fs_, hm_, r15, hv_, hf⟩ := hf
  obtain ⟨ix_, hi_⟩ := m_ix hm_
  refine va_get (D := D) (ci := 3) (v := va_rf r15) (C := "CoinKeeper$Curve") (T := F_3) (N := 7) hx hb hts i_3 hown hK hP ix_ hi_ rfl 3 (by decide) (hts _ gw_79) (fun _ h9 => h9) hv_ d_Cu_readKey_211 ?_
  clear hv_ hi_ hm_
  obtain ⟨q16, rfl, hf⟩ := hf
  refine W.eq (g2 := F0 m 214 ls [.ref q16, .ref q12, .ref q12]) rfl ?_
  obtain ⟨c17, c18, hal_, hnd_, c19, hc, hf⟩ := hf
  refine m_lv (va_runS (As := [.ref q12, .ref q12, .ref q16]) (rest := []) ⟨hx, hb, hml, hown, hts⟩ (c_Cu_multiply_e10 l D cy ad fu q12 q16 c17 c18 _ hc H.size) ⟨q_cB hts gw_1078 gw_4 gw_1076 hds_49 ⟨Nat.le_of_ble_eq_true rfl, Nat.le_of_ble_eq_true rfl⟩, hts _ gw_1077⟩ (q_pre (m_subP hP hal_) (m_subD hD hal_ hnd_) hK hSt hS (m_lF hD hS hA hal_) _) rfl rfl hl.1 rfl (lv_room (Nat.le_of_ble_eq_true rfl)) d_Cu_readKey_214 ⟨hkc, hks⟩) hP hD hS hA hal_ rfl (fun H locs hP hD hS => ?_)
  refine W.widen (k := κ) (n := σ) (Nat.le_refl _) (Nat.le_refl _) ?_
  obtain ⟨M20, eM_, hf⟩ := bnP hf
  have hP : va_P D classes (mw M20) H := by rw [eM_]; exact hP
  have hD : va_D A (mw M20) := by rw [eM_]; exact hD
  clear eM_ hal_ hnd_ hc
  refine lv_iconst (v := 0) hx hb d_Cu_readKey_217 (by decide) ?_
  refine lv_istore (lv' := [(7, .int (0 : Int32)), (0, .ref x0), (4, .ref x4)]) hx hb d_Cu_readKey_218 hl (by decide) rfl (fun ls hl => ?_)
  exact ww_mCu_readKey_220 F fu _ _ _ _ _ hf hkc hks _ _ _ hP hD hS (lv_sub hl [1, 0] rfl)
theorem hds_53 : ({ cls := "CoinKeeper$Curve", name := "readCoordinate", desc := "([BI[J)Z" } : Jvm.MethodName).cls ≠ "java/lang/invoke/MethodHandle" ∧ ({ cls := "CoinKeeper$Curve", name := "readCoordinate", desc := "([BI[J)Z" } : Jvm.MethodName).cls ≠ "java/lang/invoke/VarHandle" ∧ (parseMethodDescriptor ({ cls := "CoinKeeper$Curve", name := "readCoordinate", desc := "([BI[J)Z" } : Jvm.MethodName).desc).map (fun d => d.parameters.length) = some 3 := by decide +kernel
theorem hds_54 : ({ cls := "CoinKeeper$Curve", name := "takeRoot", desc := "([J[J)V" } : Jvm.MethodName).cls ≠ "java/lang/invoke/MethodHandle" ∧ ({ cls := "CoinKeeper$Curve", name := "takeRoot", desc := "([J[J)V" } : Jvm.MethodName).cls ≠ "java/lang/invoke/VarHandle" ∧ (parseMethodDescriptor ({ cls := "CoinKeeper$Curve", name := "takeRoot", desc := "([J[J)V" } : Jvm.MethodName).desc).map (fun d => d.parameters.length) = some 2 := by decide +kernel
theorem hds_55 : ({ cls := "CoinKeeper$Curve", name := "negate", desc := "([J)V" } : Jvm.MethodName).cls ≠ "java/lang/invoke/MethodHandle" ∧ ({ cls := "CoinKeeper$Curve", name := "negate", desc := "([J)V" } : Jvm.MethodName).cls ≠ "java/lang/invoke/VarHandle" ∧ (parseMethodDescriptor ({ cls := "CoinKeeper$Curve", name := "negate", desc := "([J)V" } : Jvm.MethodName).desc).map (fun d => d.parameters.length) = some 1 := by decide +kernel
set_option maxHeartbeats 8000000 in
set_option maxRecDepth 100000 in
theorem wv_mCu_readKey_57 {p : Program} {l : Launch} {e : Env} {s : State} {m : MethodId} {args : Array Value} {below : List Frame} {meth : Method} {c : Code} {D : va_G} {cy : Nat → ClassId} {A : Nat → Prop} {ad : Nat → Nat} {mi MC MS : Nat} {Φ : Int32 → Mm → Prop} {fu : Nat} (F : FxM p s m args meth c b_Cu_readKey 8 "CoinKeeper$Curve" "readKey" (some .boolean) D cy ad mi A) : Iw_mCu_readKey_57 p l e s m args below meth c D cy A ad mi MC MS Φ (xv_mCu_readKey_57 fu MC MS cy ad mi Φ) := by
  obtain ⟨⟨hx, hb, hr, hml, hown, hts, hlocks, hK, hA, hSt, hnm, hex⟩, hT, hMi⟩ := id F
  intro κ σ M x0 x1 x2 x4 x5 hf hkc hks H locs ls hP hD hS hl
  unfold xv_mCu_readKey_57 at hf
  refine lv_aload_n hx hb d_Cu_readKey_57 rfl (lv_at hl 0 rfl) ?_
  refine lv_aload_n hx hb d_Cu_readKey_58 rfl (lv_at hl 1 rfl) ?_
  refine lv_iload_n hx hb d_Cu_readKey_59 rfl (lv_at hl 2 rfl) ?_
  refine lv_iconst (v := 1) hx hb d_Cu_readKey_60 (by decide) ?_
  refine lv_iadd hx hb d_Cu_readKey_61 ?_
  refine lv_topi (fun v1 ev => ?_)
  have hf := bnQ ev hf
  clear ev
  refine lv_aload hx hb d_Cu_readKey_62 (lv_at hl 3 rfl) ?_
  obtain ⟨fs_, hm_, r2, hv_, hf⟩ := hf
  obtain ⟨ix_, hi_⟩ := m_ix hm_
  refine va_get (D := D) (ci := 7) (v := va_rf r2) (C := "CoinKeeper$Point") (T := F_7) (N := 5) hx hb hts i_7 hown hK hP ix_ hi_ rfl 0 (by decide) (hts _ gw_108) (fun _ h9 => h9) hv_ d_Cu_readKey_64 ?_
  clear hv_ hi_ hm_
  obtain ⟨q3, rfl, hf⟩ := hf
  refine W.eq (g2 := F0 m 67 ls [.ref q3, .int v1, .ref x1, .ref x0]) rfl ?_
  obtain ⟨b4, b5, b6, b7, b8, b9, b10, c11, c12, c13, c14, hal_, hnd_, v15, c16, c17, hc, hf⟩ := hf
  refine m_li (va_runV (C := "CoinKeeper$Curve") (As := [.ref x1, .int v1, .ref q3]) (rest := []) ⟨hx, hb, hml, hown, hts⟩ (c_Cu_readCoordinate l D cy ad fu x0 b4 b5 b6 b7 b8 b9 b10 x1 q3 c11 c12 v1 c13 c14 _ hc H.size) ⟨q_cB hts gw_1067 gw_4 gw_1064 hds_53 ⟨Nat.le_of_ble_eq_true rfl, Nat.le_of_ble_eq_true rfl⟩, hts _ gw_1066, hts _ gs_37⟩ (q_preV (q_pre (m_subP hP hal_) (m_subD hD hal_ hnd_) hK hSt hS (m_lF hD hS hA hal_) _) (va_recv hK (m_subP hP hal_) (ci := 3) (q0 := 0) rfl rfl)) rfl rfl hl.1 rfl (lv_room (Nat.le_of_ble_eq_true rfl)) d_Cu_readKey_67 ⟨hkc, hks⟩) hP hD hS hA hal_ rfl (fun H locs hP hD hS => ?_)
  refine W.widen (k := κ) (n := σ) (Nat.le_refl _) (Nat.le_refl _) ?_
  obtain ⟨M18, eM_, hf⟩ := bnP hf
  have hP : va_P D classes (mw M18) H := by rw [eM_]; exact hP
  have hD : va_D A (mw M18) := by rw [eM_]; exact hD
  clear eM_ hal_ hnd_ hc
  refine lv_if_ne (tgt := 75) hx hb d_Cu_readKey_70 (by decide) (fun cx => ?_) (fun cx => ?_)
  · have hf := ifnP cx hf
    refine lv_aload hx hb d_Cu_readKey_75 (lv_at hl 3 rfl) ?_
    obtain ⟨fs_, hm_, r19, hv_, hf⟩ := hf
    obtain ⟨ix_, hi_⟩ := m_ix hm_
    refine va_get (D := D) (ci := 7) (v := va_rf r19) (C := "CoinKeeper$Point") (T := F_7) (N := 5) hx hb hts i_7 hown hK hP ix_ hi_ rfl 0 (by decide) (hts _ gw_108) (fun _ h9 => h9) hv_ d_Cu_readKey_77 ?_
    clear hv_ hi_ hm_
    obtain ⟨q20, rfl, hf⟩ := hf
    refine W.eq (g2 := F0 m 80 ls [.ref q20]) rfl ?_
    refine lv_aload hx hb d_Cu_readKey_80 (lv_at hl 3 rfl) ?_
    obtain ⟨fs_, hm_, r21, hv_, hf⟩ := hf
    obtain ⟨ix_, hi_⟩ := m_ix hm_
    refine va_get (D := D) (ci := 7) (v := va_rf r21) (C := "CoinKeeper$Point") (T := F_7) (N := 5) hx hb hts i_7 hown hK hP ix_ hi_ rfl 0 (by decide) (hts _ gw_108) (fun _ h9 => h9) hv_ d_Cu_readKey_82 ?_
    clear hv_ hi_ hm_
    obtain ⟨q22, rfl, he_, hf⟩ := hf
    subst q22
    refine W.eq (g2 := F0 m 85 ls [.ref q20, .ref q20]) rfl ?_
    refine lv_aload_n hx hb d_Cu_readKey_85 rfl (lv_at hl 0 rfl) ?_
    obtain ⟨fs_, hm_, r23, hv_, hf⟩ := hf
    obtain ⟨ix_, hi_⟩ := m_ix hm_
    refine va_get (D := D) (ci := 3) (v := va_rf r23) (C := "CoinKeeper$Curve") (T := F_3) (N := 7) hx hb hts i_3 hown hK hP ix_ hi_ rfl 2 (by decide) (hts _ gw_78) (fun _ h9 => h9) hv_ d_Cu_readKey_86 ?_
    clear hv_ hi_ hm_
    obtain ⟨q24, rfl, hf⟩ := hf
    refine W.eq (g2 := F0 m 89 ls [.ref q24, .ref q20, .ref q20]) rfl ?_
    obtain ⟨c25, c26, hal_, hnd_, c27, hc, hf⟩ := hf
    refine m_lv (va_runS (As := [.ref q20, .ref q20, .ref q24]) (rest := []) ⟨hx, hb, hml, hown, hts⟩ (c_Cu_multiply_e10 l D cy ad fu q20 q24 c25 c26 _ hc H.size) ⟨q_cB hts gw_1078 gw_4 gw_1076 hds_49 ⟨Nat.le_of_ble_eq_true rfl, Nat.le_of_ble_eq_true rfl⟩, hts _ gw_1077⟩ (q_pre (m_subP hP hal_) (m_subD hD hal_ hnd_) hK hSt hS (m_lF hD hS hA hal_) _) rfl rfl hl.1 rfl (lv_room (Nat.le_of_ble_eq_true rfl)) d_Cu_readKey_89 ⟨hkc, hks⟩) hP hD hS hA hal_ rfl (fun H locs hP hD hS => ?_)
    refine W.widen (k := κ) (n := σ) (Nat.le_refl _) (Nat.le_refl _) ?_
    obtain ⟨M28, eM_, hf⟩ := bnP hf
    have hP : va_P D classes (mw M28) H := by rw [eM_]; exact hP
    have hD : va_D A (mw M28) := by rw [eM_]; exact hD
    clear eM_ hal_ hnd_ hc
    refine lv_aload_n hx hb d_Cu_readKey_92 rfl (lv_at hl 0 rfl) ?_
    obtain ⟨fs_, hm_, r29, hv_, hf⟩ := hf
    obtain ⟨ix_, hi_⟩ := m_ix hm_
    refine va_get (D := D) (ci := 3) (v := va_rf r29) (C := "CoinKeeper$Curve") (T := F_3) (N := 7) hx hb hts i_3 hown hK hP ix_ hi_ rfl 2 (by decide) (hts _ gw_78) (fun _ h9 => h9) hv_ d_Cu_readKey_93 ?_
    clear hv_ hi_ hm_
    obtain ⟨q30, rfl, hf⟩ := hf
    refine W.eq (g2 := F0 m 96 ls [.ref q30]) rfl ?_
    refine lv_aload hx hb d_Cu_readKey_96 (lv_at hl 3 rfl) ?_
    obtain ⟨fs_, hm_, r31, hv_, hf⟩ := hf
    obtain ⟨ix_, hi_⟩ := m_ix hm_
    refine va_get (D := D) (ci := 7) (v := va_rf r31) (C := "CoinKeeper$Point") (T := F_7) (N := 5) hx hb hts i_7 hown hK hP ix_ hi_ rfl 0 (by decide) (hts _ gw_108) (fun _ h9 => h9) hv_ d_Cu_readKey_98 ?_
    clear hv_ hi_ hm_
    obtain ⟨q32, rfl, hf⟩ := hf
    refine W.eq (g2 := F0 m 101 ls [.ref q32, .ref q30]) rfl ?_
    refine lv_aload_n hx hb d_Cu_readKey_101 rfl (lv_at hl 0 rfl) ?_
    obtain ⟨fs_, hm_, r33, hv_, hf⟩ := hf
    obtain ⟨ix_, hi_⟩ := m_ix hm_
    refine va_get (D := D) (ci := 3) (v := va_rf r33) (C := "CoinKeeper$Curve") (T := F_3) (N := 7) hx hb hts i_3 hown hK hP ix_ hi_ rfl 2 (by decide) (hts _ gw_78) (fun _ h9 => h9) hv_ d_Cu_readKey_102 ?_
    clear hv_ hi_ hm_
    obtain ⟨q34, rfl, he_, hf⟩ := hf
    subst q34
    refine W.eq (g2 := F0 m 105 ls [.ref q30, .ref q32, .ref q30]) rfl ?_
    obtain ⟨c35, c36, hal_, hnd_, c37, hc, hf⟩ := hf
    refine m_lv (va_runS (As := [.ref q30, .ref q32, .ref q30]) (rest := []) ⟨hx, hb, hml, hown, hts⟩ (c_Cu_multiply_e20 l D cy ad fu q30 q32 c35 c36 _ hc H.size) ⟨q_cB hts gw_1078 gw_4 gw_1076 hds_49 ⟨Nat.le_of_ble_eq_true rfl, Nat.le_of_ble_eq_true rfl⟩, hts _ gw_1077⟩ (q_pre (m_subP hP hal_) (m_subD hD hal_ hnd_) hK hSt hS (m_lF hD hS hA hal_) _) rfl rfl hl.1 rfl (lv_room (Nat.le_of_ble_eq_true rfl)) d_Cu_readKey_105 ⟨hkc, hks⟩) hP hD hS hA hal_ rfl (fun H locs hP hD hS => ?_)
    refine W.widen (k := κ) (n := σ) (Nat.le_refl _) (Nat.le_refl _) ?_
    obtain ⟨M38, eM_, hf⟩ := bnP hf
    have hP : va_P D classes (mw M38) H := by rw [eM_]; exact hP
    have hD : va_D A (mw M38) := by rw [eM_]; exact hD
    clear eM_ hal_ hnd_ hc
    refine lv_aload_n hx hb d_Cu_readKey_108 rfl (lv_at hl 0 rfl) ?_
    obtain ⟨fs_, hm_, r39, hv_, hf⟩ := hf
    obtain ⟨ix_, hi_⟩ := m_ix hm_
    refine va_get (D := D) (ci := 3) (v := va_rf r39) (C := "CoinKeeper$Curve") (T := F_3) (N := 7) hx hb hts i_3 hown hK hP ix_ hi_ rfl 2 (by decide) (hts _ gw_78) (fun _ h9 => h9) hv_ d_Cu_readKey_109 ?_
    clear hv_ hi_ hm_
    obtain ⟨q40, rfl, hf⟩ := hf
    refine W.eq (g2 := F0 m 112 ls [.ref q40]) rfl ?_
    refine lv_iconst (v := 0) hx hb d_Cu_readKey_112 (by decide) ?_
    refine lv_dup2_11 hx hb d_Cu_readKey_113 rfl rfl ?_
    obtain ⟨n_, f_, hm_, hin_, hf⟩ := hf
    obtain ⟨ix_, hi_⟩ := m_ix hm_
    refine va_lald hx hb hK hP ix_ 2 hi_ rfl (inb_in hin_) d_Cu_readKey_114 ?_
    obtain ⟨v41, ev⟩ : ∃ z, z = f_ (0 : Int32).toNatClampNeg := ⟨_, rfl⟩
    first | rw [← ev] at hf ⊢ | rw [← ev]
    clear ev hi_ hm_ hin_
    refine lv_ldc2 (v := 7) hx hb hown (hts _ gw_1085) d_Cu_readKey_115 ?_
    refine lv_ladd hx hb d_Cu_readKey_118 ?_
    refine lv_topl (fun v42 ev => ?_)
    have hf := bnQ ev hf
    clear ev
    obtain ⟨n_, f_, hm_, hin_, hf⟩ := hf
    obtain ⟨ix_, hi_⟩ := m_ix hm_
    have hE_ := m_set (y := .inl (cy 2, n_, .inr (.inl (vp_updL f_ (0 : Int32).toNatClampNeg v42)))) hD hi_
    refine va_last hx hb hK hP hD hS ix_ 2 hi_ rfl (inb_in hin_) d_Cu_readKey_119 (fun H locs hP hD hS => ?_)
    obtain ⟨M43, eM_⟩ : ∃ z, z = mu M38 q40 (.inl (cy 2, n_, .inr (.inl (vp_updL f_ (0 : Int32).toNatClampNeg v42)))) := ⟨_, rfl⟩
    rw [← eM_] at hf hE_
    rw [hE_] at hP hD
    clear hE_ eM_ hi_ hm_
    refine lv_iload hx hb d_Cu_readKey_120 (lv_at hl 4 rfl) ?_
    refine lv_if_eq (tgt := 176) hx hb d_Cu_readKey_122 (by decide) (fun cx => ?_) (fun cx => ?_)
    · have hf := ifpP cx hf
      refine lv_aload_n hx hb d_Cu_readKey_176 rfl (lv_at hl 0 rfl) ?_
      refine lv_aload_n hx hb d_Cu_readKey_177 rfl (lv_at hl 1 rfl) ?_
      refine lv_iload_n hx hb d_Cu_readKey_178 rfl (lv_at hl 2 rfl) ?_
      refine lv_bipush (v := 33) hx hb d_Cu_readKey_179 (by decide) ?_
      refine lv_iadd hx hb d_Cu_readKey_181 ?_
      refine lv_topi (fun v44 ev => ?_)
      have hf := bnQ ev hf
      clear ev
      refine lv_aload hx hb d_Cu_readKey_182 (lv_at hl 3 rfl) ?_
      obtain ⟨fs_, hm_, r45, hv_, hf⟩ := hf
      obtain ⟨ix_, hi_⟩ := m_ix hm_
      refine va_get (D := D) (ci := 7) (v := va_rf r45) (C := "CoinKeeper$Point") (T := F_7) (N := 5) hx hb hts i_7 hown hK hP ix_ hi_ rfl 1 (by decide) (hts _ gw_110) (fun _ h9 => h9) hv_ d_Cu_readKey_184 ?_
      clear hv_ hi_ hm_
      obtain ⟨q46, rfl, hf⟩ := hf
      refine W.eq (g2 := F0 m 187 ls [.ref q46, .int v44, .ref x1, .ref x0]) rfl ?_
      obtain ⟨b47, b48, b49, b50, b51, b52, b53, c54, c55, c56, c57, hal_, hnd_, v58, c59, c60, hc, hf⟩ := hf
      refine m_li (va_runV (C := "CoinKeeper$Curve") (As := [.ref x1, .int v44, .ref q46]) (rest := []) ⟨hx, hb, hml, hown, hts⟩ (c_Cu_readCoordinate l D cy ad fu x0 b47 b48 b49 b50 b51 b52 b53 x1 q46 c54 c55 v44 c56 c57 _ hc H.size) ⟨q_cB hts gw_1067 gw_4 gw_1064 hds_53 ⟨Nat.le_of_ble_eq_true rfl, Nat.le_of_ble_eq_true rfl⟩, hts _ gw_1066, hts _ gs_37⟩ (q_preV (q_pre (m_subP hP hal_) (m_subD hD hal_ hnd_) hK hSt hS (m_lF hD hS hA hal_) _) (va_recv hK (m_subP hP hal_) (ci := 3) (q0 := 0) rfl rfl)) rfl rfl hl.1 rfl (lv_room (Nat.le_of_ble_eq_true rfl)) d_Cu_readKey_187 ⟨hkc, hks⟩) hP hD hS hA hal_ rfl (fun H locs hP hD hS => ?_)
      refine W.widen (k := κ) (n := σ) (Nat.le_refl _) (Nat.le_refl _) ?_
      obtain ⟨M61, eM_, hf⟩ := bnP hf
      have hP : va_P D classes (mw M61) H := by rw [eM_]; exact hP
      have hD : va_D A (mw M61) := by rw [eM_]; exact hD
      clear eM_ hal_ hnd_ hc
      refine lv_if_ne (tgt := 195) hx hb d_Cu_readKey_190 (by decide) (fun cx => ?_) (fun cx => ?_)
      · have hf := ifnP cx hf
        exact wv_mCu_readKey_195 (fu := fu) F _ _ _ _ _ hf hkc hks _ _ _ hP hD hS (lv_sub hl [0, 3] rfl)
      · have hf := ifpP cx hf
        refine lv_iconst (v := 0) hx hb d_Cu_readKey_193 (by decide) ?_
        refine W.widen (k := MC) (n := MS) hkc hks ?_
        exact m_rz hf hx hb hr hlocks hK hP hD hS (isb_n (v := 0) (by decide)) d_Cu_readKey_194
    · have hf := ifnP cx hf
      refine lv_aload_n hx hb d_Cu_readKey_125 rfl (lv_at hl 0 rfl) ?_
      refine lv_aload_n hx hb d_Cu_readKey_126 rfl (lv_at hl 0 rfl) ?_
      obtain ⟨fs_, hm_, r62, hv_, hf⟩ := hf
      obtain ⟨ix_, hi_⟩ := m_ix hm_
      refine va_get (D := D) (ci := 3) (v := va_rf r62) (C := "CoinKeeper$Curve") (T := F_3) (N := 7) hx hb hts i_3 hown hK hP ix_ hi_ rfl 2 (by decide) (hts _ gw_78) (fun _ h9 => h9) hv_ d_Cu_readKey_127 ?_
      clear hv_ hi_ hm_
      obtain ⟨q63, rfl, hf⟩ := hf
      refine W.eq (g2 := F0 m 130 ls [.ref q63, .ref x0]) rfl ?_
      refine lv_aload hx hb d_Cu_readKey_130 (lv_at hl 3 rfl) ?_
      obtain ⟨fs_, hm_, r64, hv_, hf⟩ := hf
      obtain ⟨ix_, hi_⟩ := m_ix hm_
      refine va_get (D := D) (ci := 7) (v := va_rf r64) (C := "CoinKeeper$Point") (T := F_7) (N := 5) hx hb hts i_7 hown hK hP ix_ hi_ rfl 1 (by decide) (hts _ gw_110) (fun _ h9 => h9) hv_ d_Cu_readKey_132 ?_
      clear hv_ hi_ hm_
      obtain ⟨q65, rfl, hf⟩ := hf
      refine W.eq (g2 := F0 m 135 ls [.ref q65, .ref q63, .ref x0]) rfl ?_
      obtain ⟨fs_, hm_, hf⟩ := hf
      obtain ⟨ix_, hi_⟩ := m_ix hm_
      obtain ⟨mc66, ms67, ⟨hc_, hd_⟩, hf⟩ := hf
      refine m_av (va_runV (C := "CoinKeeper$Curve") (As := [.ref q63, .ref q65]) (rest := []) ⟨hx, hb, hml, hown, hts⟩ (cw_mCu_takeRoot l D cy ad mi fu mc66 ms67 x0 q63 q65 M43 _ hf H.size) ⟨q_cB hts gw_1089 gw_4 gw_1086 hds_54 ⟨Nat.le_of_ble_eq_true rfl, Nat.le_of_ble_eq_true rfl⟩, hts _ gw_1088, hts _ gs_38⟩ (q_preVM (q_preM hP hD hK hSt hT hMi hS (m_free hD hS hA) _) (va_recv hK hP (ci := 3) (q0 := ix_) rfl hi_)) rfl rfl hl.1 rfl (lv_room (Nat.le_of_ble_eq_true rfl)) d_Cu_readKey_135 ⟨hc_, hd_⟩) hD hS hA (fun M68 H locs hf hP hD hS => ?_)
      have hkc : κ + mc66 ≤ MC := hc_
      have hks : σ + ms67 ≤ MS := hd_
      clear hc_ hd_
      refine lv_aload hx hb d_Cu_readKey_138 (lv_at hl 3 rfl) ?_
      obtain ⟨fs_, hm_, r69, hv_, hf⟩ := hf
      obtain ⟨ix_, hi_⟩ := m_ix hm_
      refine va_get (D := D) (ci := 7) (v := va_rf r69) (C := "CoinKeeper$Point") (T := F_7) (N := 5) hx hb hts i_7 hown hK hP ix_ hi_ rfl 1 (by decide) (hts _ gw_110) (fun _ h9 => h9) hv_ d_Cu_readKey_140 ?_
      clear hv_ hi_ hm_
      obtain ⟨q70, rfl, hf⟩ := hf
      refine W.eq (g2 := F0 m 143 ls [.ref q70]) rfl ?_
      obtain ⟨c71, hal_, hnd_, c72, hc, hf⟩ := hf
      refine m_lv (va_runS (As := [.ref q70]) (rest := []) ⟨hx, hb, hml, hown, hts⟩ (c_Cu_settle l D cy ad fu q70 c71 _ hc H.size) ⟨q_cB hts gw_1095 gw_4 gw_1093 hds_50 ⟨Nat.le_of_ble_eq_true rfl, Nat.le_of_ble_eq_true rfl⟩, hts _ gw_1094⟩ (q_pre (m_subP hP hal_) (m_subD hD hal_ hnd_) hK hSt hS (m_lF hD hS hA hal_) _) rfl rfl hl.1 rfl (lv_room (Nat.le_of_ble_eq_true rfl)) d_Cu_readKey_143 ⟨hkc, hks⟩) hP hD hS hA hal_ rfl (fun H locs hP hD hS => ?_)
      refine W.widen (k := κ + mc66) (n := σ + ms67) (Nat.le_refl _) (Nat.le_refl _) ?_
      obtain ⟨M73, eM_, hf⟩ := bnP hf
      have hP : va_P D classes (mw M73) H := by rw [eM_]; exact hP
      have hD : va_D A (mw M73) := by rw [eM_]; exact hD
      clear eM_ hal_ hnd_ hc
      refine lv_aload hx hb d_Cu_readKey_146 (lv_at hl 3 rfl) ?_
      obtain ⟨fs_, hm_, r74, hv_, hf⟩ := hf
      obtain ⟨ix_, hi_⟩ := m_ix hm_
      refine va_get (D := D) (ci := 7) (v := va_rf r74) (C := "CoinKeeper$Point") (T := F_7) (N := 5) hx hb hts i_7 hown hK hP ix_ hi_ rfl 1 (by decide) (hts _ gw_110) (fun _ h9 => h9) hv_ d_Cu_readKey_148 ?_
      clear hv_ hi_ hm_
      obtain ⟨q75, rfl, hf⟩ := hf
      refine W.eq (g2 := F0 m 151 ls [.ref q75]) rfl ?_
      refine lv_iconst (v := 0) hx hb d_Cu_readKey_151 (by decide) ?_
      obtain ⟨n_, f_, hm_, hin_, hf⟩ := hf
      obtain ⟨ix_, hi_⟩ := m_ix hm_
      refine va_lald hx hb hK hP ix_ 2 hi_ rfl (inb_in hin_) d_Cu_readKey_152 ?_
      obtain ⟨v76, ev⟩ : ∃ z, z = f_ (0 : Int32).toNatClampNeg := ⟨_, rfl⟩
      first | rw [← ev] at hf ⊢ | rw [← ev]
      clear ev hi_ hm_ hin_
      refine lv_lconst (v := 1) hx hb d_Cu_readKey_153 (by decide) ?_
      refine lv_land hx hb d_Cu_readKey_154 ?_
      refine lv_topl (fun v77 ev => ?_)
      have hf := bnQ ev hf
      clear ev
      refine lv_aload_n hx hb d_Cu_readKey_155 rfl (lv_at hl 1 rfl) ?_
      refine lv_iload_n hx hb d_Cu_readKey_156 rfl (lv_at hl 2 rfl) ?_
      obtain ⟨n_, f_, hm_, hin_, hf⟩ := hf
      obtain ⟨ix_, hi_⟩ := m_ix hm_
      refine va_bald hx hb hK hP ix_ 0 hi_ rfl (inb_in hin_) d_Cu_readKey_157 ?_
      obtain ⟨v78, ev⟩ : ∃ z, z = f_ x2.toNatClampNeg := ⟨_, rfl⟩
      first | rw [← ev] at hf ⊢ | rw [← ev]
      clear ev hi_ hm_ hin_
      refine lv_iconst (v := 1) hx hb d_Cu_readKey_158 (by decide) ?_
      refine lv_iand hx hb d_Cu_readKey_159 ?_
      refine lv_i2l hx hb d_Cu_readKey_160 rfl ?_
      refine W.lcmp hx hb d_Cu_readKey_161 ?_
      refine lv_if_eq (tgt := 195) hx hb d_Cu_readKey_162 (by decide) (fun cx => ?_) (fun cx => ?_)
      · have hf := ifpP cx hf
        exact wv_mCu_readKey_195 (fu := fu) F _ _ _ _ _ hf hkc hks _ _ _ hP hD hS (lv_sub hl [0, 3] rfl)
      · have hf := ifnP cx hf
        refine lv_aload hx hb d_Cu_readKey_165 (lv_at hl 3 rfl) ?_
        obtain ⟨fs_, hm_, r79, hv_, hf⟩ := hf
        obtain ⟨ix_, hi_⟩ := m_ix hm_
        refine va_get (D := D) (ci := 7) (v := va_rf r79) (C := "CoinKeeper$Point") (T := F_7) (N := 5) hx hb hts i_7 hown hK hP ix_ hi_ rfl 1 (by decide) (hts _ gw_110) (fun _ h9 => h9) hv_ d_Cu_readKey_167 ?_
        clear hv_ hi_ hm_
        obtain ⟨q80, rfl, he_, hf⟩ := hf
        subst q80
        refine W.eq (g2 := F0 m 170 ls [.ref q75]) rfl ?_
        obtain ⟨c81, hal_, hnd_, c82, hc, hf⟩ := hf
        refine m_lv (va_runS (As := [.ref q75]) (rest := []) ⟨hx, hb, hml, hown, hts⟩ (c_Cu_negate l D cy ad fu q75 c81 _ hc H.size) ⟨q_cB hts gw_1099 gw_4 gw_1097 hds_55 ⟨Nat.le_of_ble_eq_true rfl, Nat.le_of_ble_eq_true rfl⟩, hts _ gw_1098⟩ (q_pre (m_subP hP hal_) (m_subD hD hal_ hnd_) hK hSt hS (m_lF hD hS hA hal_) _) rfl rfl hl.1 rfl (lv_room (Nat.le_of_ble_eq_true rfl)) d_Cu_readKey_170 ⟨hkc, hks⟩) hP hD hS hA hal_ rfl (fun H locs hP hD hS => ?_)
        refine W.widen (k := κ + mc66) (n := σ + ms67) (Nat.le_refl _) (Nat.le_refl _) ?_
        obtain ⟨M83, eM_, hf⟩ := bnP hf
        have hP : va_P D classes (mw M83) H := by rw [eM_]; exact hP
        have hD : va_D A (mw M83) := by rw [eM_]; exact hD
        clear eM_ hal_ hnd_ hc
        refine lv_goto (tgt := 195) hx hb d_Cu_readKey_173 (by decide) ?_
        exact wv_mCu_readKey_195 (fu := fu) F _ _ _ _ _ hf hkc hks _ _ _ hP hD hS (lv_sub hl [0, 3] rfl)
  · have hf := ifpP cx hf
    refine lv_iconst (v := 0) hx hb d_Cu_readKey_73 (by decide) ?_
    refine W.widen (k := MC) (n := MS) hkc hks ?_
    exact m_rz hf hx hb hr hlocks hK hP hD hS (isb_n (v := 0) (by decide)) d_Cu_readKey_74
set_option maxHeartbeats 8000000 in
set_option maxRecDepth 100000 in
theorem wv_mCu_readKey_45 {p : Program} {l : Launch} {e : Env} {s : State} {m : MethodId} {args : Array Value} {below : List Frame} {meth : Method} {c : Code} {D : va_G} {cy : Nat → ClassId} {A : Nat → Prop} {ad : Nat → Nat} {mi MC MS : Nat} {Φ : Int32 → Mm → Prop} {fu : Nat} (F : FxM p s m args meth c b_Cu_readKey 8 "CoinKeeper$Curve" "readKey" (some .boolean) D cy ad mi A) : Iw_mCu_readKey_45 p l e s m args below meth c D cy A ad mi MC MS Φ (xv_mCu_readKey_45 fu MC MS cy ad mi Φ) := by
  obtain ⟨⟨hx, hb, hr, hml, hown, hts, hlocks, hK, hA, hSt, hnm, hex⟩, hT, hMi⟩ := id F
  intro κ σ M x0 x1 x2 x4 x5 y0 hf hkc hks H locs ls hP hD hS hl
  unfold xv_mCu_readKey_45 at hf
  refine lv_istore (lv' := [(6, .int y0), (0, .ref x0), (1, .ref x1), (2, .int x2), (4, .ref x4), (5, .int x5)]) hx hb d_Cu_readKey_45 hl (by decide) rfl (fun ls hl => ?_)
  refine lv_iload hx hb d_Cu_readKey_47 (lv_at hl 5 rfl) ?_
  refine lv_if_ne (tgt := 57) hx hb d_Cu_readKey_49 (by decide) (fun cx => ?_) (fun cx => ?_)
  · have hf := ifnP cx hf
    exact wv_mCu_readKey_57 (fu := fu) F _ _ _ _ _ _ _ _ hf hkc hks _ _ _ hP hD hS (lv_sub hl [1, 2, 3, 4, 5] rfl)
  · have hf := ifpP cx hf
    refine lv_iload hx hb d_Cu_readKey_52 (lv_at hl 0 rfl) ?_
    refine lv_if_eq (tgt := 73) hx hb d_Cu_readKey_54 (by decide) (fun cx => ?_) (fun cx => ?_)
    · have hf := ifpP cx hf
      refine lv_iconst (v := 0) hx hb d_Cu_readKey_73 (by decide) ?_
      refine W.widen (k := MC) (n := MS) hkc hks ?_
      exact m_rz hf hx hb hr hlocks hK hP hD hS (isb_n (v := 0) (by decide)) d_Cu_readKey_74
    · have hf := ifnP cx hf
      exact wv_mCu_readKey_57 (fu := fu) F _ _ _ _ _ _ _ _ hf hkc hks _ _ _ hP hD hS (lv_sub hl [1, 2, 3, 4, 5] rfl)
set_option maxHeartbeats 8000000 in
set_option maxRecDepth 100000 in
theorem wv_mCu_readKey_44 {p : Program} {l : Launch} {e : Env} {s : State} {m : MethodId} {args : Array Value} {below : List Frame} {meth : Method} {c : Code} {D : va_G} {cy : Nat → ClassId} {A : Nat → Prop} {ad : Nat → Nat} {mi MC MS : Nat} {Φ : Int32 → Mm → Prop} {fu : Nat} (F : FxM p s m args meth c b_Cu_readKey 8 "CoinKeeper$Curve" "readKey" (some .boolean) D cy ad mi A) : Iw_mCu_readKey_44 p l e s m args below meth c D cy A ad mi MC MS Φ (xv_mCu_readKey_44 fu MC MS cy ad mi Φ) := by
  obtain ⟨⟨hx, hb, hr, hml, hown, hts, hlocks, hK, hA, hSt, hnm, hex⟩, hT, hMi⟩ := id F
  intro κ σ M x0 x1 x2 x4 x5 hf hkc hks H locs ls hP hD hS hl
  unfold xv_mCu_readKey_44 at hf
  refine lv_iconst (v := 0) hx hb d_Cu_readKey_44 (by decide) ?_
  exact wv_mCu_readKey_45 (fu := fu) F _ _ _ _ _ _ _ _ _ hf hkc hks _ _ _ hP hD hS (lv_sub hl [0, 1, 2, 3, 4] rfl)
set_option maxHeartbeats 8000000 in
set_option maxRecDepth 100000 in
theorem wv_mCu_readKey_25 {p : Program} {l : Launch} {e : Env} {s : State} {m : MethodId} {args : Array Value} {below : List Frame} {meth : Method} {c : Code} {D : va_G} {cy : Nat → ClassId} {A : Nat → Prop} {ad : Nat → Nat} {mi MC MS : Nat} {Φ : Int32 → Mm → Prop} {fu : Nat} (F : FxM p s m args meth c b_Cu_readKey 8 "CoinKeeper$Curve" "readKey" (some .boolean) D cy ad mi A) : Iw_mCu_readKey_25 p l e s m args below meth c D cy A ad mi MC MS Φ (xv_mCu_readKey_25 fu MC MS cy ad mi Φ) := by
  obtain ⟨⟨hx, hb, hr, hml, hown, hts, hlocks, hK, hA, hSt, hnm, hex⟩, hT, hMi⟩ := id F
  intro κ σ M x0 x1 x2 x3 x4 y0 hf hkc hks H locs ls hP hD hS hl
  unfold xv_mCu_readKey_25 at hf
  refine lv_istore (lv' := [(5, .int y0), (0, .ref x0), (1, .ref x1), (2, .int x2), (3, .int x3), (4, .ref x4)]) hx hb d_Cu_readKey_25 hl (by decide) rfl (fun ls hl => ?_)
  refine lv_iload_n hx hb d_Cu_readKey_27 rfl (lv_at hl 4 rfl) ?_
  refine lv_bipush (v := 65) hx hb d_Cu_readKey_28 (by decide) ?_
  refine lv_icmp_ne (tgt := 44) hx hb d_Cu_readKey_30 (by decide) (fun cx => ?_) (fun cx => ?_)
  · have hf := ifnP cx hf
    exact wv_mCu_readKey_44 (fu := fu) F _ _ _ _ _ _ _ _ hf hkc hks _ _ _ hP hD hS (lv_sub hl [1, 2, 3, 5, 0] rfl)
  · have hf := ifpP cx hf
    refine lv_aload_n hx hb d_Cu_readKey_33 rfl (lv_at hl 2 rfl) ?_
    refine lv_iload_n hx hb d_Cu_readKey_34 rfl (lv_at hl 3 rfl) ?_
    obtain ⟨n_, f_, hm_, hin_, hf⟩ := hf
    obtain ⟨ix_, hi_⟩ := m_ix hm_
    refine va_bald hx hb hK hP ix_ 0 hi_ rfl (inb_in hin_) d_Cu_readKey_35 ?_
    obtain ⟨v1, ev⟩ : ∃ z, z = f_ x2.toNatClampNeg := ⟨_, rfl⟩
    first | rw [← ev] at hf ⊢ | rw [← ev]
    clear ev hi_ hm_ hin_
    refine lv_iconst (v := 4) hx hb d_Cu_readKey_36 (by decide) ?_
    refine lv_icmp_ne (tgt := 44) hx hb d_Cu_readKey_37 (by decide) (fun cx => ?_) (fun cx => ?_)
    · have hf := ifnP cx hf
      exact wv_mCu_readKey_44 (fu := fu) F _ _ _ _ _ _ _ _ hf hkc hks _ _ _ hP hD hS (lv_sub hl [1, 2, 3, 5, 0] rfl)
    · have hf := ifpP cx hf
      refine lv_iconst (v := 1) hx hb d_Cu_readKey_40 (by decide) ?_
      refine lv_goto (tgt := 45) hx hb d_Cu_readKey_41 (by decide) ?_
      exact wv_mCu_readKey_45 (fu := fu) F _ _ _ _ _ _ _ _ _ hf hkc hks _ _ _ hP hD hS (lv_sub hl [1, 2, 3, 5, 0] rfl)
set_option maxHeartbeats 8000000 in
set_option maxRecDepth 100000 in
theorem wv_mCu_readKey_24 {p : Program} {l : Launch} {e : Env} {s : State} {m : MethodId} {args : Array Value} {below : List Frame} {meth : Method} {c : Code} {D : va_G} {cy : Nat → ClassId} {A : Nat → Prop} {ad : Nat → Nat} {mi MC MS : Nat} {Φ : Int32 → Mm → Prop} {fu : Nat} (F : FxM p s m args meth c b_Cu_readKey 8 "CoinKeeper$Curve" "readKey" (some .boolean) D cy ad mi A) : Iw_mCu_readKey_24 p l e s m args below meth c D cy A ad mi MC MS Φ (xv_mCu_readKey_24 fu MC MS cy ad mi Φ) := by
  obtain ⟨⟨hx, hb, hr, hml, hown, hts, hlocks, hK, hA, hSt, hnm, hex⟩, hT, hMi⟩ := id F
  intro κ σ M x0 x1 x2 x3 x4 hf hkc hks H locs ls hP hD hS hl
  unfold xv_mCu_readKey_24 at hf
  refine lv_iconst (v := 0) hx hb d_Cu_readKey_24 (by decide) ?_
  exact wv_mCu_readKey_25 (fu := fu) F _ _ _ _ _ _ _ _ _ hf hkc hks _ _ _ hP hD hS (lv_sub hl [0, 1, 2, 3, 4] rfl)
set_option maxHeartbeats 8000000 in
set_option maxRecDepth 100000 in
theorem wv_mCu_readKey_20 {p : Program} {l : Launch} {e : Env} {s : State} {m : MethodId} {args : Array Value} {below : List Frame} {meth : Method} {c : Code} {D : va_G} {cy : Nat → ClassId} {A : Nat → Prop} {ad : Nat → Nat} {mi MC MS : Nat} {Φ : Int32 → Mm → Prop} {fu : Nat} (F : FxM p s m args meth c b_Cu_readKey 8 "CoinKeeper$Curve" "readKey" (some .boolean) D cy ad mi A) : Iw_mCu_readKey_20 p l e s m args below meth c D cy A ad mi MC MS Φ (xv_mCu_readKey_20 fu MC MS cy ad mi Φ) := by
  obtain ⟨⟨hx, hb, hr, hml, hown, hts, hlocks, hK, hA, hSt, hnm, hex⟩, hT, hMi⟩ := id F
  intro κ σ M x0 x1 x2 x3 x4 hf hkc hks H locs ls hP hD hS hl
  unfold xv_mCu_readKey_20 at hf
  refine lv_iconst (v := 1) hx hb d_Cu_readKey_20 (by decide) ?_
  refine lv_goto (tgt := 25) hx hb d_Cu_readKey_21 (by decide) ?_
  exact wv_mCu_readKey_25 (fu := fu) F _ _ _ _ _ _ _ _ _ hf hkc hks _ _ _ hP hD hS (lv_sub hl [0, 1, 2, 3, 4] rfl)
set_option maxHeartbeats 8000000 in
set_option maxRecDepth 100000 in
theorem wew_mCu_readKey {p : Program} {l : Launch} {e : Env} {s : State} {m : MethodId} {args : Array Value} {below : List Frame} {meth : Method} {c : Code} {D : va_G} {cy : Nat → ClassId} {A : Nat → Prop} {ad : Nat → Nat} {mi MC MS : Nat} {Φ : Int32 → Mm → Prop} {fu : Nat} (F : FxM p s m args meth c b_Cu_readKey 8 "CoinKeeper$Curve" "readKey" (some .boolean) D cy ad mi A) : Iw_mCu_readKey_e p l e s m args below meth c D cy A ad mi MC MS Φ (xw_mCu_readKey fu MC MS cy ad mi Φ) := by
  obtain ⟨⟨hx, hb, hr, hml, hown, hts, hlocks, hK, hA, hSt, hnm, hex⟩, hT, hMi⟩ := id F
  intro κ σ M a0 a1 a2 a3 a4 hf hkc hks H locs ls hP hD hS hl
  unfold xw_mCu_readKey at hf
  refine lv_iload_n hx hb d_Cu_readKey_0 rfl (lv_at hl 3 rfl) ?_
  refine lv_bipush (v := 33) hx hb d_Cu_readKey_1 (by decide) ?_
  refine lv_icmp_ne (tgt := 24) hx hb d_Cu_readKey_3 (by decide) (fun cx => ?_) (fun cx => ?_)
  · have hf := ifnP cx hf
    exact wv_mCu_readKey_24 (fu := fu) F _ _ _ _ _ _ _ _ hf hkc hks _ _ _ hP hD hS (lv_sub hl [0, 1, 2, 3, 4] rfl)
  · have hf := ifpP cx hf
    refine lv_aload_n hx hb d_Cu_readKey_6 rfl (lv_at hl 1 rfl) ?_
    refine lv_iload_n hx hb d_Cu_readKey_7 rfl (lv_at hl 2 rfl) ?_
    obtain ⟨n_, f_, hm_, hin_, hf⟩ := hf
    obtain ⟨ix_, hi_⟩ := m_ix hm_
    refine va_bald hx hb hK hP ix_ 0 hi_ rfl (inb_in hin_) d_Cu_readKey_8 ?_
    obtain ⟨v1, ev⟩ : ∃ z, z = f_ a2.toNatClampNeg := ⟨_, rfl⟩
    first | rw [← ev] at hf ⊢ | rw [← ev]
    clear ev hi_ hm_ hin_
    refine lv_iconst (v := 2) hx hb d_Cu_readKey_9 (by decide) ?_
    refine lv_icmp_eq (tgt := 20) hx hb d_Cu_readKey_10 (by decide) (fun cx => ?_) (fun cx => ?_)
    · have hf := ifpP cx hf
      exact wv_mCu_readKey_20 (fu := fu) F _ _ _ _ _ _ _ _ hf hkc hks _ _ _ hP hD hS (lv_sub hl [0, 1, 2, 3, 4] rfl)
    · have hf := ifnP cx hf
      refine lv_aload_n hx hb d_Cu_readKey_13 rfl (lv_at hl 1 rfl) ?_
      refine lv_iload_n hx hb d_Cu_readKey_14 rfl (lv_at hl 2 rfl) ?_
      obtain ⟨n_, f_, hm_, hin_, hf⟩ := hf
      obtain ⟨ix_, hi_⟩ := m_ix hm_
      refine va_bald hx hb hK hP ix_ 0 hi_ rfl (inb_in hin_) d_Cu_readKey_15 ?_
      obtain ⟨v2, ev⟩ : ∃ z, z = f_ a2.toNatClampNeg := ⟨_, rfl⟩
      first | rw [← ev] at hf ⊢ | rw [← ev]
      clear ev hi_ hm_ hin_
      refine lv_iconst (v := 3) hx hb d_Cu_readKey_16 (by decide) ?_
      refine lv_icmp_ne (tgt := 24) hx hb d_Cu_readKey_17 (by decide) (fun cx => ?_) (fun cx => ?_)
      · have hf := ifnP cx hf
        exact wv_mCu_readKey_24 (fu := fu) F _ _ _ _ _ _ _ _ hf hkc hks _ _ _ hP hD hS (lv_sub hl [0, 1, 2, 3, 4] rfl)
      · have hf := ifpP cx hf
        exact wv_mCu_readKey_20 (fu := fu) F _ _ _ _ _ _ _ _ hf hkc hks _ _ _ hP hD hS (lv_sub hl [0, 1, 2, 3, 4] rfl)
theorem cw_mCu_readKey (l : Launch) (D : va_G) (cy : Nat → ClassId) (ad : Nat → Nat) (mi fu MC MS : Nat) (a0 : Nat) (a1 : Nat) (a2 : Int32) (a3 : Int32) (a4 : Nat) (M : Mm) (Φ : Int32 → Mm → Prop) (hf : xw_mCu_readKey fu MC MS cy ad mi Φ 0 0 M a0 a1 a2 a3 a4) (sz : Nat) : Met l ({ cls := "CoinKeeper$Curve", name := "readKey", desc := "([BIILCoinKeeper$Point;)Z" } : Jvm.MethodName) (.code ({ cls := "CoinKeeper$Curve", name := "readKey", desc := "([BIILCoinKeeper$Point;)Z" } : Jvm.MethodName) b_Cu_readKey 8 (some .boolean) :: gw) (rmw_mCu_readKey MC MS) (va_Pc [.ref a0, .ref a1, .int a2, .int a3, .ref a4] (PrM D cy ad mi (mw M) sz)) (va_Qi Φ (fun u t => Po D cy (va_A (mw M) sz) (mw u) t) (va_A (mw M) sz)) MC MS (va_A (mw M) sz) :=
  q_metM (Qc := fun A => va_Qi Φ (fun u t => Po D cy A (mw u) t) A) (by decide) rfl rfl (Nat.le_of_ble_eq_true rfl) (fun p e s m below meth c ls F hP hD hS hl => wew_mCu_readKey (fu := fu) F 0 0 M a0 a1 a2 a3 a4 hf (Nat.zero_le _) (Nat.zero_le _) _ _ _ hP hD hS hl) sz
abbrev b_Si_divide : ByteArray := prog_12_method_6_code
theorem d_Si_divide_0 : decode b_Si_divide 0 = .ok (.aload_n 0, 1) := by decide +kernel
theorem d_Si_divide_1 : decode b_Si_divide 1 = .ok (.getfield 36, 3) := by decide +kernel
theorem d_Si_divide_4 : decode b_Si_divide 4 = .ok (.iconst 0, 1) := by decide +kernel
theorem d_Si_divide_5 : decode b_Si_divide 5 = .ok (.aaload, 1) := by decide +kernel
theorem d_Si_divide_6 : decode b_Si_divide 6 = .ok (.astore_n 3, 1) := by decide +kernel
theorem d_Si_divide_7 : decode b_Si_divide 7 = .ok (.aload_n 0, 1) := by decide +kernel
theorem d_Si_divide_8 : decode b_Si_divide 8 = .ok (.getfield 36, 3) := by decide +kernel
theorem d_Si_divide_11 : decode b_Si_divide 11 = .ok (.iconst 1, 1) := by decide +kernel
theorem d_Si_divide_12 : decode b_Si_divide 12 = .ok (.aaload, 1) := by decide +kernel
theorem d_Si_divide_13 : decode b_Si_divide 13 = .ok (.astore 4, 2) := by decide +kernel
theorem d_Si_divide_15 : decode b_Si_divide 15 = .ok (.aload_n 0, 1) := by decide +kernel
theorem d_Si_divide_16 : decode b_Si_divide 16 = .ok (.getfield 36, 3) := by decide +kernel
theorem d_Si_divide_19 : decode b_Si_divide 19 = .ok (.iconst 2, 1) := by decide +kernel
theorem d_Si_divide_20 : decode b_Si_divide 20 = .ok (.aaload, 1) := by decide +kernel
theorem d_Si_divide_21 : decode b_Si_divide 21 = .ok (.astore 5, 2) := by decide +kernel
theorem d_Si_divide_23 : decode b_Si_divide 23 = .ok (.aload_n 0, 1) := by decide +kernel
theorem d_Si_divide_24 : decode b_Si_divide 24 = .ok (.getfield 36, 3) := by decide +kernel
theorem d_Si_divide_27 : decode b_Si_divide 27 = .ok (.iconst 3, 1) := by decide +kernel
theorem d_Si_divide_28 : decode b_Si_divide 28 = .ok (.aaload, 1) := by decide +kernel
theorem d_Si_divide_29 : decode b_Si_divide 29 = .ok (.astore 6, 2) := by decide +kernel
theorem d_Si_divide_31 : decode b_Si_divide 31 = .ok (.iconst 0, 1) := by decide +kernel
theorem d_Si_divide_32 : decode b_Si_divide 32 = .ok (.istore 7, 2) := by decide +kernel
theorem d_Si_divide_34 : decode b_Si_divide 34 = .ok (.iload 7, 2) := by decide +kernel
theorem d_Si_divide_36 : decode b_Si_divide 36 = .ok (.iconst 5, 1) := by decide +kernel
theorem d_Si_divide_37 : decode b_Si_divide 37 = .ok (.if_icmp .ge 46, 3) := by decide +kernel
theorem d_Si_divide_40 : decode b_Si_divide 40 = .ok (.aload_n 3, 1) := by decide +kernel
theorem d_Si_divide_41 : decode b_Si_divide 41 = .ok (.iload 7, 2) := by decide +kernel
theorem d_Si_divide_43 : decode b_Si_divide 43 = .ok (.aload_n 0, 1) := by decide +kernel
theorem d_Si_divide_44 : decode b_Si_divide 44 = .ok (.getfield 22, 3) := by decide +kernel
theorem d_Si_divide_47 : decode b_Si_divide 47 = .ok (.iload 7, 2) := by decide +kernel
theorem d_Si_divide_49 : decode b_Si_divide 49 = .ok (.laload, 1) := by decide +kernel
theorem d_Si_divide_50 : decode b_Si_divide 50 = .ok (.lastore, 1) := by decide +kernel
theorem d_Si_divide_51 : decode b_Si_divide 51 = .ok (.aload 4, 2) := by decide +kernel
theorem d_Si_divide_53 : decode b_Si_divide 53 = .ok (.iload 7, 2) := by decide +kernel
theorem d_Si_divide_55 : decode b_Si_divide 55 = .ok (.getstatic 83, 3) := by decide +kernel
theorem d_Si_divide_58 : decode b_Si_divide 58 = .ok (.iload 7, 2) := by decide +kernel
theorem d_Si_divide_60 : decode b_Si_divide 60 = .ok (.laload, 1) := by decide +kernel
theorem d_Si_divide_61 : decode b_Si_divide 61 = .ok (.lastore, 1) := by decide +kernel
theorem d_Si_divide_62 : decode b_Si_divide 62 = .ok (.aload 5, 2) := by decide +kernel
theorem d_Si_divide_64 : decode b_Si_divide 64 = .ok (.iload 7, 2) := by decide +kernel
theorem d_Si_divide_66 : decode b_Si_divide 66 = .ok (.aload_n 1, 1) := by decide +kernel
theorem d_Si_divide_67 : decode b_Si_divide 67 = .ok (.iload 7, 2) := by decide +kernel
theorem d_Si_divide_69 : decode b_Si_divide 69 = .ok (.laload, 1) := by decide +kernel
theorem d_Si_divide_70 : decode b_Si_divide 70 = .ok (.lastore, 1) := by decide +kernel
theorem d_Si_divide_71 : decode b_Si_divide 71 = .ok (.aload 6, 2) := by decide +kernel
theorem d_Si_divide_73 : decode b_Si_divide 73 = .ok (.iload 7, 2) := by decide +kernel
theorem d_Si_divide_75 : decode b_Si_divide 75 = .ok (.lconst 0, 1) := by decide +kernel
theorem d_Si_divide_76 : decode b_Si_divide 76 = .ok (.lastore, 1) := by decide +kernel
theorem d_Si_divide_77 : decode b_Si_divide 77 = .ok (.iinc 7 1, 3) := by decide +kernel
theorem d_Si_divide_80 : decode b_Si_divide 80 = .ok (.goto (-46), 3) := by decide +kernel
theorem d_Si_divide_83 : decode b_Si_divide 83 = .ok (.iconst 0, 1) := by decide +kernel
theorem d_Si_divide_84 : decode b_Si_divide 84 = .ok (.istore 7, 2) := by decide +kernel
theorem d_Si_divide_86 : decode b_Si_divide 86 = .ok (.iload 7, 2) := by decide +kernel
theorem d_Si_divide_88 : decode b_Si_divide 88 = .ok (.sipush 1100, 3) := by decide +kernel
theorem d_Si_divide_91 : decode b_Si_divide 91 = .ok (.if_icmp .ge 82, 3) := by decide +kernel
theorem d_Si_divide_94 : decode b_Si_divide 94 = .ok (.aload_n 3, 1) := by decide +kernel
theorem d_Si_divide_95 : decode b_Si_divide 95 = .ok (.invokestatic 111, 3) := by decide +kernel
theorem d_Si_divide_98 : decode b_Si_divide 98 = .ok (.ifCond .ne 75, 3) := by decide +kernel
theorem d_Si_divide_101 : decode b_Si_divide 101 = .ok (.aload_n 3, 1) := by decide +kernel
theorem d_Si_divide_102 : decode b_Si_divide 102 = .ok (.iconst 0, 1) := by decide +kernel
theorem d_Si_divide_103 : decode b_Si_divide 103 = .ok (.laload, 1) := by decide +kernel
theorem d_Si_divide_104 : decode b_Si_divide 104 = .ok (.lconst 1, 1) := by decide +kernel
theorem d_Si_divide_105 : decode b_Si_divide 105 = .ok (.land, 1) := by decide +kernel
theorem d_Si_divide_106 : decode b_Si_divide 106 = .ok (.lconst 0, 1) := by decide +kernel
theorem d_Si_divide_107 : decode b_Si_divide 107 = .ok (.lcmp, 1) := by decide +kernel
theorem d_Si_divide_108 : decode b_Si_divide 108 = .ok (.ifCond .ne 15, 3) := by decide +kernel
theorem d_Si_divide_111 : decode b_Si_divide 111 = .ok (.aload_n 3, 1) := by decide +kernel
theorem d_Si_divide_112 : decode b_Si_divide 112 = .ok (.invokestatic 115, 3) := by decide +kernel
theorem d_Si_divide_115 : decode b_Si_divide 115 = .ok (.aload 5, 2) := by decide +kernel
theorem d_Si_divide_117 : decode b_Si_divide 117 = .ok (.invokestatic 119, 3) := by decide +kernel
theorem d_Si_divide_120 : decode b_Si_divide 120 = .ok (.goto 47, 3) := by decide +kernel
theorem d_Si_divide_123 : decode b_Si_divide 123 = .ok (.aload_n 3, 1) := by decide +kernel
theorem d_Si_divide_124 : decode b_Si_divide 124 = .ok (.aload 4, 2) := by decide +kernel
theorem d_Si_divide_126 : decode b_Si_divide 126 = .ok (.invokestatic 86, 3) := by decide +kernel
theorem d_Si_divide_129 : decode b_Si_divide 129 = .ok (.ifCond .ge 25, 3) := by decide +kernel
theorem d_Si_divide_132 : decode b_Si_divide 132 = .ok (.aload_n 3, 1) := by decide +kernel
theorem d_Si_divide_133 : decode b_Si_divide 133 = .ok (.astore 8, 2) := by decide +kernel
theorem d_Si_divide_135 : decode b_Si_divide 135 = .ok (.aload 4, 2) := by decide +kernel
theorem d_Si_divide_137 : decode b_Si_divide 137 = .ok (.astore_n 3, 1) := by decide +kernel
theorem d_Si_divide_138 : decode b_Si_divide 138 = .ok (.aload 8, 2) := by decide +kernel
theorem d_Si_divide_140 : decode b_Si_divide 140 = .ok (.astore 4, 2) := by decide +kernel
theorem d_Si_divide_142 : decode b_Si_divide 142 = .ok (.aload 5, 2) := by decide +kernel
theorem d_Si_divide_144 : decode b_Si_divide 144 = .ok (.astore 8, 2) := by decide +kernel
theorem d_Si_divide_146 : decode b_Si_divide 146 = .ok (.aload 6, 2) := by decide +kernel
theorem d_Si_divide_148 : decode b_Si_divide 148 = .ok (.astore 5, 2) := by decide +kernel
theorem d_Si_divide_150 : decode b_Si_divide 150 = .ok (.aload 8, 2) := by decide +kernel
theorem d_Si_divide_152 : decode b_Si_divide 152 = .ok (.astore 6, 2) := by decide +kernel
theorem d_Si_divide_154 : decode b_Si_divide 154 = .ok (.aload_n 3, 1) := by decide +kernel
theorem d_Si_divide_155 : decode b_Si_divide 155 = .ok (.aload 4, 2) := by decide +kernel
theorem d_Si_divide_157 : decode b_Si_divide 157 = .ok (.invokestatic 90, 3) := by decide +kernel
theorem d_Si_divide_160 : decode b_Si_divide 160 = .ok (.aload 5, 2) := by decide +kernel
theorem d_Si_divide_162 : decode b_Si_divide 162 = .ok (.aload 6, 2) := by decide +kernel
theorem d_Si_divide_164 : decode b_Si_divide 164 = .ok (.invokestatic 122, 3) := by decide +kernel
theorem d_Si_divide_167 : decode b_Si_divide 167 = .ok (.iinc 7 1, 3) := by decide +kernel
theorem d_Si_divide_170 : decode b_Si_divide 170 = .ok (.goto (-84), 3) := by decide +kernel
theorem d_Si_divide_173 : decode b_Si_divide 173 = .ok (.aload 6, 2) := by decide +kernel
theorem d_Si_divide_175 : decode b_Si_divide 175 = .ok (.iconst 0, 1) := by decide +kernel
theorem d_Si_divide_176 : decode b_Si_divide 176 = .ok (.aload_n 2, 1) := by decide +kernel
theorem d_Si_divide_177 : decode b_Si_divide 177 = .ok (.iconst 0, 1) := by decide +kernel
theorem d_Si_divide_178 : decode b_Si_divide 178 = .ok (.iconst 5, 1) := by decide +kernel
theorem d_Si_divide_179 : decode b_Si_divide 179 = .ok (.invokestatic 125, 3) := by decide +kernel
theorem d_Si_divide_182 : decode b_Si_divide 182 = .ok (.return_, 1) := by decide +kernel
abbrev rmw_mSi_divide (MC MS : Nat) : Room := { frames := 2, cells := MC, slots := MS, locals := 45 }
def Iw_mSi_divide_173 (p : Program) (l : Launch) (e : Env) (s : State) (m : MethodId) (args : Array Value) (below : List Frame) (meth : Method) (c : Code) (D : va_G) (cy : Nat → ClassId) (A : Nat → Prop) (ad : Nat → Nat) (mi MC MS : Nat) (Φ : Mm → Prop) (k : Nat → Nat → Mm → Nat → Nat → Prop) : Prop :=
  ∀ (κ σ : Nat) (M : Mm) (x2 : Nat) (x6 : Nat), k κ σ M x2 x6 → κ ≤ MC → σ ≤ MS → ∀ (H : Heap) (locs : List Loc) (ls : Array Slot), va_P D classes (mw M) H → va_D A (mw M) → va_S A s.heap H locs → lv_has ls 9 [(2, .ref x2), (6, .ref x6)] → W p l e (rmw_mSi_divide MC MS) s m args below meth c H locs κ σ (MQ below (va_Qv Φ (fun u t => Po D cy A (mw u) t) A) args s MC MS A) (F0 m 173 ls [])
def Iw_mSi_divide_167 (p : Program) (l : Launch) (e : Env) (s : State) (m : MethodId) (args : Array Value) (below : List Frame) (meth : Method) (c : Code) (D : va_G) (cy : Nat → ClassId) (A : Nat → Prop) (ad : Nat → Nat) (mi MC MS : Nat) (Φ : Mm → Prop) (k : Nat → Nat → Mm → Nat → Nat → Nat → Nat → Nat → Int32 → Prop) : Prop :=
  ∀ (κ σ : Nat) (M : Mm) (x2 : Nat) (x3 : Nat) (x4 : Nat) (x5 : Nat) (x6 : Nat) (x7 : Int32), k κ σ M x2 x3 x4 x5 x6 x7 → κ ≤ MC → σ ≤ MS → ∀ (H : Heap) (locs : List Loc) (ls : Array Slot), va_P D classes (mw M) H → va_D A (mw M) → va_S A s.heap H locs → lv_has ls 9 [(2, .ref x2), (3, .ref x3), (4, .ref x4), (5, .ref x5), (6, .ref x6), (7, .int x7)] → W p l e (rmw_mSi_divide MC MS) s m args below meth c H locs κ σ (MQ below (va_Qv Φ (fun u t => Po D cy A (mw u) t) A) args s MC MS A) (F0 m 167 ls [])
def Iw_mSi_divide_154 (p : Program) (l : Launch) (e : Env) (s : State) (m : MethodId) (args : Array Value) (below : List Frame) (meth : Method) (c : Code) (D : va_G) (cy : Nat → ClassId) (A : Nat → Prop) (ad : Nat → Nat) (mi MC MS : Nat) (Φ : Mm → Prop) (k : Nat → Nat → Mm → Nat → Nat → Nat → Nat → Nat → Int32 → Prop) : Prop :=
  ∀ (κ σ : Nat) (M : Mm) (x2 : Nat) (x3 : Nat) (x4 : Nat) (x5 : Nat) (x6 : Nat) (x7 : Int32), k κ σ M x2 x3 x4 x5 x6 x7 → κ ≤ MC → σ ≤ MS → ∀ (H : Heap) (locs : List Loc) (ls : Array Slot), va_P D classes (mw M) H → va_D A (mw M) → va_S A s.heap H locs → lv_has ls 9 [(2, .ref x2), (3, .ref x3), (4, .ref x4), (5, .ref x5), (6, .ref x6), (7, .int x7)] → W p l e (rmw_mSi_divide MC MS) s m args below meth c H locs κ σ (MQ below (va_Qv Φ (fun u t => Po D cy A (mw u) t) A) args s MC MS A) (F0 m 154 ls [])
def Iw_mSi_divide_86 (p : Program) (l : Launch) (e : Env) (s : State) (m : MethodId) (args : Array Value) (below : List Frame) (meth : Method) (c : Code) (D : va_G) (cy : Nat → ClassId) (A : Nat → Prop) (ad : Nat → Nat) (mi MC MS : Nat) (Φ : Mm → Prop) (k : Nat → Nat → Mm → Nat → Nat → Nat → Nat → Nat → Int32 → Prop) : Prop :=
  ∀ (κ σ : Nat) (M : Mm) (x2 : Nat) (x3 : Nat) (x4 : Nat) (x5 : Nat) (x6 : Nat) (x7 : Int32), k κ σ M x2 x3 x4 x5 x6 x7 → κ ≤ MC → σ ≤ MS → ∀ (H : Heap) (locs : List Loc) (ls : Array Slot), va_P D classes (mw M) H → va_D A (mw M) → va_S A s.heap H locs → lv_has ls 9 [(2, .ref x2), (3, .ref x3), (4, .ref x4), (5, .ref x5), (6, .ref x6), (7, .int x7)] → W p l e (rmw_mSi_divide MC MS) s m args below meth c H locs κ σ (MQ below (va_Qv Φ (fun u t => Po D cy A (mw u) t) A) args s MC MS A) (F0 m 86 ls [])
def Iw_mSi_divide_34 (p : Program) (l : Launch) (e : Env) (s : State) (m : MethodId) (args : Array Value) (below : List Frame) (meth : Method) (c : Code) (D : va_G) (cy : Nat → ClassId) (A : Nat → Prop) (ad : Nat → Nat) (mi MC MS : Nat) (Φ : Mm → Prop) (k : Nat → Nat → Mm → Nat → Nat → Nat → Nat → Nat → Nat → Nat → Int32 → Prop) : Prop :=
  ∀ (κ σ : Nat) (M : Mm) (x0 : Nat) (x1 : Nat) (x2 : Nat) (x3 : Nat) (x4 : Nat) (x5 : Nat) (x6 : Nat) (x7 : Int32), k κ σ M x0 x1 x2 x3 x4 x5 x6 x7 → κ ≤ MC → σ ≤ MS → ∀ (H : Heap) (locs : List Loc) (ls : Array Slot), va_P D classes (mw M) H → va_D A (mw M) → va_S A s.heap H locs → lv_has ls 9 [(0, .ref x0), (1, .ref x1), (2, .ref x2), (3, .ref x3), (4, .ref x4), (5, .ref x5), (6, .ref x6), (7, .int x7)] → W p l e (rmw_mSi_divide MC MS) s m args below meth c H locs κ σ (MQ below (va_Qv Φ (fun u t => Po D cy A (mw u) t) A) args s MC MS A) (F0 m 34 ls [])
def Iw_mSi_divide_e (p : Program) (l : Launch) (e : Env) (s : State) (m : MethodId) (args : Array Value) (below : List Frame) (meth : Method) (c : Code) (D : va_G) (cy : Nat → ClassId) (A : Nat → Prop) (ad : Nat → Nat) (mi MC MS : Nat) (Φ : Mm → Prop) (k : Nat → Nat → Mm → Nat → Nat → Nat → Prop) : Prop :=
  ∀ (κ σ : Nat) (M : Mm) (a0 : Nat) (a1 : Nat) (a2 : Nat), k κ σ M a0 a1 a2 → κ ≤ MC → σ ≤ MS → ∀ (H : Heap) (locs : List Loc) (ls : Array Slot), va_P D classes (mw M) H → va_D A (mw M) → va_S A s.heap H locs → lv_has ls 9 [(0, .ref a0), (1, .ref a1), (2, .ref a2)] → W p l e (rmw_mSi_divide MC MS) s m args below meth c H locs κ σ (MQ below (va_Qv Φ (fun u t => Po D cy A (mw u) t) A) args s MC MS A) (F0 m 0 ls [])
set_option maxHeartbeats 8000000 in
set_option maxRecDepth 100000 in
theorem wv_mSi_divide_173 {p : Program} {l : Launch} {e : Env} {s : State} {m : MethodId} {args : Array Value} {below : List Frame} {meth : Method} {c : Code} {D : va_G} {cy : Nat → ClassId} {A : Nat → Prop} {ad : Nat → Nat} {mi MC MS : Nat} {Φ : Mm → Prop} {fu : Nat} (F : FxM p s m args meth c b_Si_divide 9 "CoinKeeper$Signatures" "divide" none D cy ad mi A) : Iw_mSi_divide_173 p l e s m args below meth c D cy A ad mi MC MS Φ (xv_mSi_divide_173 fu MC MS cy ad mi Φ) := by
  obtain ⟨⟨hx, hb, hr, hml, hown, hts, hlocks, hK, hA, hSt, hnm, hex⟩, hT, hMi⟩ := id F
  intro κ σ M x2 x6 hf hkc hks H locs ls hP hD hS hl
  unfold xv_mSi_divide_173 at hf
  refine lv_aload hx hb d_Si_divide_173 (lv_at hl 1 rfl) ?_
  refine lv_iconst (v := 0) hx hb d_Si_divide_175 (by decide) ?_
  refine lv_aload_n hx hb d_Si_divide_176 rfl (lv_at hl 0 rfl) ?_
  refine lv_iconst (v := 0) hx hb d_Si_divide_177 (by decide) ?_
  refine lv_iconst (v := 5) hx hb d_Si_divide_178 (by decide) ?_
  obtain ⟨n0_, f0_, n1_, f1_, hs_, hm_, hcp_, hf⟩ := hf
  obtain ⟨jx_, hj_⟩ := m_ix hs_
  obtain ⟨ix_, hi_⟩ := m_ix hm_
  have hE_ := m_set (y := .inl (cy 2, n1_, .inr (.inl (va_cpy f0_ f1_ (0 : Int32).toNatClampNeg (0 : Int32).toNatClampNeg (5 : Int32).toNatClampNeg)))) hD hi_
  refine va_copyl (R := rmw_mSi_divide MC MS) (rest := []) hx hb (hml.trans hl.1.symm) hown (hts _ gw_1126) (hts _ gw_497) (hts _ gw_496) (hts _ gw_17) hK hP hD hS jx_ ix_ 2 2 hj_ hi_ rfl rfl rfl (cpk_p hcp_).1 (cpk_p hcp_).2.1 (cpk_p hcp_).2.2.1 (cpk_p hcp_).2.2.2.1 (cpk_p hcp_).2.2.2.2 (fun _ _ => rfl) (Nat.le_of_ble_eq_true rfl) (Nat.le_of_ble_eq_true rfl) d_Si_divide_179 (fun H locs hP hD hS => ?_)
  obtain ⟨M1, eM_⟩ : ∃ z, z = mu M x2 (.inl (cy 2, n1_, .inr (.inl (va_cpy f0_ f1_ (0 : Int32).toNatClampNeg (0 : Int32).toNatClampNeg (5 : Int32).toNatClampNeg)))) := ⟨_, rfl⟩
  rw [← eM_] at hf hE_
  rw [hE_] at hP hD
  clear hE_ eM_ hi_ hm_
  clear hj_ hs_ hcp_
  refine W.widen (k := MC) (n := MS) hkc hks ?_
  exact m_rv hf hx hb hr hlocks hK hP hD hS d_Si_divide_182
set_option maxHeartbeats 8000000 in
set_option maxRecDepth 100000 in
theorem wv_mSi_divide_167 {p : Program} {l : Launch} {e : Env} {s : State} {m : MethodId} {args : Array Value} {below : List Frame} {meth : Method} {c : Code} {D : va_G} {cy : Nat → ClassId} {A : Nat → Prop} {ad : Nat → Nat} {mi MC MS : Nat} {Φ : Mm → Prop} {fu : Nat} {k_86 : Nat → Nat → Mm → Nat → Nat → Nat → Nat → Nat → Int32 → Prop} (F : FxM p s m args meth c b_Si_divide 9 "CoinKeeper$Signatures" "divide" none D cy ad mi A) (hk_86 : Iw_mSi_divide_86 p l e s m args below meth c D cy A ad mi MC MS Φ k_86) : Iw_mSi_divide_167 p l e s m args below meth c D cy A ad mi MC MS Φ (xv_mSi_divide_167 fu MC MS cy ad mi Φ k_86) := by
  obtain ⟨⟨hx, hb, hr, hml, hown, hts, hlocks, hK, hA, hSt, hnm, hex⟩, hT, hMi⟩ := id F
  intro κ σ M x2 x3 x4 x5 x6 x7 hf hkc hks H locs ls hP hD hS hl
  unfold xv_mSi_divide_167 at hf
  obtain ⟨v1, ev, hf⟩ := bnP hf
  refine lv_iinc (v := v1) (lv' := [(7, .int v1), (2, .ref x2), (3, .ref x3), (4, .ref x4), (5, .ref x5), (6, .ref x6)]) hx hb d_Si_divide_167 hl (k := 5) rfl (by rw [ev]; rfl) (by decide) rfl (fun ls hl => ?_)
  clear ev
  refine lv_goto (tgt := 86) hx hb d_Si_divide_170 (by decide) ?_
  exact hk_86 _ _ _ _ _ _ _ _ _ hf hkc hks _ _ _ hP hD hS (lv_sub hl [1, 2, 3, 4, 5, 0] rfl)
theorem hds_56 : ({ cls := "CoinKeeper$Scalar", name := "subtract", desc := "([J[J)V" } : Jvm.MethodName).cls ≠ "java/lang/invoke/MethodHandle" ∧ ({ cls := "CoinKeeper$Scalar", name := "subtract", desc := "([J[J)V" } : Jvm.MethodName).cls ≠ "java/lang/invoke/VarHandle" ∧ (parseMethodDescriptor ({ cls := "CoinKeeper$Scalar", name := "subtract", desc := "([J[J)V" } : Jvm.MethodName).desc).map (fun d => d.parameters.length) = some 2 := by decide +kernel
theorem hds_57 : ({ cls := "CoinKeeper$Scalar", name := "subtractModulo", desc := "([J[J)V" } : Jvm.MethodName).cls ≠ "java/lang/invoke/MethodHandle" ∧ ({ cls := "CoinKeeper$Scalar", name := "subtractModulo", desc := "([J[J)V" } : Jvm.MethodName).cls ≠ "java/lang/invoke/VarHandle" ∧ (parseMethodDescriptor ({ cls := "CoinKeeper$Scalar", name := "subtractModulo", desc := "([J[J)V" } : Jvm.MethodName).desc).map (fun d => d.parameters.length) = some 2 := by decide +kernel
set_option maxHeartbeats 8000000 in
set_option maxRecDepth 100000 in
theorem wv_mSi_divide_154 {p : Program} {l : Launch} {e : Env} {s : State} {m : MethodId} {args : Array Value} {below : List Frame} {meth : Method} {c : Code} {D : va_G} {cy : Nat → ClassId} {A : Nat → Prop} {ad : Nat → Nat} {mi MC MS : Nat} {Φ : Mm → Prop} {fu : Nat} {k_86 : Nat → Nat → Mm → Nat → Nat → Nat → Nat → Nat → Int32 → Prop} (F : FxM p s m args meth c b_Si_divide 9 "CoinKeeper$Signatures" "divide" none D cy ad mi A) (hk_86 : Iw_mSi_divide_86 p l e s m args below meth c D cy A ad mi MC MS Φ k_86) : Iw_mSi_divide_154 p l e s m args below meth c D cy A ad mi MC MS Φ (xv_mSi_divide_154 fu MC MS cy ad mi Φ k_86) := by
  obtain ⟨⟨hx, hb, hr, hml, hown, hts, hlocks, hK, hA, hSt, hnm, hex⟩, hT, hMi⟩ := id F
  intro κ σ M x2 x3 x4 x5 x6 x7 hf hkc hks H locs ls hP hD hS hl
  unfold xv_mSi_divide_154 at hf
  refine lv_aload_n hx hb d_Si_divide_154 rfl (lv_at hl 1 rfl) ?_
  refine lv_aload hx hb d_Si_divide_155 (lv_at hl 2 rfl) ?_
  obtain ⟨c1, c2, hal_, hnd_, c3, hc, hf⟩ := hf
  refine m_lv (va_runS (As := [.ref x3, .ref x4]) (rest := []) ⟨hx, hb, hml, hown, hts⟩ (c_Sc_subtract l D cy ad fu x3 x4 c1 c2 _ hc H.size) ⟨q_cB hts gw_1106 gw_28 gw_1104 hds_56 ⟨Nat.le_of_ble_eq_true rfl, Nat.le_of_ble_eq_true rfl⟩, hts _ gw_1105⟩ (q_pre (m_subP hP hal_) (m_subD hD hal_ hnd_) hK hSt hS (m_lF hD hS hA hal_) _) rfl rfl hl.1 rfl (lv_room (Nat.le_of_ble_eq_true rfl)) d_Si_divide_157 ⟨hkc, hks⟩) hP hD hS hA hal_ rfl (fun H locs hP hD hS => ?_)
  refine W.widen (k := κ) (n := σ) (Nat.le_refl _) (Nat.le_refl _) ?_
  obtain ⟨M4, eM_, hf⟩ := bnP hf
  have hP : va_P D classes (mw M4) H := by rw [eM_]; exact hP
  have hD : va_D A (mw M4) := by rw [eM_]; exact hD
  clear eM_ hal_ hnd_ hc
  refine lv_aload hx hb d_Si_divide_160 (lv_at hl 3 rfl) ?_
  refine lv_aload hx hb d_Si_divide_162 (lv_at hl 4 rfl) ?_
  obtain ⟨c5, c6, hal_, hnd_, c7, hc, hf⟩ := hf
  refine m_lv (va_runS (As := [.ref x5, .ref x6]) (rest := []) ⟨hx, hb, hml, hown, hts⟩ (c_Sc_subtractModulo l D cy ad fu x5 x6 c5 c6 _ hc H.size) ⟨q_cB hts gw_1124 gw_28 gw_1122 hds_57 ⟨Nat.le_of_ble_eq_true rfl, Nat.le_of_ble_eq_true rfl⟩, hts _ gw_1123⟩ (q_pre (m_subP hP hal_) (m_subD hD hal_ hnd_) hK hSt hS (m_lF hD hS hA hal_) _) rfl rfl hl.1 rfl (lv_room (Nat.le_of_ble_eq_true rfl)) d_Si_divide_164 ⟨hkc, hks⟩) hP hD hS hA hal_ rfl (fun H locs hP hD hS => ?_)
  refine W.widen (k := κ) (n := σ) (Nat.le_refl _) (Nat.le_refl _) ?_
  obtain ⟨M8, eM_, hf⟩ := bnP hf
  have hP : va_P D classes (mw M8) H := by rw [eM_]; exact hP
  have hD : va_D A (mw M8) := by rw [eM_]; exact hD
  clear eM_ hal_ hnd_ hc
  exact wv_mSi_divide_167 (fu := fu) F hk_86 _ _ _ _ _ _ _ _ _ hf hkc hks _ _ _ hP hD hS (lv_sub hl [0, 1, 2, 3, 4, 5] rfl)
theorem hds_58 : ({ cls := "CoinKeeper$Scalar", name := "isZero", desc := "([J)Z" } : Jvm.MethodName).cls ≠ "java/lang/invoke/MethodHandle" ∧ ({ cls := "CoinKeeper$Scalar", name := "isZero", desc := "([J)Z" } : Jvm.MethodName).cls ≠ "java/lang/invoke/VarHandle" ∧ (parseMethodDescriptor ({ cls := "CoinKeeper$Scalar", name := "isZero", desc := "([J)Z" } : Jvm.MethodName).desc).map (fun d => d.parameters.length) = some 1 := by decide +kernel
theorem hds_59 : ({ cls := "CoinKeeper$Scalar", name := "compare", desc := "([J[J)I" } : Jvm.MethodName).cls ≠ "java/lang/invoke/MethodHandle" ∧ ({ cls := "CoinKeeper$Scalar", name := "compare", desc := "([J[J)I" } : Jvm.MethodName).cls ≠ "java/lang/invoke/VarHandle" ∧ (parseMethodDescriptor ({ cls := "CoinKeeper$Scalar", name := "compare", desc := "([J[J)I" } : Jvm.MethodName).desc).map (fun d => d.parameters.length) = some 2 := by decide +kernel
theorem hds_60 : ({ cls := "CoinKeeper$Scalar", name := "halve", desc := "([J)V" } : Jvm.MethodName).cls ≠ "java/lang/invoke/MethodHandle" ∧ ({ cls := "CoinKeeper$Scalar", name := "halve", desc := "([J)V" } : Jvm.MethodName).cls ≠ "java/lang/invoke/VarHandle" ∧ (parseMethodDescriptor ({ cls := "CoinKeeper$Scalar", name := "halve", desc := "([J)V" } : Jvm.MethodName).desc).map (fun d => d.parameters.length) = some 1 := by decide +kernel
theorem hds_61 : ({ cls := "CoinKeeper$Scalar", name := "halveModulo", desc := "([J)V" } : Jvm.MethodName).cls ≠ "java/lang/invoke/MethodHandle" ∧ ({ cls := "CoinKeeper$Scalar", name := "halveModulo", desc := "([J)V" } : Jvm.MethodName).cls ≠ "java/lang/invoke/VarHandle" ∧ (parseMethodDescriptor ({ cls := "CoinKeeper$Scalar", name := "halveModulo", desc := "([J)V" } : Jvm.MethodName).desc).map (fun d => d.parameters.length) = some 1 := by decide +kernel
set_option maxHeartbeats 8000000 in
set_option maxRecDepth 100000 in
theorem wv_mSi_divide_86 {p : Program} {l : Launch} {e : Env} {s : State} {m : MethodId} {args : Array Value} {below : List Frame} {meth : Method} {c : Code} {D : va_G} {cy : Nat → ClassId} {A : Nat → Prop} {ad : Nat → Nat} {mi MC MS : Nat} {Φ : Mm → Prop} {fu : Nat} {k_86 : Nat → Nat → Mm → Nat → Nat → Nat → Nat → Nat → Int32 → Prop} (F : FxM p s m args meth c b_Si_divide 9 "CoinKeeper$Signatures" "divide" none D cy ad mi A) (hk_86 : Iw_mSi_divide_86 p l e s m args below meth c D cy A ad mi MC MS Φ k_86) : Iw_mSi_divide_86 p l e s m args below meth c D cy A ad mi MC MS Φ (xv_mSi_divide_86 fu MC MS cy ad mi Φ k_86) := by
  obtain ⟨⟨hx, hb, hr, hml, hown, hts, hlocks, hK, hA, hSt, hnm, hex⟩, hT, hMi⟩ := id F
  intro κ σ M x2 x3 x4 x5 x6 x7 hf hkc hks H locs ls hP hD hS hl
  unfold xv_mSi_divide_86 at hf
  refine lv_iload hx hb d_Si_divide_86 (lv_at hl 5 rfl) ?_
  refine lv_sipush (v := 1100) hx hb d_Si_divide_88 (by decide) ?_
  refine lv_icmp_ge (tgt := 173) hx hb d_Si_divide_91 (by decide) (fun cx => ?_) (fun cx => ?_)
  · have hf := ifpP cx hf
    exact wv_mSi_divide_173 (fu := fu) F _ _ _ _ _ hf hkc hks _ _ _ hP hD hS (lv_sub hl [0, 4] rfl)
  · have hf := ifnP cx hf
    refine lv_aload_n hx hb d_Si_divide_94 rfl (lv_at hl 1 rfl) ?_
    obtain ⟨c1, hal_, hnd_, v2, hc, hf⟩ := hf
    refine m_li (va_runS (As := [.ref x3]) (rest := []) ⟨hx, hb, hml, hown, hts⟩ (c_Sc_isZero l D cy ad fu x3 c1 _ hc H.size) ⟨q_cB hts gw_1054 gw_28 gw_1052 hds_58 ⟨Nat.le_of_ble_eq_true rfl, Nat.le_of_ble_eq_true rfl⟩, hts _ gw_1053⟩ (q_pre (m_subP hP hal_) (m_subD hD hal_ hnd_) hK hSt hS (m_lF hD hS hA hal_) _) rfl rfl hl.1 rfl (lv_room (Nat.le_of_ble_eq_true rfl)) d_Si_divide_95 ⟨hkc, hks⟩) hP hD hS hA hal_ rfl (fun H locs hP hD hS => ?_)
    refine W.widen (k := κ) (n := σ) (Nat.le_refl _) (Nat.le_refl _) ?_
    obtain ⟨M3, eM_, hf⟩ := bnP hf
    have hP : va_P D classes (mw M3) H := by rw [eM_]; exact hP
    have hD : va_D A (mw M3) := by rw [eM_]; exact hD
    clear eM_ hal_ hnd_ hc
    refine lv_if_ne (tgt := 173) hx hb d_Si_divide_98 (by decide) (fun cx => ?_) (fun cx => ?_)
    · have hf := ifnP cx hf
      exact wv_mSi_divide_173 (fu := fu) F _ _ _ _ _ hf hkc hks _ _ _ hP hD hS (lv_sub hl [0, 4] rfl)
    · have hf := ifpP cx hf
      refine lv_aload_n hx hb d_Si_divide_101 rfl (lv_at hl 1 rfl) ?_
      refine lv_iconst (v := 0) hx hb d_Si_divide_102 (by decide) ?_
      obtain ⟨n_, f_, hm_, hin_, hf⟩ := hf
      obtain ⟨ix_, hi_⟩ := m_ix hm_
      refine va_lald hx hb hK hP ix_ 2 hi_ rfl (inb_in hin_) d_Si_divide_103 ?_
      obtain ⟨v4, ev⟩ : ∃ z, z = f_ (0 : Int32).toNatClampNeg := ⟨_, rfl⟩
      first | rw [← ev] at hf ⊢ | rw [← ev]
      clear ev hi_ hm_ hin_
      refine lv_lconst (v := 1) hx hb d_Si_divide_104 (by decide) ?_
      refine lv_land hx hb d_Si_divide_105 ?_
      refine lv_topl (fun v5 ev => ?_)
      have hf := bnQ ev hf
      clear ev
      refine lv_lconst (v := 0) hx hb d_Si_divide_106 (by decide) ?_
      refine W.lcmp hx hb d_Si_divide_107 ?_
      refine lv_if_ne (tgt := 123) hx hb d_Si_divide_108 (by decide) (fun cx => ?_) (fun cx => ?_)
      · have hf := ifnP cx hf
        refine lv_aload_n hx hb d_Si_divide_123 rfl (lv_at hl 1 rfl) ?_
        refine lv_aload hx hb d_Si_divide_124 (lv_at hl 2 rfl) ?_
        obtain ⟨c6, c7, hal_, hnd_, v8, hc, hf⟩ := hf
        refine m_li (va_runS (As := [.ref x3, .ref x4]) (rest := []) ⟨hx, hb, hml, hown, hts⟩ (c_Sc_compare l D cy ad fu x3 x4 c6 c7 _ hc H.size) ⟨q_cB hts gw_1059 gw_28 gw_1057 hds_59 ⟨Nat.le_of_ble_eq_true rfl, Nat.le_of_ble_eq_true rfl⟩, hts _ gw_1058⟩ (q_pre (m_subP hP hal_) (m_subD hD hal_ hnd_) hK hSt hS (m_lF hD hS hA hal_) _) rfl rfl hl.1 rfl (lv_room (Nat.le_of_ble_eq_true rfl)) d_Si_divide_126 ⟨hkc, hks⟩) hP hD hS hA hal_ rfl (fun H locs hP hD hS => ?_)
        refine W.widen (k := κ) (n := σ) (Nat.le_refl _) (Nat.le_refl _) ?_
        obtain ⟨M9, eM_, hf⟩ := bnP hf
        have hP : va_P D classes (mw M9) H := by rw [eM_]; exact hP
        have hD : va_D A (mw M9) := by rw [eM_]; exact hD
        clear eM_ hal_ hnd_ hc
        refine lv_if_ge (tgt := 154) hx hb d_Si_divide_129 (by decide) (fun cx => ?_) (fun cx => ?_)
        · have hf := ifpP cx hf
          exact wv_mSi_divide_154 (fu := fu) F hk_86 _ _ _ _ _ _ _ _ _ hf hkc hks _ _ _ hP hD hS (lv_sub hl [0, 1, 2, 3, 4, 5] rfl)
        · have hf := ifnP cx hf
          refine lv_aload_n hx hb d_Si_divide_132 rfl (lv_at hl 1 rfl) ?_
          refine lv_astore (lv' := [(8, .ref x3), (2, .ref x2), (3, .ref x3), (4, .ref x4), (5, .ref x5), (6, .ref x6), (7, .int x7)]) hx hb d_Si_divide_133 hl (by decide) rfl (fun ls hl => ?_)
          refine lv_aload hx hb d_Si_divide_135 (lv_at hl 3 rfl) ?_
          refine lv_astore_n (lv' := [(3, .ref x4), (8, .ref x3), (2, .ref x2), (4, .ref x4), (5, .ref x5), (6, .ref x6), (7, .int x7)]) hx hb d_Si_divide_137 rfl hl (by decide) rfl (fun ls hl => ?_)
          refine lv_aload hx hb d_Si_divide_138 (lv_at hl 1 rfl) ?_
          refine lv_astore (lv' := [(4, .ref x3), (3, .ref x4), (8, .ref x3), (2, .ref x2), (5, .ref x5), (6, .ref x6), (7, .int x7)]) hx hb d_Si_divide_140 hl (by decide) rfl (fun ls hl => ?_)
          refine lv_aload hx hb d_Si_divide_142 (lv_at hl 4 rfl) ?_
          refine lv_astore (lv' := [(8, .ref x5), (4, .ref x3), (3, .ref x4), (2, .ref x2), (5, .ref x5), (6, .ref x6), (7, .int x7)]) hx hb d_Si_divide_144 hl (by decide) rfl (fun ls hl => ?_)
          refine lv_aload hx hb d_Si_divide_146 (lv_at hl 5 rfl) ?_
          refine lv_astore (lv' := [(5, .ref x6), (8, .ref x5), (4, .ref x3), (3, .ref x4), (2, .ref x2), (6, .ref x6), (7, .int x7)]) hx hb d_Si_divide_148 hl (by decide) rfl (fun ls hl => ?_)
          refine lv_aload hx hb d_Si_divide_150 (lv_at hl 1 rfl) ?_
          refine lv_astore (lv' := [(6, .ref x5), (5, .ref x6), (8, .ref x5), (4, .ref x3), (3, .ref x4), (2, .ref x2), (7, .int x7)]) hx hb d_Si_divide_152 hl (by decide) rfl (fun ls hl => ?_)
          exact wv_mSi_divide_154 (fu := fu) F hk_86 _ _ _ _ _ _ _ _ _ hf hkc hks _ _ _ hP hD hS (lv_sub hl [5, 4, 3, 1, 0, 6] rfl)
      · have hf := ifpP cx hf
        refine lv_aload_n hx hb d_Si_divide_111 rfl (lv_at hl 1 rfl) ?_
        obtain ⟨c10, hal_, hnd_, c11, hc, hf⟩ := hf
        refine m_lv (va_runS (As := [.ref x3]) (rest := []) ⟨hx, hb, hml, hown, hts⟩ (c_Sc_halve l D cy ad fu x3 c10 _ hc H.size) ⟨q_cB hts gw_1113 gw_28 gw_1111 hds_60 ⟨Nat.le_of_ble_eq_true rfl, Nat.le_of_ble_eq_true rfl⟩, hts _ gw_1112⟩ (q_pre (m_subP hP hal_) (m_subD hD hal_ hnd_) hK hSt hS (m_lF hD hS hA hal_) _) rfl rfl hl.1 rfl (lv_room (Nat.le_of_ble_eq_true rfl)) d_Si_divide_112 ⟨hkc, hks⟩) hP hD hS hA hal_ rfl (fun H locs hP hD hS => ?_)
        refine W.widen (k := κ) (n := σ) (Nat.le_refl _) (Nat.le_refl _) ?_
        obtain ⟨M12, eM_, hf⟩ := bnP hf
        have hP : va_P D classes (mw M12) H := by rw [eM_]; exact hP
        have hD : va_D A (mw M12) := by rw [eM_]; exact hD
        clear eM_ hal_ hnd_ hc
        refine lv_aload hx hb d_Si_divide_115 (lv_at hl 3 rfl) ?_
        obtain ⟨c13, hal_, hnd_, c14, hc, hf⟩ := hf
        refine m_lv (va_runS (As := [.ref x5]) (rest := []) ⟨hx, hb, hml, hown, hts⟩ (c_Sc_halveModulo l D cy ad fu x5 c13 _ hc H.size) ⟨q_cB hts gw_1116 gw_28 gw_1114 hds_61 ⟨Nat.le_of_ble_eq_true rfl, Nat.le_of_ble_eq_true rfl⟩, hts _ gw_1115⟩ (q_pre (m_subP hP hal_) (m_subD hD hal_ hnd_) hK hSt hS (m_lF hD hS hA hal_) _) rfl rfl hl.1 rfl (lv_room (Nat.le_of_ble_eq_true rfl)) d_Si_divide_117 ⟨hkc, hks⟩) hP hD hS hA hal_ rfl (fun H locs hP hD hS => ?_)
        refine W.widen (k := κ) (n := σ) (Nat.le_refl _) (Nat.le_refl _) ?_
        obtain ⟨M15, eM_, hf⟩ := bnP hf
        have hP : va_P D classes (mw M15) H := by rw [eM_]; exact hP
        have hD : va_D A (mw M15) := by rw [eM_]; exact hD
        clear eM_ hal_ hnd_ hc
        refine lv_goto (tgt := 167) hx hb d_Si_divide_120 (by decide) ?_
        exact wv_mSi_divide_167 (fu := fu) F hk_86 _ _ _ _ _ _ _ _ _ hf hkc hks _ _ _ hP hD hS (lv_sub hl [0, 1, 2, 3, 4, 5] rfl)
theorem ww_mSi_divide_86 {p : Program} {l : Launch} {e : Env} {s : State} {m : MethodId} {args : Array Value} {below : List Frame} {meth : Method} {c : Code} {D : va_G} {cy : Nat → ClassId} {A : Nat → Prop} {ad : Nat → Nat} {mi MC MS : Nat} {Φ : Mm → Prop} {fu : Nat} (F : FxM p s m args meth c b_Si_divide 9 "CoinKeeper$Signatures" "divide" none D cy ad mi A) : ∀ n : Nat, Iw_mSi_divide_86 p l e s m args below meth c D cy A ad mi MC MS Φ (xw_mSi_divide_86 fu MC MS cy ad mi Φ n)
  | 0 => fun _ _ _ _ _ _ _ _ _ hf => False.elim hf
  | n + 1 => wv_mSi_divide_86 F (ww_mSi_divide_86 F n)
set_option maxHeartbeats 8000000 in
set_option maxRecDepth 100000 in
theorem wv_mSi_divide_34 {p : Program} {l : Launch} {e : Env} {s : State} {m : MethodId} {args : Array Value} {below : List Frame} {meth : Method} {c : Code} {D : va_G} {cy : Nat → ClassId} {A : Nat → Prop} {ad : Nat → Nat} {mi MC MS : Nat} {Φ : Mm → Prop} {fu : Nat} {k_34 : Nat → Nat → Mm → Nat → Nat → Nat → Nat → Nat → Nat → Nat → Int32 → Prop} (F : FxM p s m args meth c b_Si_divide 9 "CoinKeeper$Signatures" "divide" none D cy ad mi A) (hk_34 : Iw_mSi_divide_34 p l e s m args below meth c D cy A ad mi MC MS Φ k_34) : Iw_mSi_divide_34 p l e s m args below meth c D cy A ad mi MC MS Φ (xv_mSi_divide_34 fu MC MS cy ad mi Φ k_34) := by
  obtain ⟨⟨hx, hb, hr, hml, hown, hts, hlocks, hK, hA, hSt, hnm, hex⟩, hT, hMi⟩ := id F
  intro κ σ M x0 x1 x2 x3 x4 x5 x6 x7 hf hkc hks H locs ls hP hD hS hl
  unfold xv_mSi_divide_34 at hf
  refine lv_iload hx hb d_Si_divide_34 (lv_at hl 7 rfl) ?_
  refine lv_iconst (v := 5) hx hb d_Si_divide_36 (by decide) ?_
  refine lv_icmp_ge (tgt := 83) hx hb d_Si_divide_37 (by decide) (fun cx => ?_) (fun cx => ?_)
  · have hf := ifpP cx hf
    refine lv_iconst (v := 0) hx hb d_Si_divide_83 (by decide) ?_
    refine lv_istore (lv' := [(7, .int (0 : Int32)), (0, .ref x0), (1, .ref x1), (2, .ref x2), (3, .ref x3), (4, .ref x4), (5, .ref x5), (6, .ref x6)]) hx hb d_Si_divide_84 hl (by decide) rfl (fun ls hl => ?_)
    exact ww_mSi_divide_86 F fu _ _ _ _ _ _ _ _ _ hf hkc hks _ _ _ hP hD hS (lv_sub hl [3, 4, 5, 6, 7, 0] rfl)
  · have hf := ifnP cx hf
    refine lv_aload_n hx hb d_Si_divide_40 rfl (lv_at hl 3 rfl) ?_
    refine lv_iload hx hb d_Si_divide_41 (lv_at hl 7 rfl) ?_
    refine lv_aload_n hx hb d_Si_divide_43 rfl (lv_at hl 0 rfl) ?_
    obtain ⟨fs_, hm_, r1, hv_, hf⟩ := hf
    obtain ⟨ix_, hi_⟩ := m_ix hm_
    refine va_get (D := D) (ci := 10) (v := va_rf r1) (C := "CoinKeeper$Signatures") (T := F_10) (N := 13) hx hb hts i_10 hown hK hP ix_ hi_ rfl 2 (by decide) (hts _ gw_141) (fun _ h9 => h9) hv_ d_Si_divide_44 ?_
    clear hv_ hi_ hm_
    obtain ⟨q2, rfl, hf⟩ := hf
    refine W.eq (g2 := F0 m 47 ls [.ref q2, .int x7, .ref x3]) rfl ?_
    refine lv_iload hx hb d_Si_divide_47 (lv_at hl 7 rfl) ?_
    obtain ⟨n_, f_, hm_, hin_, hf⟩ := hf
    obtain ⟨ix_, hi_⟩ := m_ix hm_
    refine va_lald hx hb hK hP ix_ 2 hi_ rfl (inb_in hin_) d_Si_divide_49 ?_
    obtain ⟨v3, ev⟩ : ∃ z, z = f_ x7.toNatClampNeg := ⟨_, rfl⟩
    first | rw [← ev] at hf ⊢ | rw [← ev]
    clear ev hi_ hm_ hin_
    obtain ⟨n_, f_, hm_, hin_, hf⟩ := hf
    obtain ⟨ix_, hi_⟩ := m_ix hm_
    have hE_ := m_set (y := .inl (cy 2, n_, .inr (.inl (vp_updL f_ x7.toNatClampNeg v3)))) hD hi_
    refine va_last hx hb hK hP hD hS ix_ 2 hi_ rfl (inb_in hin_) d_Si_divide_50 (fun H locs hP hD hS => ?_)
    obtain ⟨M4, eM_⟩ : ∃ z, z = mu M x3 (.inl (cy 2, n_, .inr (.inl (vp_updL f_ x7.toNatClampNeg v3)))) := ⟨_, rfl⟩
    rw [← eM_] at hf hE_
    rw [hE_] at hP hD
    clear hE_ eM_ hi_ hm_
    refine lv_aload hx hb d_Si_divide_51 (lv_at hl 4 rfl) ?_
    refine lv_iload hx hb d_Si_divide_53 (lv_at hl 7 rfl) ?_
    refine va_gets hx hb (hSt.1 4 _ rfl).1 hS hown (hts _ gw_1055) (fun _ h9 => h9) d_Si_divide_55 ?_
    refine lv_iload hx hb d_Si_divide_58 (lv_at hl 7 rfl) ?_
    obtain ⟨hg, hf⟩ := hf
    refine va_tl (v := .long (tb_4.getD x7.toNatClampNeg 0)) hx hb (hSt.1 4 _ rfl).2 hS (inb_in hg) rfl d_Si_divide_60 ?_
    refine lv_topl (fun v5 ev => ?_)
    have hf := bnQ ev hf
    clear ev
    obtain ⟨n_, f_, hm_, hin_, hf⟩ := hf
    obtain ⟨ix_, hi_⟩ := m_ix hm_
    have hE_ := m_set (y := .inl (cy 2, n_, .inr (.inl (vp_updL f_ x7.toNatClampNeg v5)))) hD hi_
    refine va_last hx hb hK hP hD hS ix_ 2 hi_ rfl (inb_in hin_) d_Si_divide_61 (fun H locs hP hD hS => ?_)
    obtain ⟨M6, eM_⟩ : ∃ z, z = mu M4 x4 (.inl (cy 2, n_, .inr (.inl (vp_updL f_ x7.toNatClampNeg v5)))) := ⟨_, rfl⟩
    rw [← eM_] at hf hE_
    rw [hE_] at hP hD
    clear hE_ eM_ hi_ hm_
    refine lv_aload hx hb d_Si_divide_62 (lv_at hl 5 rfl) ?_
    refine lv_iload hx hb d_Si_divide_64 (lv_at hl 7 rfl) ?_
    refine lv_aload_n hx hb d_Si_divide_66 rfl (lv_at hl 1 rfl) ?_
    refine lv_iload hx hb d_Si_divide_67 (lv_at hl 7 rfl) ?_
    obtain ⟨n_, f_, hm_, hin_, hf⟩ := hf
    obtain ⟨ix_, hi_⟩ := m_ix hm_
    refine va_lald hx hb hK hP ix_ 2 hi_ rfl (inb_in hin_) d_Si_divide_69 ?_
    obtain ⟨v7, ev⟩ : ∃ z, z = f_ x7.toNatClampNeg := ⟨_, rfl⟩
    first | rw [← ev] at hf ⊢ | rw [← ev]
    clear ev hi_ hm_ hin_
    obtain ⟨n_, f_, hm_, hin_, hf⟩ := hf
    obtain ⟨ix_, hi_⟩ := m_ix hm_
    have hE_ := m_set (y := .inl (cy 2, n_, .inr (.inl (vp_updL f_ x7.toNatClampNeg v7)))) hD hi_
    refine va_last hx hb hK hP hD hS ix_ 2 hi_ rfl (inb_in hin_) d_Si_divide_70 (fun H locs hP hD hS => ?_)
    obtain ⟨M8, eM_⟩ : ∃ z, z = mu M6 x5 (.inl (cy 2, n_, .inr (.inl (vp_updL f_ x7.toNatClampNeg v7)))) := ⟨_, rfl⟩
    rw [← eM_] at hf hE_
    rw [hE_] at hP hD
    clear hE_ eM_ hi_ hm_
    refine lv_aload hx hb d_Si_divide_71 (lv_at hl 6 rfl) ?_
    refine lv_iload hx hb d_Si_divide_73 (lv_at hl 7 rfl) ?_
    refine lv_lconst (v := 0) hx hb d_Si_divide_75 (by decide) ?_
    obtain ⟨n_, f_, hm_, hin_, hf⟩ := hf
    obtain ⟨ix_, hi_⟩ := m_ix hm_
    have hE_ := m_set (y := .inl (cy 2, n_, .inr (.inl (vp_updL f_ x7.toNatClampNeg (0 : Int64))))) hD hi_
    refine va_last hx hb hK hP hD hS ix_ 2 hi_ rfl (inb_in hin_) d_Si_divide_76 (fun H locs hP hD hS => ?_)
    obtain ⟨M9, eM_⟩ : ∃ z, z = mu M8 x6 (.inl (cy 2, n_, .inr (.inl (vp_updL f_ x7.toNatClampNeg (0 : Int64))))) := ⟨_, rfl⟩
    rw [← eM_] at hf hE_
    rw [hE_] at hP hD
    clear hE_ eM_ hi_ hm_
    obtain ⟨v10, ev, hf⟩ := bnP hf
    refine lv_iinc (v := v10) (lv' := [(7, .int v10), (0, .ref x0), (1, .ref x1), (2, .ref x2), (3, .ref x3), (4, .ref x4), (5, .ref x5), (6, .ref x6)]) hx hb d_Si_divide_77 hl (k := 7) rfl (by rw [ev]; rfl) (by decide) rfl (fun ls hl => ?_)
    clear ev
    refine lv_goto (tgt := 34) hx hb d_Si_divide_80 (by decide) ?_
    exact hk_34 _ _ _ _ _ _ _ _ _ _ _ hf hkc hks _ _ _ hP hD hS (lv_sub hl [1, 2, 3, 4, 5, 6, 7, 0] rfl)
theorem ww_mSi_divide_34 {p : Program} {l : Launch} {e : Env} {s : State} {m : MethodId} {args : Array Value} {below : List Frame} {meth : Method} {c : Code} {D : va_G} {cy : Nat → ClassId} {A : Nat → Prop} {ad : Nat → Nat} {mi MC MS : Nat} {Φ : Mm → Prop} {fu : Nat} (F : FxM p s m args meth c b_Si_divide 9 "CoinKeeper$Signatures" "divide" none D cy ad mi A) : ∀ n : Nat, Iw_mSi_divide_34 p l e s m args below meth c D cy A ad mi MC MS Φ (xw_mSi_divide_34 fu MC MS cy ad mi Φ n)
  | 0 => fun _ _ _ _ _ _ _ _ _ _ _ hf => False.elim hf
  | n + 1 => wv_mSi_divide_34 F (ww_mSi_divide_34 F n)
set_option maxHeartbeats 8000000 in
set_option maxRecDepth 100000 in
theorem wew_mSi_divide {p : Program} {l : Launch} {e : Env} {s : State} {m : MethodId} {args : Array Value} {below : List Frame} {meth : Method} {c : Code} {D : va_G} {cy : Nat → ClassId} {A : Nat → Prop} {ad : Nat → Nat} {mi MC MS : Nat} {Φ : Mm → Prop} {fu : Nat} (F : FxM p s m args meth c b_Si_divide 9 "CoinKeeper$Signatures" "divide" none D cy ad mi A) : Iw_mSi_divide_e p l e s m args below meth c D cy A ad mi MC MS Φ (xw_mSi_divide fu MC MS cy ad mi Φ) := by
  obtain ⟨⟨hx, hb, hr, hml, hown, hts, hlocks, hK, hA, hSt, hnm, hex⟩, hT, hMi⟩ := id F
  intro κ σ M a0 a1 a2 hf hkc hks H locs ls hP hD hS hl
  unfold xw_mSi_divide at hf
  refine lv_aload_n hx hb d_Si_divide_0 rfl (lv_at hl 0 rfl) ?_
  obtain ⟨fs_, hm_, r1, hv_, hf⟩ := hf
  obtain ⟨ix_, hi_⟩ := m_ix hm_
  refine va_get (D := D) (ci := 10) (v := va_rf r1) (C := "CoinKeeper$Signatures") (T := F_10) (N := 13) hx hb hts i_10 hown hK hP ix_ hi_ rfl 6 (by decide) (hts _ gw_145) (fun _ h9 => h9) hv_ d_Si_divide_1 ?_
  clear hv_ hi_ hm_
  obtain ⟨q2, rfl, hf⟩ := hf
  refine W.eq (g2 := F0 m 4 ls [.ref q2]) rfl ?_
  refine lv_iconst (v := 0) hx hb d_Si_divide_4 (by decide) ?_
  obtain ⟨n_, f_, hm_, hin_, hf⟩ := hf
  obtain ⟨ix_, hi_⟩ := m_ix hm_
  refine q_ald2 hx hb hK hP ix_ hi_ (inb_in hin_) d_Si_divide_5 ?_
  obtain ⟨r3, ev⟩ : ∃ z, z = f_ (0 : Int32).toNatClampNeg := ⟨_, rfl⟩
  first | rw [← ev] at hf ⊢ | rw [← ev]
  clear ev hi_ hm_ hin_
  obtain ⟨q4, rfl, hf⟩ := hf
  refine W.eq (g2 := F0 m 6 ls [.ref q4]) rfl ?_
  refine lv_astore_n (lv' := [(3, .ref q4), (0, .ref a0), (1, .ref a1), (2, .ref a2)]) hx hb d_Si_divide_6 rfl hl (by decide) rfl (fun ls hl => ?_)
  refine lv_aload_n hx hb d_Si_divide_7 rfl (lv_at hl 1 rfl) ?_
  obtain ⟨fs_, hm_, r5, hv_, hf⟩ := hf
  obtain ⟨ix_, hi_⟩ := m_ix hm_
  refine va_get (D := D) (ci := 10) (v := va_rf r5) (C := "CoinKeeper$Signatures") (T := F_10) (N := 13) hx hb hts i_10 hown hK hP ix_ hi_ rfl 6 (by decide) (hts _ gw_145) (fun _ h9 => h9) hv_ d_Si_divide_8 ?_
  clear hv_ hi_ hm_
  obtain ⟨q6, rfl, hf⟩ := hf
  refine W.eq (g2 := F0 m 11 ls [.ref q6]) rfl ?_
  refine lv_iconst (v := 1) hx hb d_Si_divide_11 (by decide) ?_
  obtain ⟨n_, f_, hm_, hin_, hf⟩ := hf
  obtain ⟨ix_, hi_⟩ := m_ix hm_
  refine q_ald2 hx hb hK hP ix_ hi_ (inb_in hin_) d_Si_divide_12 ?_
  obtain ⟨r7, ev⟩ : ∃ z, z = f_ (1 : Int32).toNatClampNeg := ⟨_, rfl⟩
  first | rw [← ev] at hf ⊢ | rw [← ev]
  clear ev hi_ hm_ hin_
  obtain ⟨q8, rfl, hf⟩ := hf
  refine W.eq (g2 := F0 m 13 ls [.ref q8]) rfl ?_
  refine lv_astore (lv' := [(4, .ref q8), (3, .ref q4), (0, .ref a0), (1, .ref a1), (2, .ref a2)]) hx hb d_Si_divide_13 hl (by decide) rfl (fun ls hl => ?_)
  refine lv_aload_n hx hb d_Si_divide_15 rfl (lv_at hl 2 rfl) ?_
  obtain ⟨fs_, hm_, r9, hv_, hf⟩ := hf
  obtain ⟨ix_, hi_⟩ := m_ix hm_
  refine va_get (D := D) (ci := 10) (v := va_rf r9) (C := "CoinKeeper$Signatures") (T := F_10) (N := 13) hx hb hts i_10 hown hK hP ix_ hi_ rfl 6 (by decide) (hts _ gw_145) (fun _ h9 => h9) hv_ d_Si_divide_16 ?_
  clear hv_ hi_ hm_
  obtain ⟨q10, rfl, hf⟩ := hf
  refine W.eq (g2 := F0 m 19 ls [.ref q10]) rfl ?_
  refine lv_iconst (v := 2) hx hb d_Si_divide_19 (by decide) ?_
  obtain ⟨n_, f_, hm_, hin_, hf⟩ := hf
  obtain ⟨ix_, hi_⟩ := m_ix hm_
  refine q_ald2 hx hb hK hP ix_ hi_ (inb_in hin_) d_Si_divide_20 ?_
  obtain ⟨r11, ev⟩ : ∃ z, z = f_ (2 : Int32).toNatClampNeg := ⟨_, rfl⟩
  first | rw [← ev] at hf ⊢ | rw [← ev]
  clear ev hi_ hm_ hin_
  obtain ⟨q12, rfl, hf⟩ := hf
  refine W.eq (g2 := F0 m 21 ls [.ref q12]) rfl ?_
  refine lv_astore (lv' := [(5, .ref q12), (4, .ref q8), (3, .ref q4), (0, .ref a0), (1, .ref a1), (2, .ref a2)]) hx hb d_Si_divide_21 hl (by decide) rfl (fun ls hl => ?_)
  refine lv_aload_n hx hb d_Si_divide_23 rfl (lv_at hl 3 rfl) ?_
  obtain ⟨fs_, hm_, r13, hv_, hf⟩ := hf
  obtain ⟨ix_, hi_⟩ := m_ix hm_
  refine va_get (D := D) (ci := 10) (v := va_rf r13) (C := "CoinKeeper$Signatures") (T := F_10) (N := 13) hx hb hts i_10 hown hK hP ix_ hi_ rfl 6 (by decide) (hts _ gw_145) (fun _ h9 => h9) hv_ d_Si_divide_24 ?_
  clear hv_ hi_ hm_
  obtain ⟨q14, rfl, hf⟩ := hf
  refine W.eq (g2 := F0 m 27 ls [.ref q14]) rfl ?_
  refine lv_iconst (v := 3) hx hb d_Si_divide_27 (by decide) ?_
  obtain ⟨n_, f_, hm_, hin_, hf⟩ := hf
  obtain ⟨ix_, hi_⟩ := m_ix hm_
  refine q_ald2 hx hb hK hP ix_ hi_ (inb_in hin_) d_Si_divide_28 ?_
  obtain ⟨r15, ev⟩ : ∃ z, z = f_ (3 : Int32).toNatClampNeg := ⟨_, rfl⟩
  first | rw [← ev] at hf ⊢ | rw [← ev]
  clear ev hi_ hm_ hin_
  obtain ⟨q16, rfl, hf⟩ := hf
  refine W.eq (g2 := F0 m 29 ls [.ref q16]) rfl ?_
  refine lv_astore (lv' := [(6, .ref q16), (5, .ref q12), (4, .ref q8), (3, .ref q4), (0, .ref a0), (1, .ref a1), (2, .ref a2)]) hx hb d_Si_divide_29 hl (by decide) rfl (fun ls hl => ?_)
  refine lv_iconst (v := 0) hx hb d_Si_divide_31 (by decide) ?_
  refine lv_istore (lv' := [(7, .int (0 : Int32)), (6, .ref q16), (5, .ref q12), (4, .ref q8), (3, .ref q4), (0, .ref a0), (1, .ref a1), (2, .ref a2)]) hx hb d_Si_divide_32 hl (by decide) rfl (fun ls hl => ?_)
  exact ww_mSi_divide_34 F fu _ _ _ _ _ _ _ _ _ _ _ hf hkc hks _ _ _ hP hD hS (lv_sub hl [5, 6, 7, 4, 3, 2, 1, 0] rfl)
theorem cw_mSi_divide (l : Launch) (D : va_G) (cy : Nat → ClassId) (ad : Nat → Nat) (mi fu MC MS : Nat) (a0 : Nat) (a1 : Nat) (a2 : Nat) (M : Mm) (Φ : Mm → Prop) (hf : xw_mSi_divide fu MC MS cy ad mi Φ 0 0 M a0 a1 a2) (sz : Nat) : Met l ({ cls := "CoinKeeper$Signatures", name := "divide", desc := "([J[J)V" } : Jvm.MethodName) (.code ({ cls := "CoinKeeper$Signatures", name := "divide", desc := "([J[J)V" } : Jvm.MethodName) b_Si_divide 9 none :: gw) (rmw_mSi_divide MC MS) (va_Pc [.ref a0, .ref a1, .ref a2] (PrM D cy ad mi (mw M) sz)) (va_Qv Φ (fun u t => Po D cy (va_A (mw M) sz) (mw u) t) (va_A (mw M) sz)) MC MS (va_A (mw M) sz) :=
  q_metM (Qc := fun A => va_Qv Φ (fun u t => Po D cy A (mw u) t) A) (by decide) rfl rfl (Nat.le_of_ble_eq_true rfl) (fun p e s m below meth c ls F hP hD hS hl => wew_mSi_divide (fu := fu) F 0 0 M a0 a1 a2 hf (Nat.zero_le _) (Nat.zero_le _) _ _ _ hP hD hS hl) sz
abbrev b_Si_addUp : ByteArray := prog_12_method_8_code
theorem d_Si_addUp_0 : decode b_Si_addUp 0 = .ok (.aload_n 0, 1) := by decide +kernel
theorem d_Si_addUp_1 : decode b_Si_addUp 1 = .ok (.getfield 56, 3) := by decide +kernel
theorem d_Si_addUp_4 : decode b_Si_addUp 4 = .ok (.aload_n 0, 1) := by decide +kernel
theorem d_Si_addUp_5 : decode b_Si_addUp 5 = .ok (.getfield 52, 3) := by decide +kernel
theorem d_Si_addUp_8 : decode b_Si_addUp 8 = .ok (.iconst 0, 1) := by decide +kernel
theorem d_Si_addUp_9 : decode b_Si_addUp 9 = .ok (.aaload, 1) := by decide +kernel
theorem d_Si_addUp_10 : decode b_Si_addUp 10 = .ok (.invokevirtual 135, 3) := by decide +kernel
theorem d_Si_addUp_13 : decode b_Si_addUp 13 = .ok (.aload_n 0, 1) := by decide +kernel
theorem d_Si_addUp_14 : decode b_Si_addUp 14 = .ok (.getfield 10, 3) := by decide +kernel
theorem d_Si_addUp_17 : decode b_Si_addUp 17 = .ok (.aload_n 0, 1) := by decide +kernel
theorem d_Si_addUp_18 : decode b_Si_addUp 18 = .ok (.getfield 56, 3) := by decide +kernel
theorem d_Si_addUp_21 : decode b_Si_addUp 21 = .ok (.invokevirtual 139, 3) := by decide +kernel
theorem d_Si_addUp_24 : decode b_Si_addUp 24 = .ok (.iconst 1, 1) := by decide +kernel
theorem d_Si_addUp_25 : decode b_Si_addUp 25 = .ok (.istore_n 1, 1) := by decide +kernel
theorem d_Si_addUp_26 : decode b_Si_addUp 26 = .ok (.iload_n 1, 1) := by decide +kernel
theorem d_Si_addUp_27 : decode b_Si_addUp 27 = .ok (.bipush 8, 2) := by decide +kernel
theorem d_Si_addUp_29 : decode b_Si_addUp 29 = .ok (.if_icmp .ge 45, 3) := by decide +kernel
theorem d_Si_addUp_32 : decode b_Si_addUp 32 = .ok (.aload_n 0, 1) := by decide +kernel
theorem d_Si_addUp_33 : decode b_Si_addUp 33 = .ok (.getfield 52, 3) := by decide +kernel
theorem d_Si_addUp_36 : decode b_Si_addUp 36 = .ok (.iload_n 1, 1) := by decide +kernel
theorem d_Si_addUp_37 : decode b_Si_addUp 37 = .ok (.aaload, 1) := by decide +kernel
theorem d_Si_addUp_38 : decode b_Si_addUp 38 = .ok (.aload_n 0, 1) := by decide +kernel
theorem d_Si_addUp_39 : decode b_Si_addUp 39 = .ok (.getfield 52, 3) := by decide +kernel
theorem d_Si_addUp_42 : decode b_Si_addUp 42 = .ok (.iload_n 1, 1) := by decide +kernel
theorem d_Si_addUp_43 : decode b_Si_addUp 43 = .ok (.iconst 1, 1) := by decide +kernel
theorem d_Si_addUp_44 : decode b_Si_addUp 44 = .ok (.isub, 1) := by decide +kernel
theorem d_Si_addUp_45 : decode b_Si_addUp 45 = .ok (.aaload, 1) := by decide +kernel
theorem d_Si_addUp_46 : decode b_Si_addUp 46 = .ok (.invokevirtual 135, 3) := by decide +kernel
theorem d_Si_addUp_49 : decode b_Si_addUp 49 = .ok (.aload_n 0, 1) := by decide +kernel
theorem d_Si_addUp_50 : decode b_Si_addUp 50 = .ok (.getfield 10, 3) := by decide +kernel
theorem d_Si_addUp_53 : decode b_Si_addUp 53 = .ok (.aload_n 0, 1) := by decide +kernel
theorem d_Si_addUp_54 : decode b_Si_addUp 54 = .ok (.getfield 52, 3) := by decide +kernel
theorem d_Si_addUp_57 : decode b_Si_addUp 57 = .ok (.iload_n 1, 1) := by decide +kernel
theorem d_Si_addUp_58 : decode b_Si_addUp 58 = .ok (.aaload, 1) := by decide +kernel
theorem d_Si_addUp_59 : decode b_Si_addUp 59 = .ok (.aload_n 0, 1) := by decide +kernel
theorem d_Si_addUp_60 : decode b_Si_addUp 60 = .ok (.getfield 56, 3) := by decide +kernel
theorem d_Si_addUp_63 : decode b_Si_addUp 63 = .ok (.iconst 0, 1) := by decide +kernel
theorem d_Si_addUp_64 : decode b_Si_addUp 64 = .ok (.invokevirtual 142, 3) := by decide +kernel
theorem d_Si_addUp_67 : decode b_Si_addUp 67 = .ok (.pop, 1) := by decide +kernel
theorem d_Si_addUp_68 : decode b_Si_addUp 68 = .ok (.iinc 1 1, 3) := by decide +kernel
theorem d_Si_addUp_71 : decode b_Si_addUp 71 = .ok (.goto (-45), 3) := by decide +kernel
theorem d_Si_addUp_74 : decode b_Si_addUp 74 = .ok (.aload_n 0, 1) := by decide +kernel
theorem d_Si_addUp_75 : decode b_Si_addUp 75 = .ok (.getfield 60, 3) := by decide +kernel
theorem d_Si_addUp_78 : decode b_Si_addUp 78 = .ok (.iconst 1, 1) := by decide +kernel
theorem d_Si_addUp_79 : decode b_Si_addUp 79 = .ok (.putfield 146, 3) := by decide +kernel
theorem d_Si_addUp_82 : decode b_Si_addUp 82 = .ok (.sipush 256, 3) := by decide +kernel
theorem d_Si_addUp_85 : decode b_Si_addUp 85 = .ok (.istore_n 1, 1) := by decide +kernel
theorem d_Si_addUp_86 : decode b_Si_addUp 86 = .ok (.iload_n 1, 1) := by decide +kernel
theorem d_Si_addUp_87 : decode b_Si_addUp 87 = .ok (.ifCond .lt 117, 3) := by decide +kernel
theorem d_Si_addUp_90 : decode b_Si_addUp 90 = .ok (.aload_n 0, 1) := by decide +kernel
theorem d_Si_addUp_91 : decode b_Si_addUp 91 = .ok (.getfield 10, 3) := by decide +kernel
theorem d_Si_addUp_94 : decode b_Si_addUp 94 = .ok (.aload_n 0, 1) := by decide +kernel
theorem d_Si_addUp_95 : decode b_Si_addUp 95 = .ok (.getfield 60, 3) := by decide +kernel
theorem d_Si_addUp_98 : decode b_Si_addUp 98 = .ok (.invokevirtual 139, 3) := by decide +kernel
theorem d_Si_addUp_101 : decode b_Si_addUp 101 = .ok (.iconst 0, 1) := by decide +kernel
theorem d_Si_addUp_102 : decode b_Si_addUp 102 = .ok (.istore_n 2, 1) := by decide +kernel
theorem d_Si_addUp_103 : decode b_Si_addUp 103 = .ok (.iload_n 2, 1) := by decide +kernel
theorem d_Si_addUp_104 : decode b_Si_addUp 104 = .ok (.iconst 2, 1) := by decide +kernel
theorem d_Si_addUp_105 : decode b_Si_addUp 105 = .ok (.if_icmp .ge 93, 3) := by decide +kernel
theorem d_Si_addUp_108 : decode b_Si_addUp 108 = .ok (.iload_n 2, 1) := by decide +kernel
theorem d_Si_addUp_109 : decode b_Si_addUp 109 = .ok (.ifCond .ne 12, 3) := by decide +kernel
theorem d_Si_addUp_112 : decode b_Si_addUp 112 = .ok (.aload_n 0, 1) := by decide +kernel
theorem d_Si_addUp_113 : decode b_Si_addUp 113 = .ok (.getfield 39, 3) := by decide +kernel
theorem d_Si_addUp_116 : decode b_Si_addUp 116 = .ok (.iload_n 1, 1) := by decide +kernel
theorem d_Si_addUp_117 : decode b_Si_addUp 117 = .ok (.baload, 1) := by decide +kernel
theorem d_Si_addUp_118 : decode b_Si_addUp 118 = .ok (.goto 9, 3) := by decide +kernel
theorem d_Si_addUp_121 : decode b_Si_addUp 121 = .ok (.aload_n 0, 1) := by decide +kernel
theorem d_Si_addUp_122 : decode b_Si_addUp 122 = .ok (.getfield 43, 3) := by decide +kernel
theorem d_Si_addUp_125 : decode b_Si_addUp 125 = .ok (.iload_n 1, 1) := by decide +kernel
theorem d_Si_addUp_126 : decode b_Si_addUp 126 = .ok (.baload, 1) := by decide +kernel
theorem d_Si_addUp_127 : decode b_Si_addUp 127 = .ok (.istore_n 3, 1) := by decide +kernel
theorem d_Si_addUp_128 : decode b_Si_addUp 128 = .ok (.iload_n 2, 1) := by decide +kernel
theorem d_Si_addUp_129 : decode b_Si_addUp 129 = .ok (.ifCond .ne 10, 3) := by decide +kernel
theorem d_Si_addUp_132 : decode b_Si_addUp 132 = .ok (.aload_n 0, 1) := by decide +kernel
theorem d_Si_addUp_133 : decode b_Si_addUp 133 = .ok (.getfield 48, 3) := by decide +kernel
theorem d_Si_addUp_136 : decode b_Si_addUp 136 = .ok (.goto 7, 3) := by decide +kernel
theorem d_Si_addUp_139 : decode b_Si_addUp 139 = .ok (.aload_n 0, 1) := by decide +kernel
theorem d_Si_addUp_140 : decode b_Si_addUp 140 = .ok (.getfield 52, 3) := by decide +kernel
theorem d_Si_addUp_143 : decode b_Si_addUp 143 = .ok (.astore 4, 2) := by decide +kernel
theorem d_Si_addUp_145 : decode b_Si_addUp 145 = .ok (.iload_n 3, 1) := by decide +kernel
theorem d_Si_addUp_146 : decode b_Si_addUp 146 = .ok (.ifCond .eq 46, 3) := by decide +kernel
theorem d_Si_addUp_149 : decode b_Si_addUp 149 = .ok (.aload_n 0, 1) := by decide +kernel
theorem d_Si_addUp_150 : decode b_Si_addUp 150 = .ok (.getfield 10, 3) := by decide +kernel
theorem d_Si_addUp_153 : decode b_Si_addUp 153 = .ok (.aload_n 0, 1) := by decide +kernel
theorem d_Si_addUp_154 : decode b_Si_addUp 154 = .ok (.getfield 60, 3) := by decide +kernel
theorem d_Si_addUp_157 : decode b_Si_addUp 157 = .ok (.aload 4, 2) := by decide +kernel
theorem d_Si_addUp_159 : decode b_Si_addUp 159 = .ok (.iload_n 3, 1) := by decide +kernel
theorem d_Si_addUp_160 : decode b_Si_addUp 160 = .ok (.invokestatic 150, 3) := by decide +kernel
theorem d_Si_addUp_163 : decode b_Si_addUp 163 = .ok (.iconst 1, 1) := by decide +kernel
theorem d_Si_addUp_164 : decode b_Si_addUp 164 = .ok (.ishr, 1) := by decide +kernel
theorem d_Si_addUp_165 : decode b_Si_addUp 165 = .ok (.aaload, 1) := by decide +kernel
theorem d_Si_addUp_166 : decode b_Si_addUp 166 = .ok (.iload_n 3, 1) := by decide +kernel
theorem d_Si_addUp_167 : decode b_Si_addUp 167 = .ok (.ifCond .ge 7, 3) := by decide +kernel
theorem d_Si_addUp_170 : decode b_Si_addUp 170 = .ok (.iconst 1, 1) := by decide +kernel
theorem d_Si_addUp_171 : decode b_Si_addUp 171 = .ok (.goto 4, 3) := by decide +kernel
theorem d_Si_addUp_174 : decode b_Si_addUp 174 = .ok (.iconst 0, 1) := by decide +kernel
theorem d_Si_addUp_175 : decode b_Si_addUp 175 = .ok (.invokevirtual 142, 3) := by decide +kernel
theorem d_Si_addUp_178 : decode b_Si_addUp 178 = .ok (.ifCond .ne 14, 3) := by decide +kernel
theorem d_Si_addUp_181 : decode b_Si_addUp 181 = .ok (.aload_n 0, 1) := by decide +kernel
theorem d_Si_addUp_182 : decode b_Si_addUp 182 = .ok (.getfield 10, 3) := by decide +kernel
theorem d_Si_addUp_185 : decode b_Si_addUp 185 = .ok (.aload_n 0, 1) := by decide +kernel
theorem d_Si_addUp_186 : decode b_Si_addUp 186 = .ok (.getfield 60, 3) := by decide +kernel
theorem d_Si_addUp_189 : decode b_Si_addUp 189 = .ok (.invokevirtual 139, 3) := by decide +kernel
theorem d_Si_addUp_192 : decode b_Si_addUp 192 = .ok (.iinc 2 1, 3) := by decide +kernel
theorem d_Si_addUp_195 : decode b_Si_addUp 195 = .ok (.goto (-92), 3) := by decide +kernel
theorem d_Si_addUp_198 : decode b_Si_addUp 198 = .ok (.iinc 1 (-1), 3) := by decide +kernel
theorem d_Si_addUp_201 : decode b_Si_addUp 201 = .ok (.goto (-115), 3) := by decide +kernel
theorem d_Si_addUp_204 : decode b_Si_addUp 204 = .ok (.return_, 1) := by decide +kernel
abbrev rmw_mSi_addUp (MC MS : Nat) : Room := { frames := 3, cells := MC, slots := MS, locals := 108 }
def Iw_mSi_addUp_192 (p : Program) (l : Launch) (e : Env) (s : State) (m : MethodId) (args : Array Value) (below : List Frame) (meth : Method) (c : Code) (D : va_G) (cy : Nat → ClassId) (A : Nat → Prop) (ad : Nat → Nat) (mi MC MS : Nat) (Φ : Mm → Prop) (k : Nat → Nat → Mm → Nat → Int32 → Int32 → Prop) : Prop :=
  ∀ (κ σ : Nat) (M : Mm) (x0 : Nat) (x1 : Int32) (x2 : Int32), k κ σ M x0 x1 x2 → κ ≤ MC → σ ≤ MS → ∀ (H : Heap) (locs : List Loc) (ls : Array Slot), va_P D classes (mw M) H → va_D A (mw M) → va_S A s.heap H locs → lv_has ls 5 [(0, .ref x0), (1, .int x1), (2, .int x2)] → W p l e (rmw_mSi_addUp MC MS) s m args below meth c H locs κ σ (MQ below (va_Qv Φ (fun u t => Po D cy A (mw u) t) A) args s MC MS A) (F0 m 192 ls [])
def Iw_mSi_addUp_175 (p : Program) (l : Launch) (e : Env) (s : State) (m : MethodId) (args : Array Value) (below : List Frame) (meth : Method) (c : Code) (D : va_G) (cy : Nat → ClassId) (A : Nat → Prop) (ad : Nat → Nat) (mi MC MS : Nat) (Φ : Mm → Prop) (k : Nat → Nat → Mm → Nat → Int32 → Int32 → Int32 → Nat → Nat → Nat → Prop) : Prop :=
  ∀ (κ σ : Nat) (M : Mm) (x0 : Nat) (x1 : Int32) (x2 : Int32) (y0 : Int32) (y1 : Nat) (y2 : Nat) (y3 : Nat), k κ σ M x0 x1 x2 y0 y1 y2 y3 → κ ≤ MC → σ ≤ MS → ∀ (H : Heap) (locs : List Loc) (ls : Array Slot), va_P D classes (mw M) H → va_D A (mw M) → va_S A s.heap H locs → lv_has ls 5 [(0, .ref x0), (1, .int x1), (2, .int x2)] → W p l e (rmw_mSi_addUp MC MS) s m args below meth c H locs κ σ (MQ below (va_Qv Φ (fun u t => Po D cy A (mw u) t) A) args s MC MS A) (F0 m 175 ls [.int y0, .ref y1, .ref y2, .ref y3])
def Iw_mSi_addUp_143 (p : Program) (l : Launch) (e : Env) (s : State) (m : MethodId) (args : Array Value) (below : List Frame) (meth : Method) (c : Code) (D : va_G) (cy : Nat → ClassId) (A : Nat → Prop) (ad : Nat → Nat) (mi MC MS : Nat) (Φ : Mm → Prop) (k : Nat → Nat → Mm → Nat → Int32 → Int32 → Int32 → Nat → Prop) : Prop :=
  ∀ (κ σ : Nat) (M : Mm) (x0 : Nat) (x1 : Int32) (x2 : Int32) (x3 : Int32) (y0 : Nat), k κ σ M x0 x1 x2 x3 y0 → κ ≤ MC → σ ≤ MS → ∀ (H : Heap) (locs : List Loc) (ls : Array Slot), va_P D classes (mw M) H → va_D A (mw M) → va_S A s.heap H locs → lv_has ls 5 [(0, .ref x0), (1, .int x1), (2, .int x2), (3, .int x3)] → W p l e (rmw_mSi_addUp MC MS) s m args below meth c H locs κ σ (MQ below (va_Qv Φ (fun u t => Po D cy A (mw u) t) A) args s MC MS A) (F0 m 143 ls [.ref y0])
def Iw_mSi_addUp_127 (p : Program) (l : Launch) (e : Env) (s : State) (m : MethodId) (args : Array Value) (below : List Frame) (meth : Method) (c : Code) (D : va_G) (cy : Nat → ClassId) (A : Nat → Prop) (ad : Nat → Nat) (mi MC MS : Nat) (Φ : Mm → Prop) (k : Nat → Nat → Mm → Nat → Int32 → Int32 → Int32 → Prop) : Prop :=
  ∀ (κ σ : Nat) (M : Mm) (x0 : Nat) (x1 : Int32) (x2 : Int32) (y0 : Int32), k κ σ M x0 x1 x2 y0 → κ ≤ MC → σ ≤ MS → ∀ (H : Heap) (locs : List Loc) (ls : Array Slot), va_P D classes (mw M) H → va_D A (mw M) → va_S A s.heap H locs → lv_has ls 5 [(0, .ref x0), (1, .int x1), (2, .int x2)] → W p l e (rmw_mSi_addUp MC MS) s m args below meth c H locs κ σ (MQ below (va_Qv Φ (fun u t => Po D cy A (mw u) t) A) args s MC MS A) (F0 m 127 ls [.int y0])
def Iw_mSi_addUp_103 (p : Program) (l : Launch) (e : Env) (s : State) (m : MethodId) (args : Array Value) (below : List Frame) (meth : Method) (c : Code) (D : va_G) (cy : Nat → ClassId) (A : Nat → Prop) (ad : Nat → Nat) (mi MC MS : Nat) (Φ : Mm → Prop) (k : Nat → Nat → Mm → Nat → Int32 → Int32 → Prop) : Prop :=
  ∀ (κ σ : Nat) (M : Mm) (x0 : Nat) (x1 : Int32) (x2 : Int32), k κ σ M x0 x1 x2 → κ ≤ MC → σ ≤ MS → ∀ (H : Heap) (locs : List Loc) (ls : Array Slot), va_P D classes (mw M) H → va_D A (mw M) → va_S A s.heap H locs → lv_has ls 5 [(0, .ref x0), (1, .int x1), (2, .int x2)] → W p l e (rmw_mSi_addUp MC MS) s m args below meth c H locs κ σ (MQ below (va_Qv Φ (fun u t => Po D cy A (mw u) t) A) args s MC MS A) (F0 m 103 ls [])
def Iw_mSi_addUp_86 (p : Program) (l : Launch) (e : Env) (s : State) (m : MethodId) (args : Array Value) (below : List Frame) (meth : Method) (c : Code) (D : va_G) (cy : Nat → ClassId) (A : Nat → Prop) (ad : Nat → Nat) (mi MC MS : Nat) (Φ : Mm → Prop) (k : Nat → Nat → Mm → Nat → Int32 → Prop) : Prop :=
  ∀ (κ σ : Nat) (M : Mm) (x0 : Nat) (x1 : Int32), k κ σ M x0 x1 → κ ≤ MC → σ ≤ MS → ∀ (H : Heap) (locs : List Loc) (ls : Array Slot), va_P D classes (mw M) H → va_D A (mw M) → va_S A s.heap H locs → lv_has ls 5 [(0, .ref x0), (1, .int x1)] → W p l e (rmw_mSi_addUp MC MS) s m args below meth c H locs κ σ (MQ below (va_Qv Φ (fun u t => Po D cy A (mw u) t) A) args s MC MS A) (F0 m 86 ls [])
def Iw_mSi_addUp_26 (p : Program) (l : Launch) (e : Env) (s : State) (m : MethodId) (args : Array Value) (below : List Frame) (meth : Method) (c : Code) (D : va_G) (cy : Nat → ClassId) (A : Nat → Prop) (ad : Nat → Nat) (mi MC MS : Nat) (Φ : Mm → Prop) (k : Nat → Nat → Mm → Nat → Int32 → Prop) : Prop :=
  ∀ (κ σ : Nat) (M : Mm) (x0 : Nat) (x1 : Int32), k κ σ M x0 x1 → κ ≤ MC → σ ≤ MS → ∀ (H : Heap) (locs : List Loc) (ls : Array Slot), va_P D classes (mw M) H → va_D A (mw M) → va_S A s.heap H locs → lv_has ls 5 [(0, .ref x0), (1, .int x1)] → W p l e (rmw_mSi_addUp MC MS) s m args below meth c H locs κ σ (MQ below (va_Qv Φ (fun u t => Po D cy A (mw u) t) A) args s MC MS A) (F0 m 26 ls [])
def Iw_mSi_addUp_e (p : Program) (l : Launch) (e : Env) (s : State) (m : MethodId) (args : Array Value) (below : List Frame) (meth : Method) (c : Code) (D : va_G) (cy : Nat → ClassId) (A : Nat → Prop) (ad : Nat → Nat) (mi MC MS : Nat) (Φ : Mm → Prop) (k : Nat → Nat → Mm → Nat → Prop) : Prop :=
  ∀ (κ σ : Nat) (M : Mm) (a0 : Nat), k κ σ M a0 → κ ≤ MC → σ ≤ MS → ∀ (H : Heap) (locs : List Loc) (ls : Array Slot), va_P D classes (mw M) H → va_D A (mw M) → va_S A s.heap H locs → lv_has ls 5 [(0, .ref a0)] → W p l e (rmw_mSi_addUp MC MS) s m args below meth c H locs κ σ (MQ below (va_Qv Φ (fun u t => Po D cy A (mw u) t) A) args s MC MS A) (F0 m 0 ls [])
set_option maxHeartbeats 8000000 in
set_option maxRecDepth 100000 in
theorem wv_mSi_addUp_192 {p : Program} {l : Launch} {e : Env} {s : State} {m : MethodId} {args : Array Value} {below : List Frame} {meth : Method} {c : Code} {D : va_G} {cy : Nat → ClassId} {A : Nat → Prop} {ad : Nat → Nat} {mi MC MS : Nat} {Φ : Mm → Prop} {fu : Nat} {k_86 : Nat → Nat → Mm → Nat → Int32 → Prop} {k_103 : Nat → Nat → Mm → Nat → Int32 → Int32 → Prop} (F : FxM p s m args meth c b_Si_addUp 5 "CoinKeeper$Signatures" "addUp" none D cy ad mi A) (hk_86 : Iw_mSi_addUp_86 p l e s m args below meth c D cy A ad mi MC MS Φ k_86) (hk_103 : Iw_mSi_addUp_103 p l e s m args below meth c D cy A ad mi MC MS Φ k_103) : Iw_mSi_addUp_192 p l e s m args below meth c D cy A ad mi MC MS Φ (xv_mSi_addUp_192 fu MC MS cy ad mi Φ k_86 k_103) := by
  obtain ⟨⟨hx, hb, hr, hml, hown, hts, hlocks, hK, hA, hSt, hnm, hex⟩, hT, hMi⟩ := id F
  intro κ σ M x0 x1 x2 hf hkc hks H locs ls hP hD hS hl
  unfold xv_mSi_addUp_192 at hf
  obtain ⟨v1, ev, hf⟩ := bnP hf
  refine lv_iinc (v := v1) (lv' := [(2, .int v1), (0, .ref x0), (1, .int x1)]) hx hb d_Si_addUp_192 hl (k := 2) rfl (by rw [ev]; rfl) (by decide) rfl (fun ls hl => ?_)
  clear ev
  refine lv_goto (tgt := 103) hx hb d_Si_addUp_195 (by decide) ?_
  exact hk_103 _ _ _ _ _ _ hf hkc hks _ _ _ hP hD hS (lv_sub hl [1, 2, 0] rfl)
theorem hds_62 : ({ cls := "CoinKeeper$Curve", name := "add", desc := "(LCoinKeeper$Point;LCoinKeeper$Point;Z)Z" } : Jvm.MethodName).cls ≠ "java/lang/invoke/MethodHandle" ∧ ({ cls := "CoinKeeper$Curve", name := "add", desc := "(LCoinKeeper$Point;LCoinKeeper$Point;Z)Z" } : Jvm.MethodName).cls ≠ "java/lang/invoke/VarHandle" ∧ (parseMethodDescriptor ({ cls := "CoinKeeper$Curve", name := "add", desc := "(LCoinKeeper$Point;LCoinKeeper$Point;Z)Z" } : Jvm.MethodName).desc).map (fun d => d.parameters.length) = some 3 := by decide +kernel
theorem hds_63 : ({ cls := "CoinKeeper$Curve", name := "makeTwice", desc := "(LCoinKeeper$Point;)V" } : Jvm.MethodName).cls ≠ "java/lang/invoke/MethodHandle" ∧ ({ cls := "CoinKeeper$Curve", name := "makeTwice", desc := "(LCoinKeeper$Point;)V" } : Jvm.MethodName).cls ≠ "java/lang/invoke/VarHandle" ∧ (parseMethodDescriptor ({ cls := "CoinKeeper$Curve", name := "makeTwice", desc := "(LCoinKeeper$Point;)V" } : Jvm.MethodName).desc).map (fun d => d.parameters.length) = some 1 := by decide +kernel
set_option maxHeartbeats 8000000 in
set_option maxRecDepth 100000 in
theorem wv_mSi_addUp_175 {p : Program} {l : Launch} {e : Env} {s : State} {m : MethodId} {args : Array Value} {below : List Frame} {meth : Method} {c : Code} {D : va_G} {cy : Nat → ClassId} {A : Nat → Prop} {ad : Nat → Nat} {mi MC MS : Nat} {Φ : Mm → Prop} {fu : Nat} {k_86 : Nat → Nat → Mm → Nat → Int32 → Prop} {k_103 : Nat → Nat → Mm → Nat → Int32 → Int32 → Prop} (F : FxM p s m args meth c b_Si_addUp 5 "CoinKeeper$Signatures" "addUp" none D cy ad mi A) (hk_86 : Iw_mSi_addUp_86 p l e s m args below meth c D cy A ad mi MC MS Φ k_86) (hk_103 : Iw_mSi_addUp_103 p l e s m args below meth c D cy A ad mi MC MS Φ k_103) : Iw_mSi_addUp_175 p l e s m args below meth c D cy A ad mi MC MS Φ (xv_mSi_addUp_175 fu MC MS cy ad mi Φ k_86 k_103) := by
  obtain ⟨⟨hx, hb, hr, hml, hown, hts, hlocks, hK, hA, hSt, hnm, hex⟩, hT, hMi⟩ := id F
  intro κ σ M x0 x1 x2 y0 y1 y2 y3 hf hkc hks H locs ls hP hD hS hl
  unfold xv_mSi_addUp_175 at hf
  obtain ⟨b1, b2, b3, b4, b5, b6, b7, b8, b9, b10, b11, b12, b13, c14, c15, c16, c17, c18, c19, c20, c21, c22, c23, c24, c25, c26, c27, c28, hal_, hnd_, v29, c30, c31, c32, c33, c34, c35, c36, c37, c38, c39, hc, hf⟩ := hf
  refine m_li (va_runV (C := "CoinKeeper$Curve") (As := [.ref y2, .ref y1, .int y0]) (rest := []) ⟨hx, hb, hml, hown, hts⟩ (c_Cu_add l D cy ad fu y3 b1 b2 b3 b4 b5 b6 b7 y2 b8 b9 b10 y1 b11 b12 b13 c14 c15 c16 c17 c18 y0 c19 c20 c21 c22 c23 c24 c25 c26 c27 c28 _ hc H.size) ⟨q_cB hts gw_1153 gw_4 gw_1150 hds_62 ⟨Nat.le_of_ble_eq_true rfl, Nat.le_of_ble_eq_true rfl⟩, hts _ gw_1151, hts _ gw_1152⟩ (q_preV (q_pre (m_subP hP hal_) (m_subD hD hal_ hnd_) hK hSt hS (m_lF hD hS hA hal_) _) (va_recv hK (m_subP hP hal_) (ci := 3) (q0 := 0) rfl rfl)) rfl rfl hl.1 rfl (lv_room (Nat.le_of_ble_eq_true rfl)) d_Si_addUp_175 ⟨hkc, hks⟩) hP hD hS hA hal_ rfl (fun H locs hP hD hS => ?_)
  refine W.widen (k := κ) (n := σ) (Nat.le_refl _) (Nat.le_refl _) ?_
  obtain ⟨M40, eM_, hf⟩ := bnP hf
  have hP : va_P D classes (mw M40) H := by rw [eM_]; exact hP
  have hD : va_D A (mw M40) := by rw [eM_]; exact hD
  clear eM_ hal_ hnd_ hc
  refine lv_if_ne (tgt := 192) hx hb d_Si_addUp_178 (by decide) (fun cx => ?_) (fun cx => ?_)
  · have hf := ifnP cx hf
    exact wv_mSi_addUp_192 (fu := fu) F hk_86 hk_103 _ _ _ _ _ _ hf hkc hks _ _ _ hP hD hS (lv_sub hl [0, 1, 2] rfl)
  · have hf := ifpP cx hf
    refine lv_aload_n hx hb d_Si_addUp_181 rfl (lv_at hl 0 rfl) ?_
    obtain ⟨fs_, hm_, r41, hv_, hf⟩ := hf
    obtain ⟨ix_, hi_⟩ := m_ix hm_
    refine va_get (D := D) (ci := 10) (v := va_rf r41) (C := "CoinKeeper$Signatures") (T := F_10) (N := 13) hx hb hts i_10 hown hK hP ix_ hi_ rfl 0 (by decide) (hts _ gw_139) (fun _ h9 => h9) hv_ d_Si_addUp_182 ?_
    clear hv_ hi_ hm_
    obtain ⟨q42, rfl, hf⟩ := hf
    refine W.eq (g2 := F0 m 185 ls [.ref q42]) rfl ?_
    refine lv_aload_n hx hb d_Si_addUp_185 rfl (lv_at hl 0 rfl) ?_
    obtain ⟨fs_, hm_, r43, hv_, hf⟩ := hf
    obtain ⟨ix_, hi_⟩ := m_ix hm_
    refine va_get (D := D) (ci := 10) (v := va_rf r43) (C := "CoinKeeper$Signatures") (T := F_10) (N := 13) hx hb hts i_10 hown hK hP ix_ hi_ rfl 12 (by decide) (hts _ gw_151) (fun _ h9 => h9) hv_ d_Si_addUp_186 ?_
    clear hv_ hi_ hm_
    obtain ⟨q44, rfl, hf⟩ := hf
    refine W.eq (g2 := F0 m 189 ls [.ref q44, .ref q42]) rfl ?_
    obtain ⟨b45, b46, b47, b48, b49, b50, b51, b52, b53, b54, c55, c56, c57, c58, c59, c60, c61, c62, c63, hal_, hnd_, c64, c65, c66, c67, c68, c69, c70, c71, hc, hf⟩ := hf
    refine m_lv (va_runV (C := "CoinKeeper$Curve") (As := [.ref q44]) (rest := []) ⟨hx, hb, hml, hown, hts⟩ (c_Cu_makeTwice l D cy ad fu q42 b45 b46 b47 b48 b49 b50 b51 q44 b52 b53 b54 c55 c56 c57 c58 c59 c60 c61 c62 c63 _ hc H.size) ⟨q_cB hts gw_1145 gw_4 gw_1142 hds_63 ⟨Nat.le_of_ble_eq_true rfl, Nat.le_of_ble_eq_true rfl⟩, hts _ gw_1143, hts _ gw_1144⟩ (q_preV (q_pre (m_subP hP hal_) (m_subD hD hal_ hnd_) hK hSt hS (m_lF hD hS hA hal_) _) (va_recv hK (m_subP hP hal_) (ci := 3) (q0 := 0) rfl rfl)) rfl rfl hl.1 rfl (lv_room (Nat.le_of_ble_eq_true rfl)) d_Si_addUp_189 ⟨hkc, hks⟩) hP hD hS hA hal_ rfl (fun H locs hP hD hS => ?_)
    refine W.widen (k := κ) (n := σ) (Nat.le_refl _) (Nat.le_refl _) ?_
    obtain ⟨M72, eM_, hf⟩ := bnP hf
    have hP : va_P D classes (mw M72) H := by rw [eM_]; exact hP
    have hD : va_D A (mw M72) := by rw [eM_]; exact hD
    clear eM_ hal_ hnd_ hc
    exact wv_mSi_addUp_192 (fu := fu) F hk_86 hk_103 _ _ _ _ _ _ hf hkc hks _ _ _ hP hD hS (lv_sub hl [0, 1, 2] rfl)
set_option maxHeartbeats 8000000 in
set_option maxRecDepth 100000 in
theorem wv_mSi_addUp_143 {p : Program} {l : Launch} {e : Env} {s : State} {m : MethodId} {args : Array Value} {below : List Frame} {meth : Method} {c : Code} {D : va_G} {cy : Nat → ClassId} {A : Nat → Prop} {ad : Nat → Nat} {mi MC MS : Nat} {Φ : Mm → Prop} {fu : Nat} {k_86 : Nat → Nat → Mm → Nat → Int32 → Prop} {k_103 : Nat → Nat → Mm → Nat → Int32 → Int32 → Prop} (F : FxM p s m args meth c b_Si_addUp 5 "CoinKeeper$Signatures" "addUp" none D cy ad mi A) (hk_86 : Iw_mSi_addUp_86 p l e s m args below meth c D cy A ad mi MC MS Φ k_86) (hk_103 : Iw_mSi_addUp_103 p l e s m args below meth c D cy A ad mi MC MS Φ k_103) : Iw_mSi_addUp_143 p l e s m args below meth c D cy A ad mi MC MS Φ (xv_mSi_addUp_143 fu MC MS cy ad mi Φ k_86 k_103) := by
  obtain ⟨⟨hx, hb, hr, hml, hown, hts, hlocks, hK, hA, hSt, hnm, hex⟩, hT, hMi⟩ := id F
  intro κ σ M x0 x1 x2 x3 y0 hf hkc hks H locs ls hP hD hS hl
  unfold xv_mSi_addUp_143 at hf
  refine lv_astore (lv' := [(4, .ref y0), (0, .ref x0), (1, .int x1), (2, .int x2), (3, .int x3)]) hx hb d_Si_addUp_143 hl (by decide) rfl (fun ls hl => ?_)
  refine lv_iload_n hx hb d_Si_addUp_145 rfl (lv_at hl 4 rfl) ?_
  refine lv_if_eq (tgt := 192) hx hb d_Si_addUp_146 (by decide) (fun cx => ?_) (fun cx => ?_)
  · have hf := ifpP cx hf
    exact wv_mSi_addUp_192 (fu := fu) F hk_86 hk_103 _ _ _ _ _ _ hf hkc hks _ _ _ hP hD hS (lv_sub hl [1, 2, 3] rfl)
  · have hf := ifnP cx hf
    refine lv_aload_n hx hb d_Si_addUp_149 rfl (lv_at hl 1 rfl) ?_
    obtain ⟨fs_, hm_, r1, hv_, hf⟩ := hf
    obtain ⟨ix_, hi_⟩ := m_ix hm_
    refine va_get (D := D) (ci := 10) (v := va_rf r1) (C := "CoinKeeper$Signatures") (T := F_10) (N := 13) hx hb hts i_10 hown hK hP ix_ hi_ rfl 0 (by decide) (hts _ gw_139) (fun _ h9 => h9) hv_ d_Si_addUp_150 ?_
    clear hv_ hi_ hm_
    obtain ⟨q2, rfl, hf⟩ := hf
    refine W.eq (g2 := F0 m 153 ls [.ref q2]) rfl ?_
    refine lv_aload_n hx hb d_Si_addUp_153 rfl (lv_at hl 1 rfl) ?_
    obtain ⟨fs_, hm_, r3, hv_, hf⟩ := hf
    obtain ⟨ix_, hi_⟩ := m_ix hm_
    refine va_get (D := D) (ci := 10) (v := va_rf r3) (C := "CoinKeeper$Signatures") (T := F_10) (N := 13) hx hb hts i_10 hown hK hP ix_ hi_ rfl 12 (by decide) (hts _ gw_151) (fun _ h9 => h9) hv_ d_Si_addUp_154 ?_
    clear hv_ hi_ hm_
    obtain ⟨q4, rfl, hf⟩ := hf
    refine W.eq (g2 := F0 m 157 ls [.ref q4, .ref q2]) rfl ?_
    refine lv_aload hx hb d_Si_addUp_157 (lv_at hl 0 rfl) ?_
    refine lv_iload_n hx hb d_Si_addUp_159 rfl (lv_at hl 4 rfl) ?_
    refine va_mabs (R := rmw_mSi_addUp MC MS) (rest := [.ref y0, .ref q4, .ref q2]) hx hb (hml.trans hl.1.symm) hown (hts _ gw_1155) (hts _ gw_1156) (hts _ gw_15) (hts _ gw_1157) (Nat.le_of_ble_eq_true rfl) (Nat.le_of_ble_eq_true rfl) hkc hks d_Si_addUp_160 ?_
    refine lv_topi (fun v5 ev => ?_)
    have hf := bnQ ev hf
    clear ev
    refine lv_iconst (v := 1) hx hb d_Si_addUp_163 (by decide) ?_
    refine lv_ishr hx hb d_Si_addUp_164 ?_
    refine lv_topi (fun v6 ev => ?_)
    have hf := bnQ ev hf
    clear ev
    obtain ⟨n_, f_, hm_, hin_, hf⟩ := hf
    obtain ⟨ix_, hi_⟩ := m_ix hm_
    refine va_aldq hx hb hK hP ix_ 4 hi_ rfl (inb_in hin_) d_Si_addUp_165 ?_
    obtain ⟨r7, ev⟩ : ∃ z, z = f_ v6.toNatClampNeg := ⟨_, rfl⟩
    first | rw [← ev] at hf ⊢ | rw [← ev]
    clear ev hi_ hm_ hin_
    obtain ⟨q8, rfl, hf⟩ := hf
    refine W.eq (g2 := F0 m 166 ls [.ref q8, .ref q4, .ref q2]) rfl ?_
    refine lv_iload_n hx hb d_Si_addUp_166 rfl (lv_at hl 4 rfl) ?_
    refine lv_if_ge (tgt := 174) hx hb d_Si_addUp_167 (by decide) (fun cx => ?_) (fun cx => ?_)
    · have hf := ifpP cx hf
      refine lv_iconst (v := 0) hx hb d_Si_addUp_174 (by decide) ?_
      exact wv_mSi_addUp_175 (fu := fu) F hk_86 hk_103 _ _ _ _ _ _ _ _ _ _ hf hkc hks _ _ _ hP hD hS (lv_sub hl [1, 2, 3] rfl)
    · have hf := ifnP cx hf
      refine lv_iconst (v := 1) hx hb d_Si_addUp_170 (by decide) ?_
      refine lv_goto (tgt := 175) hx hb d_Si_addUp_171 (by decide) ?_
      exact wv_mSi_addUp_175 (fu := fu) F hk_86 hk_103 _ _ _ _ _ _ _ _ _ _ hf hkc hks _ _ _ hP hD hS (lv_sub hl [1, 2, 3] rfl)
set_option maxHeartbeats 8000000 in
set_option maxRecDepth 100000 in
theorem wv_mSi_addUp_127 {p : Program} {l : Launch} {e : Env} {s : State} {m : MethodId} {args : Array Value} {below : List Frame} {meth : Method} {c : Code} {D : va_G} {cy : Nat → ClassId} {A : Nat → Prop} {ad : Nat → Nat} {mi MC MS : Nat} {Φ : Mm → Prop} {fu : Nat} {k_86 : Nat → Nat → Mm → Nat → Int32 → Prop} {k_103 : Nat → Nat → Mm → Nat → Int32 → Int32 → Prop} (F : FxM p s m args meth c b_Si_addUp 5 "CoinKeeper$Signatures" "addUp" none D cy ad mi A) (hk_86 : Iw_mSi_addUp_86 p l e s m args below meth c D cy A ad mi MC MS Φ k_86) (hk_103 : Iw_mSi_addUp_103 p l e s m args below meth c D cy A ad mi MC MS Φ k_103) : Iw_mSi_addUp_127 p l e s m args below meth c D cy A ad mi MC MS Φ (xv_mSi_addUp_127 fu MC MS cy ad mi Φ k_86 k_103) := by
  obtain ⟨⟨hx, hb, hr, hml, hown, hts, hlocks, hK, hA, hSt, hnm, hex⟩, hT, hMi⟩ := id F
  intro κ σ M x0 x1 x2 y0 hf hkc hks H locs ls hP hD hS hl
  unfold xv_mSi_addUp_127 at hf
  refine lv_istore_n (lv' := [(3, .int y0), (0, .ref x0), (1, .int x1), (2, .int x2)]) hx hb d_Si_addUp_127 rfl hl (by decide) rfl (fun ls hl => ?_)
  refine lv_iload_n hx hb d_Si_addUp_128 rfl (lv_at hl 3 rfl) ?_
  refine lv_if_ne (tgt := 139) hx hb d_Si_addUp_129 (by decide) (fun cx => ?_) (fun cx => ?_)
  · have hf := ifnP cx hf
    refine lv_aload_n hx hb d_Si_addUp_139 rfl (lv_at hl 1 rfl) ?_
    obtain ⟨fs_, hm_, r1, hv_, hf⟩ := hf
    obtain ⟨ix_, hi_⟩ := m_ix hm_
    refine va_get (D := D) (ci := 10) (v := va_rf r1) (C := "CoinKeeper$Signatures") (T := F_10) (N := 13) hx hb hts i_10 hown hK hP ix_ hi_ rfl 10 (by decide) (hts _ gw_149) (fun _ h9 => h9) hv_ d_Si_addUp_140 ?_
    clear hv_ hi_ hm_
    obtain ⟨q2, rfl, hf⟩ := hf
    refine W.eq (g2 := F0 m 143 ls [.ref q2]) rfl ?_
    exact wv_mSi_addUp_143 (fu := fu) F hk_86 hk_103 _ _ _ _ _ _ _ _ hf hkc hks _ _ _ hP hD hS (lv_sub hl [1, 2, 3, 0] rfl)
  · have hf := ifpP cx hf
    refine lv_aload_n hx hb d_Si_addUp_132 rfl (lv_at hl 1 rfl) ?_
    obtain ⟨fs_, hm_, r3, hv_, hf⟩ := hf
    obtain ⟨ix_, hi_⟩ := m_ix hm_
    refine va_get (D := D) (ci := 10) (v := va_rf r3) (C := "CoinKeeper$Signatures") (T := F_10) (N := 13) hx hb hts i_10 hown hK hP ix_ hi_ rfl 9 (by decide) (hts _ gw_148) (fun _ h9 => h9) hv_ d_Si_addUp_133 ?_
    clear hv_ hi_ hm_
    obtain ⟨q4, rfl, hf⟩ := hf
    refine W.eq (g2 := F0 m 136 ls [.ref q4]) rfl ?_
    refine lv_goto (tgt := 143) hx hb d_Si_addUp_136 (by decide) ?_
    exact wv_mSi_addUp_143 (fu := fu) F hk_86 hk_103 _ _ _ _ _ _ _ _ hf hkc hks _ _ _ hP hD hS (lv_sub hl [1, 2, 3, 0] rfl)
set_option maxHeartbeats 8000000 in
set_option maxRecDepth 100000 in
theorem wv_mSi_addUp_103 {p : Program} {l : Launch} {e : Env} {s : State} {m : MethodId} {args : Array Value} {below : List Frame} {meth : Method} {c : Code} {D : va_G} {cy : Nat → ClassId} {A : Nat → Prop} {ad : Nat → Nat} {mi MC MS : Nat} {Φ : Mm → Prop} {fu : Nat} {k_86 : Nat → Nat → Mm → Nat → Int32 → Prop} {k_103 : Nat → Nat → Mm → Nat → Int32 → Int32 → Prop} (F : FxM p s m args meth c b_Si_addUp 5 "CoinKeeper$Signatures" "addUp" none D cy ad mi A) (hk_86 : Iw_mSi_addUp_86 p l e s m args below meth c D cy A ad mi MC MS Φ k_86) (hk_103 : Iw_mSi_addUp_103 p l e s m args below meth c D cy A ad mi MC MS Φ k_103) : Iw_mSi_addUp_103 p l e s m args below meth c D cy A ad mi MC MS Φ (xv_mSi_addUp_103 fu MC MS cy ad mi Φ k_86 k_103) := by
  obtain ⟨⟨hx, hb, hr, hml, hown, hts, hlocks, hK, hA, hSt, hnm, hex⟩, hT, hMi⟩ := id F
  intro κ σ M x0 x1 x2 hf hkc hks H locs ls hP hD hS hl
  unfold xv_mSi_addUp_103 at hf
  refine lv_iload_n hx hb d_Si_addUp_103 rfl (lv_at hl 2 rfl) ?_
  refine lv_iconst (v := 2) hx hb d_Si_addUp_104 (by decide) ?_
  refine lv_icmp_ge (tgt := 198) hx hb d_Si_addUp_105 (by decide) (fun cx => ?_) (fun cx => ?_)
  · have hf := ifpP cx hf
    obtain ⟨v1, ev, hf⟩ := bnP hf
    refine lv_iinc (v := v1) (lv' := [(1, .int v1), (0, .ref x0), (2, .int x2)]) hx hb d_Si_addUp_198 hl (k := 1) rfl (by rw [ev]; rfl) (by decide) rfl (fun ls hl => ?_)
    clear ev
    refine lv_goto (tgt := 86) hx hb d_Si_addUp_201 (by decide) ?_
    exact hk_86 _ _ _ _ _ hf hkc hks _ _ _ hP hD hS (lv_sub hl [1, 0] rfl)
  · have hf := ifnP cx hf
    refine lv_iload_n hx hb d_Si_addUp_108 rfl (lv_at hl 2 rfl) ?_
    refine lv_if_ne (tgt := 121) hx hb d_Si_addUp_109 (by decide) (fun cx => ?_) (fun cx => ?_)
    · have hf := ifnP cx hf
      refine lv_aload_n hx hb d_Si_addUp_121 rfl (lv_at hl 0 rfl) ?_
      obtain ⟨fs_, hm_, r2, hv_, hf⟩ := hf
      obtain ⟨ix_, hi_⟩ := m_ix hm_
      refine va_get (D := D) (ci := 10) (v := va_rf r2) (C := "CoinKeeper$Signatures") (T := F_10) (N := 13) hx hb hts i_10 hown hK hP ix_ hi_ rfl 8 (by decide) (hts _ gw_147) (fun _ h9 => h9) hv_ d_Si_addUp_122 ?_
      clear hv_ hi_ hm_
      obtain ⟨q3, rfl, hf⟩ := hf
      refine W.eq (g2 := F0 m 125 ls [.ref q3]) rfl ?_
      refine lv_iload_n hx hb d_Si_addUp_125 rfl (lv_at hl 1 rfl) ?_
      obtain ⟨n_, f_, hm_, hin_, hf⟩ := hf
      obtain ⟨ix_, hi_⟩ := m_ix hm_
      refine va_bald hx hb hK hP ix_ 0 hi_ rfl (inb_in hin_) d_Si_addUp_126 ?_
      obtain ⟨v4, ev⟩ : ∃ z, z = f_ x1.toNatClampNeg := ⟨_, rfl⟩
      first | rw [← ev] at hf ⊢ | rw [← ev]
      clear ev hi_ hm_ hin_
      exact wv_mSi_addUp_127 (fu := fu) F hk_86 hk_103 _ _ _ _ _ _ _ hf hkc hks _ _ _ hP hD hS (lv_sub hl [0, 1, 2] rfl)
    · have hf := ifpP cx hf
      refine lv_aload_n hx hb d_Si_addUp_112 rfl (lv_at hl 0 rfl) ?_
      obtain ⟨fs_, hm_, r5, hv_, hf⟩ := hf
      obtain ⟨ix_, hi_⟩ := m_ix hm_
      refine va_get (D := D) (ci := 10) (v := va_rf r5) (C := "CoinKeeper$Signatures") (T := F_10) (N := 13) hx hb hts i_10 hown hK hP ix_ hi_ rfl 7 (by decide) (hts _ gw_146) (fun _ h9 => h9) hv_ d_Si_addUp_113 ?_
      clear hv_ hi_ hm_
      obtain ⟨q6, rfl, hf⟩ := hf
      refine W.eq (g2 := F0 m 116 ls [.ref q6]) rfl ?_
      refine lv_iload_n hx hb d_Si_addUp_116 rfl (lv_at hl 1 rfl) ?_
      obtain ⟨n_, f_, hm_, hin_, hf⟩ := hf
      obtain ⟨ix_, hi_⟩ := m_ix hm_
      refine va_bald hx hb hK hP ix_ 0 hi_ rfl (inb_in hin_) d_Si_addUp_117 ?_
      obtain ⟨v7, ev⟩ : ∃ z, z = f_ x1.toNatClampNeg := ⟨_, rfl⟩
      first | rw [← ev] at hf ⊢ | rw [← ev]
      clear ev hi_ hm_ hin_
      refine lv_goto (tgt := 127) hx hb d_Si_addUp_118 (by decide) ?_
      exact wv_mSi_addUp_127 (fu := fu) F hk_86 hk_103 _ _ _ _ _ _ _ hf hkc hks _ _ _ hP hD hS (lv_sub hl [0, 1, 2] rfl)
theorem ww_mSi_addUp_103 {p : Program} {l : Launch} {e : Env} {s : State} {m : MethodId} {args : Array Value} {below : List Frame} {meth : Method} {c : Code} {D : va_G} {cy : Nat → ClassId} {A : Nat → Prop} {ad : Nat → Nat} {mi MC MS : Nat} {Φ : Mm → Prop} {fu : Nat} {k_86 : Nat → Nat → Mm → Nat → Int32 → Prop} (F : FxM p s m args meth c b_Si_addUp 5 "CoinKeeper$Signatures" "addUp" none D cy ad mi A) (hk_86 : Iw_mSi_addUp_86 p l e s m args below meth c D cy A ad mi MC MS Φ k_86) : ∀ n : Nat, Iw_mSi_addUp_103 p l e s m args below meth c D cy A ad mi MC MS Φ (xw_mSi_addUp_103 fu MC MS cy ad mi Φ k_86 n)
  | 0 => fun _ _ _ _ _ _ hf => False.elim hf
  | n + 1 => wv_mSi_addUp_103 F hk_86 (ww_mSi_addUp_103 F hk_86 n)
set_option maxHeartbeats 8000000 in
set_option maxRecDepth 100000 in
theorem wv_mSi_addUp_86 {p : Program} {l : Launch} {e : Env} {s : State} {m : MethodId} {args : Array Value} {below : List Frame} {meth : Method} {c : Code} {D : va_G} {cy : Nat → ClassId} {A : Nat → Prop} {ad : Nat → Nat} {mi MC MS : Nat} {Φ : Mm → Prop} {fu : Nat} {k_86 : Nat → Nat → Mm → Nat → Int32 → Prop} (F : FxM p s m args meth c b_Si_addUp 5 "CoinKeeper$Signatures" "addUp" none D cy ad mi A) (hk_86 : Iw_mSi_addUp_86 p l e s m args below meth c D cy A ad mi MC MS Φ k_86) : Iw_mSi_addUp_86 p l e s m args below meth c D cy A ad mi MC MS Φ (xv_mSi_addUp_86 fu MC MS cy ad mi Φ k_86) := by
  obtain ⟨⟨hx, hb, hr, hml, hown, hts, hlocks, hK, hA, hSt, hnm, hex⟩, hT, hMi⟩ := id F
  intro κ σ M x0 x1 hf hkc hks H locs ls hP hD hS hl
  unfold xv_mSi_addUp_86 at hf
  refine lv_iload_n hx hb d_Si_addUp_86 rfl (lv_at hl 1 rfl) ?_
  refine lv_if_lt (tgt := 204) hx hb d_Si_addUp_87 (by decide) (fun cx => ?_) (fun cx => ?_)
  · have hf := ifpP cx hf
    refine W.widen (k := MC) (n := MS) hkc hks ?_
    exact m_rv hf hx hb hr hlocks hK hP hD hS d_Si_addUp_204
  · have hf := ifnP cx hf
    refine lv_aload_n hx hb d_Si_addUp_90 rfl (lv_at hl 0 rfl) ?_
    obtain ⟨fs_, hm_, r1, hv_, hf⟩ := hf
    obtain ⟨ix_, hi_⟩ := m_ix hm_
    refine va_get (D := D) (ci := 10) (v := va_rf r1) (C := "CoinKeeper$Signatures") (T := F_10) (N := 13) hx hb hts i_10 hown hK hP ix_ hi_ rfl 0 (by decide) (hts _ gw_139) (fun _ h9 => h9) hv_ d_Si_addUp_91 ?_
    clear hv_ hi_ hm_
    obtain ⟨q2, rfl, hf⟩ := hf
    refine W.eq (g2 := F0 m 94 ls [.ref q2]) rfl ?_
    refine lv_aload_n hx hb d_Si_addUp_94 rfl (lv_at hl 0 rfl) ?_
    obtain ⟨fs_, hm_, r3, hv_, hf⟩ := hf
    obtain ⟨ix_, hi_⟩ := m_ix hm_
    refine va_get (D := D) (ci := 10) (v := va_rf r3) (C := "CoinKeeper$Signatures") (T := F_10) (N := 13) hx hb hts i_10 hown hK hP ix_ hi_ rfl 12 (by decide) (hts _ gw_151) (fun _ h9 => h9) hv_ d_Si_addUp_95 ?_
    clear hv_ hi_ hm_
    obtain ⟨q4, rfl, hf⟩ := hf
    refine W.eq (g2 := F0 m 98 ls [.ref q4, .ref q2]) rfl ?_
    obtain ⟨b5, b6, b7, b8, b9, b10, b11, b12, b13, b14, c15, c16, c17, c18, c19, c20, c21, c22, c23, hal_, hnd_, c24, c25, c26, c27, c28, c29, c30, c31, hc, hf⟩ := hf
    refine m_lv (va_runV (C := "CoinKeeper$Curve") (As := [.ref q4]) (rest := []) ⟨hx, hb, hml, hown, hts⟩ (c_Cu_makeTwice l D cy ad fu q2 b5 b6 b7 b8 b9 b10 b11 q4 b12 b13 b14 c15 c16 c17 c18 c19 c20 c21 c22 c23 _ hc H.size) ⟨q_cB hts gw_1145 gw_4 gw_1142 hds_63 ⟨Nat.le_of_ble_eq_true rfl, Nat.le_of_ble_eq_true rfl⟩, hts _ gw_1143, hts _ gw_1144⟩ (q_preV (q_pre (m_subP hP hal_) (m_subD hD hal_ hnd_) hK hSt hS (m_lF hD hS hA hal_) _) (va_recv hK (m_subP hP hal_) (ci := 3) (q0 := 0) rfl rfl)) rfl rfl hl.1 rfl (lv_room (Nat.le_of_ble_eq_true rfl)) d_Si_addUp_98 ⟨hkc, hks⟩) hP hD hS hA hal_ rfl (fun H locs hP hD hS => ?_)
    refine W.widen (k := κ) (n := σ) (Nat.le_refl _) (Nat.le_refl _) ?_
    obtain ⟨M32, eM_, hf⟩ := bnP hf
    have hP : va_P D classes (mw M32) H := by rw [eM_]; exact hP
    have hD : va_D A (mw M32) := by rw [eM_]; exact hD
    clear eM_ hal_ hnd_ hc
    refine lv_iconst (v := 0) hx hb d_Si_addUp_101 (by decide) ?_
    refine lv_istore_n (lv' := [(2, .int (0 : Int32)), (0, .ref x0), (1, .int x1)]) hx hb d_Si_addUp_102 rfl hl (by decide) rfl (fun ls hl => ?_)
    exact ww_mSi_addUp_103 F hk_86 fu _ _ _ _ _ _ hf hkc hks _ _ _ hP hD hS (lv_sub hl [1, 2, 0] rfl)
theorem ww_mSi_addUp_86 {p : Program} {l : Launch} {e : Env} {s : State} {m : MethodId} {args : Array Value} {below : List Frame} {meth : Method} {c : Code} {D : va_G} {cy : Nat → ClassId} {A : Nat → Prop} {ad : Nat → Nat} {mi MC MS : Nat} {Φ : Mm → Prop} {fu : Nat} (F : FxM p s m args meth c b_Si_addUp 5 "CoinKeeper$Signatures" "addUp" none D cy ad mi A) : ∀ n : Nat, Iw_mSi_addUp_86 p l e s m args below meth c D cy A ad mi MC MS Φ (xw_mSi_addUp_86 fu MC MS cy ad mi Φ n)
  | 0 => fun _ _ _ _ _ hf => False.elim hf
  | n + 1 => wv_mSi_addUp_86 F (ww_mSi_addUp_86 F n)
theorem hds_64 : ({ cls := "CoinKeeper$Point", name := "become", desc := "(LCoinKeeper$Point;)V" } : Jvm.MethodName).cls ≠ "java/lang/invoke/MethodHandle" ∧ ({ cls := "CoinKeeper$Point", name := "become", desc := "(LCoinKeeper$Point;)V" } : Jvm.MethodName).cls ≠ "java/lang/invoke/VarHandle" ∧ (parseMethodDescriptor ({ cls := "CoinKeeper$Point", name := "become", desc := "(LCoinKeeper$Point;)V" } : Jvm.MethodName).desc).map (fun d => d.parameters.length) = some 1 := by decide +kernel
set_option maxHeartbeats 8000000 in
set_option maxRecDepth 100000 in
theorem wv_mSi_addUp_26 {p : Program} {l : Launch} {e : Env} {s : State} {m : MethodId} {args : Array Value} {below : List Frame} {meth : Method} {c : Code} {D : va_G} {cy : Nat → ClassId} {A : Nat → Prop} {ad : Nat → Nat} {mi MC MS : Nat} {Φ : Mm → Prop} {fu : Nat} {k_26 : Nat → Nat → Mm → Nat → Int32 → Prop} (F : FxM p s m args meth c b_Si_addUp 5 "CoinKeeper$Signatures" "addUp" none D cy ad mi A) (hk_26 : Iw_mSi_addUp_26 p l e s m args below meth c D cy A ad mi MC MS Φ k_26) : Iw_mSi_addUp_26 p l e s m args below meth c D cy A ad mi MC MS Φ (xv_mSi_addUp_26 fu MC MS cy ad mi Φ k_26) := by
  obtain ⟨⟨hx, hb, hr, hml, hown, hts, hlocks, hK, hA, hSt, hnm, hex⟩, hT, hMi⟩ := id F
  intro κ σ M x0 x1 hf hkc hks H locs ls hP hD hS hl
  unfold xv_mSi_addUp_26 at hf
  refine lv_iload_n hx hb d_Si_addUp_26 rfl (lv_at hl 1 rfl) ?_
  refine lv_bipush (v := 8) hx hb d_Si_addUp_27 (by decide) ?_
  refine lv_icmp_ge (tgt := 74) hx hb d_Si_addUp_29 (by decide) (fun cx => ?_) (fun cx => ?_)
  · have hf := ifpP cx hf
    refine lv_aload_n hx hb d_Si_addUp_74 rfl (lv_at hl 0 rfl) ?_
    obtain ⟨fs_, hm_, r1, hv_, hf⟩ := hf
    obtain ⟨ix_, hi_⟩ := m_ix hm_
    refine va_get (D := D) (ci := 10) (v := va_rf r1) (C := "CoinKeeper$Signatures") (T := F_10) (N := 13) hx hb hts i_10 hown hK hP ix_ hi_ rfl 12 (by decide) (hts _ gw_151) (fun _ h9 => h9) hv_ d_Si_addUp_75 ?_
    clear hv_ hi_ hm_
    obtain ⟨q2, rfl, hf⟩ := hf
    refine W.eq (g2 := F0 m 78 ls [.ref q2]) rfl ?_
    refine lv_iconst (v := 1) hx hb d_Si_addUp_78 (by decide) ?_
    obtain ⟨fs_, hm_, hlen_, hf⟩ := hf
    obtain ⟨ix_, hi_⟩ := m_ix hm_
    have hE_ := m_set (y := .inr (7, fs_.set 3 (.int (1 : Int32)))) hD hi_
    refine va_put (D := D) (ci := 7) (v := .int (1 : Int32)) (ty := .boolean) (C := "CoinKeeper$Point") (T := F_7) (N := 5) hx hb hts i_7 t_7 t_7_ok n_7 hown hK hP hD hS ix_ hi_ rfl 3 (by decide) (hts _ gw_115) (fun _ h9 => h9) rfl (by decide +kernel) (isb_n (v := 1) (by decide)) (isb_f (v := 1) (by decide)) hlen_ d_Si_addUp_79 (fun H locs hP hD hS => ?_)
    obtain ⟨M3, eM_⟩ : ∃ z, z = mu M q2 (.inr (7, fs_.set 3 (.int (1 : Int32)))) := ⟨_, rfl⟩
    rw [← eM_] at hf hE_
    rw [hE_] at hP hD
    clear hE_ eM_ hi_ hm_
    refine lv_sipush (v := 256) hx hb d_Si_addUp_82 (by decide) ?_
    refine lv_istore_n (lv' := [(1, .int (256 : Int32)), (0, .ref x0)]) hx hb d_Si_addUp_85 rfl hl (by decide) rfl (fun ls hl => ?_)
    exact ww_mSi_addUp_86 F fu _ _ _ _ _ hf hkc hks _ _ _ hP hD hS (lv_sub hl [1, 0] rfl)
  · have hf := ifnP cx hf
    refine lv_aload_n hx hb d_Si_addUp_32 rfl (lv_at hl 0 rfl) ?_
    obtain ⟨fs_, hm_, r4, hv_, hf⟩ := hf
    obtain ⟨ix_, hi_⟩ := m_ix hm_
    refine va_get (D := D) (ci := 10) (v := va_rf r4) (C := "CoinKeeper$Signatures") (T := F_10) (N := 13) hx hb hts i_10 hown hK hP ix_ hi_ rfl 10 (by decide) (hts _ gw_149) (fun _ h9 => h9) hv_ d_Si_addUp_33 ?_
    clear hv_ hi_ hm_
    obtain ⟨q5, rfl, hf⟩ := hf
    refine W.eq (g2 := F0 m 36 ls [.ref q5]) rfl ?_
    refine lv_iload_n hx hb d_Si_addUp_36 rfl (lv_at hl 1 rfl) ?_
    obtain ⟨n_, f_, hm_, hin_, hf⟩ := hf
    obtain ⟨ix_, hi_⟩ := m_ix hm_
    refine va_aldq hx hb hK hP ix_ 4 hi_ rfl (inb_in hin_) d_Si_addUp_37 ?_
    obtain ⟨r6, ev⟩ : ∃ z, z = f_ x1.toNatClampNeg := ⟨_, rfl⟩
    first | rw [← ev] at hf ⊢ | rw [← ev]
    clear ev hi_ hm_ hin_
    obtain ⟨q7, rfl, hf⟩ := hf
    refine W.eq (g2 := F0 m 38 ls [.ref q7]) rfl ?_
    refine lv_aload_n hx hb d_Si_addUp_38 rfl (lv_at hl 0 rfl) ?_
    obtain ⟨fs_, hm_, r8, hv_, hf⟩ := hf
    obtain ⟨ix_, hi_⟩ := m_ix hm_
    refine va_get (D := D) (ci := 10) (v := va_rf r8) (C := "CoinKeeper$Signatures") (T := F_10) (N := 13) hx hb hts i_10 hown hK hP ix_ hi_ rfl 10 (by decide) (hts _ gw_149) (fun _ h9 => h9) hv_ d_Si_addUp_39 ?_
    clear hv_ hi_ hm_
    obtain ⟨q9, rfl, hf⟩ := hf
    refine W.eq (g2 := F0 m 42 ls [.ref q9, .ref q7]) rfl ?_
    refine lv_iload_n hx hb d_Si_addUp_42 rfl (lv_at hl 1 rfl) ?_
    refine lv_iconst (v := 1) hx hb d_Si_addUp_43 (by decide) ?_
    refine lv_isub hx hb d_Si_addUp_44 ?_
    refine lv_topi (fun v10 ev => ?_)
    have hf := bnQ ev hf
    clear ev
    obtain ⟨n_, f_, hm_, hin_, hf⟩ := hf
    obtain ⟨ix_, hi_⟩ := m_ix hm_
    refine va_aldq hx hb hK hP ix_ 4 hi_ rfl (inb_in hin_) d_Si_addUp_45 ?_
    obtain ⟨r11, ev⟩ : ∃ z, z = f_ v10.toNatClampNeg := ⟨_, rfl⟩
    first | rw [← ev] at hf ⊢ | rw [← ev]
    clear ev hi_ hm_ hin_
    obtain ⟨q12, rfl, hf⟩ := hf
    refine W.eq (g2 := F0 m 46 ls [.ref q12, .ref q7]) rfl ?_
    obtain ⟨b13, b14, b15, b16, b17, b18, c19, c20, c21, c22, c23, c24, c25, c26, c27, c28, hal_, hnd_, c29, c30, c31, c32, c33, hc, hf⟩ := hf
    refine m_lv (va_runV (C := "CoinKeeper$Point") (As := [.ref q12]) (rest := []) ⟨hx, hb, hml, hown, hts⟩ (c_Po_become l D cy ad fu q7 b13 b14 b15 q12 b16 b17 b18 c19 c20 c21 c22 c23 c24 c25 c26 c27 c28 _ hc H.size) ⟨q_cB hts gw_1140 gw_5 gw_1137 hds_64 ⟨Nat.le_of_ble_eq_true rfl, Nat.le_of_ble_eq_true rfl⟩, hts _ gw_1138, hts _ gw_1139⟩ (q_preV (q_pre (m_subP hP hal_) (m_subD hD hal_ hnd_) hK hSt hS (m_lF hD hS hA hal_) _) (va_recv hK (m_subP hP hal_) (ci := 7) (q0 := 0) rfl rfl)) rfl rfl hl.1 rfl (lv_room (Nat.le_of_ble_eq_true rfl)) d_Si_addUp_46 ⟨hkc, hks⟩) hP hD hS hA hal_ rfl (fun H locs hP hD hS => ?_)
    refine W.widen (k := κ) (n := σ) (Nat.le_refl _) (Nat.le_refl _) ?_
    obtain ⟨M34, eM_, hf⟩ := bnP hf
    have hP : va_P D classes (mw M34) H := by rw [eM_]; exact hP
    have hD : va_D A (mw M34) := by rw [eM_]; exact hD
    clear eM_ hal_ hnd_ hc
    refine lv_aload_n hx hb d_Si_addUp_49 rfl (lv_at hl 0 rfl) ?_
    obtain ⟨fs_, hm_, r35, hv_, hf⟩ := hf
    obtain ⟨ix_, hi_⟩ := m_ix hm_
    refine va_get (D := D) (ci := 10) (v := va_rf r35) (C := "CoinKeeper$Signatures") (T := F_10) (N := 13) hx hb hts i_10 hown hK hP ix_ hi_ rfl 0 (by decide) (hts _ gw_139) (fun _ h9 => h9) hv_ d_Si_addUp_50 ?_
    clear hv_ hi_ hm_
    obtain ⟨q36, rfl, hf⟩ := hf
    refine W.eq (g2 := F0 m 53 ls [.ref q36]) rfl ?_
    refine lv_aload_n hx hb d_Si_addUp_53 rfl (lv_at hl 0 rfl) ?_
    obtain ⟨fs_, hm_, r37, hv_, hf⟩ := hf
    obtain ⟨ix_, hi_⟩ := m_ix hm_
    refine va_get (D := D) (ci := 10) (v := va_rf r37) (C := "CoinKeeper$Signatures") (T := F_10) (N := 13) hx hb hts i_10 hown hK hP ix_ hi_ rfl 10 (by decide) (hts _ gw_149) (fun _ h9 => h9) hv_ d_Si_addUp_54 ?_
    clear hv_ hi_ hm_
    obtain ⟨q38, rfl, hf⟩ := hf
    refine W.eq (g2 := F0 m 57 ls [.ref q38, .ref q36]) rfl ?_
    refine lv_iload_n hx hb d_Si_addUp_57 rfl (lv_at hl 1 rfl) ?_
    obtain ⟨n_, f_, hm_, hin_, hf⟩ := hf
    obtain ⟨ix_, hi_⟩ := m_ix hm_
    refine va_aldq hx hb hK hP ix_ 4 hi_ rfl (inb_in hin_) d_Si_addUp_58 ?_
    obtain ⟨r39, ev⟩ : ∃ z, z = f_ x1.toNatClampNeg := ⟨_, rfl⟩
    first | rw [← ev] at hf ⊢ | rw [← ev]
    clear ev hi_ hm_ hin_
    obtain ⟨q40, rfl, hf⟩ := hf
    refine W.eq (g2 := F0 m 59 ls [.ref q40, .ref q36]) rfl ?_
    refine lv_aload_n hx hb d_Si_addUp_59 rfl (lv_at hl 0 rfl) ?_
    obtain ⟨fs_, hm_, r41, hv_, hf⟩ := hf
    obtain ⟨ix_, hi_⟩ := m_ix hm_
    refine va_get (D := D) (ci := 10) (v := va_rf r41) (C := "CoinKeeper$Signatures") (T := F_10) (N := 13) hx hb hts i_10 hown hK hP ix_ hi_ rfl 11 (by decide) (hts _ gw_150) (fun _ h9 => h9) hv_ d_Si_addUp_60 ?_
    clear hv_ hi_ hm_
    obtain ⟨q42, rfl, hf⟩ := hf
    refine W.eq (g2 := F0 m 63 ls [.ref q42, .ref q40, .ref q36]) rfl ?_
    refine lv_iconst (v := 0) hx hb d_Si_addUp_63 (by decide) ?_
    obtain ⟨b43, b44, b45, b46, b47, b48, b49, b50, b51, b52, b53, b54, b55, c56, c57, c58, c59, c60, c61, c62, c63, c64, c65, c66, c67, c68, c69, c70, hal_, hnd_, v71, c72, c73, c74, c75, c76, c77, c78, c79, c80, c81, hc, hf⟩ := hf
    refine m_li (va_runV (C := "CoinKeeper$Curve") (As := [.ref q40, .ref q42, .int (0 : Int32)]) (rest := []) ⟨hx, hb, hml, hown, hts⟩ (c_Cu_add l D cy ad fu q36 b43 b44 b45 b46 b47 b48 b49 q40 b50 b51 b52 q42 b53 b54 b55 c56 c57 c58 c59 c60 (0 : Int32) c61 c62 c63 c64 c65 c66 c67 c68 c69 c70 _ hc H.size) ⟨q_cB hts gw_1153 gw_4 gw_1150 hds_62 ⟨Nat.le_of_ble_eq_true rfl, Nat.le_of_ble_eq_true rfl⟩, hts _ gw_1151, hts _ gw_1152⟩ (q_preV (q_pre (m_subP hP hal_) (m_subD hD hal_ hnd_) hK hSt hS (m_lF hD hS hA hal_) _) (va_recv hK (m_subP hP hal_) (ci := 3) (q0 := 0) rfl rfl)) rfl rfl hl.1 rfl (lv_room (Nat.le_of_ble_eq_true rfl)) d_Si_addUp_64 ⟨hkc, hks⟩) hP hD hS hA hal_ rfl (fun H locs hP hD hS => ?_)
    refine W.widen (k := κ) (n := σ) (Nat.le_refl _) (Nat.le_refl _) ?_
    obtain ⟨M82, eM_, hf⟩ := bnP hf
    have hP : va_P D classes (mw M82) H := by rw [eM_]; exact hP
    have hD : va_D A (mw M82) := by rw [eM_]; exact hD
    clear eM_ hal_ hnd_ hc
    refine lv_pop hx hb d_Si_addUp_67 rfl ?_
    obtain ⟨v83, ev, hf⟩ := bnP hf
    refine lv_iinc (v := v83) (lv' := [(1, .int v83), (0, .ref x0)]) hx hb d_Si_addUp_68 hl (k := 1) rfl (by rw [ev]; rfl) (by decide) rfl (fun ls hl => ?_)
    clear ev
    refine lv_goto (tgt := 26) hx hb d_Si_addUp_71 (by decide) ?_
    exact hk_26 _ _ _ _ _ hf hkc hks _ _ _ hP hD hS (lv_sub hl [1, 0] rfl)
theorem ww_mSi_addUp_26 {p : Program} {l : Launch} {e : Env} {s : State} {m : MethodId} {args : Array Value} {below : List Frame} {meth : Method} {c : Code} {D : va_G} {cy : Nat → ClassId} {A : Nat → Prop} {ad : Nat → Nat} {mi MC MS : Nat} {Φ : Mm → Prop} {fu : Nat} (F : FxM p s m args meth c b_Si_addUp 5 "CoinKeeper$Signatures" "addUp" none D cy ad mi A) : ∀ n : Nat, Iw_mSi_addUp_26 p l e s m args below meth c D cy A ad mi MC MS Φ (xw_mSi_addUp_26 fu MC MS cy ad mi Φ n)
  | 0 => fun _ _ _ _ _ hf => False.elim hf
  | n + 1 => wv_mSi_addUp_26 F (ww_mSi_addUp_26 F n)
set_option maxHeartbeats 8000000 in
set_option maxRecDepth 100000 in
theorem wew_mSi_addUp {p : Program} {l : Launch} {e : Env} {s : State} {m : MethodId} {args : Array Value} {below : List Frame} {meth : Method} {c : Code} {D : va_G} {cy : Nat → ClassId} {A : Nat → Prop} {ad : Nat → Nat} {mi MC MS : Nat} {Φ : Mm → Prop} {fu : Nat} (F : FxM p s m args meth c b_Si_addUp 5 "CoinKeeper$Signatures" "addUp" none D cy ad mi A) : Iw_mSi_addUp_e p l e s m args below meth c D cy A ad mi MC MS Φ (xw_mSi_addUp fu MC MS cy ad mi Φ) := by
  obtain ⟨⟨hx, hb, hr, hml, hown, hts, hlocks, hK, hA, hSt, hnm, hex⟩, hT, hMi⟩ := id F
  intro κ σ M a0 hf hkc hks H locs ls hP hD hS hl
  unfold xw_mSi_addUp at hf
  refine lv_aload_n hx hb d_Si_addUp_0 rfl (lv_at hl 0 rfl) ?_
  obtain ⟨fs_, hm_, r1, hv_, hf⟩ := hf
  obtain ⟨ix_, hi_⟩ := m_ix hm_
  refine va_get (D := D) (ci := 10) (v := va_rf r1) (C := "CoinKeeper$Signatures") (T := F_10) (N := 13) hx hb hts i_10 hown hK hP ix_ hi_ rfl 11 (by decide) (hts _ gw_150) (fun _ h9 => h9) hv_ d_Si_addUp_1 ?_
  clear hv_ hi_ hm_
  obtain ⟨q2, rfl, hf⟩ := hf
  refine W.eq (g2 := F0 m 4 ls [.ref q2]) rfl ?_
  refine lv_aload_n hx hb d_Si_addUp_4 rfl (lv_at hl 0 rfl) ?_
  obtain ⟨fs_, hm_, r3, hv_, hf⟩ := hf
  obtain ⟨ix_, hi_⟩ := m_ix hm_
  refine va_get (D := D) (ci := 10) (v := va_rf r3) (C := "CoinKeeper$Signatures") (T := F_10) (N := 13) hx hb hts i_10 hown hK hP ix_ hi_ rfl 10 (by decide) (hts _ gw_149) (fun _ h9 => h9) hv_ d_Si_addUp_5 ?_
  clear hv_ hi_ hm_
  obtain ⟨q4, rfl, hf⟩ := hf
  refine W.eq (g2 := F0 m 8 ls [.ref q4, .ref q2]) rfl ?_
  refine lv_iconst (v := 0) hx hb d_Si_addUp_8 (by decide) ?_
  obtain ⟨n_, f_, hm_, hin_, hf⟩ := hf
  obtain ⟨ix_, hi_⟩ := m_ix hm_
  refine va_aldq hx hb hK hP ix_ 4 hi_ rfl (inb_in hin_) d_Si_addUp_9 ?_
  obtain ⟨r5, ev⟩ : ∃ z, z = f_ (0 : Int32).toNatClampNeg := ⟨_, rfl⟩
  first | rw [← ev] at hf ⊢ | rw [← ev]
  clear ev hi_ hm_ hin_
  obtain ⟨q6, rfl, hf⟩ := hf
  refine W.eq (g2 := F0 m 10 ls [.ref q6, .ref q2]) rfl ?_
  obtain ⟨b7, b8, b9, b10, b11, b12, c13, c14, c15, c16, c17, c18, c19, c20, c21, c22, hal_, hnd_, c23, c24, c25, c26, c27, hc, hf⟩ := hf
  refine m_lv (va_runV (C := "CoinKeeper$Point") (As := [.ref q6]) (rest := []) ⟨hx, hb, hml, hown, hts⟩ (c_Po_become l D cy ad fu q2 b7 b8 b9 q6 b10 b11 b12 c13 c14 c15 c16 c17 c18 c19 c20 c21 c22 _ hc H.size) ⟨q_cB hts gw_1140 gw_5 gw_1137 hds_64 ⟨Nat.le_of_ble_eq_true rfl, Nat.le_of_ble_eq_true rfl⟩, hts _ gw_1138, hts _ gw_1139⟩ (q_preV (q_pre (m_subP hP hal_) (m_subD hD hal_ hnd_) hK hSt hS (m_lF hD hS hA hal_) _) (va_recv hK (m_subP hP hal_) (ci := 7) (q0 := 0) rfl rfl)) rfl rfl hl.1 rfl (lv_room (Nat.le_of_ble_eq_true rfl)) d_Si_addUp_10 ⟨hkc, hks⟩) hP hD hS hA hal_ rfl (fun H locs hP hD hS => ?_)
  refine W.widen (k := κ) (n := σ) (Nat.le_refl _) (Nat.le_refl _) ?_
  obtain ⟨M28, eM_, hf⟩ := bnP hf
  have hP : va_P D classes (mw M28) H := by rw [eM_]; exact hP
  have hD : va_D A (mw M28) := by rw [eM_]; exact hD
  clear eM_ hal_ hnd_ hc
  refine lv_aload_n hx hb d_Si_addUp_13 rfl (lv_at hl 0 rfl) ?_
  obtain ⟨fs_, hm_, r29, hv_, hf⟩ := hf
  obtain ⟨ix_, hi_⟩ := m_ix hm_
  refine va_get (D := D) (ci := 10) (v := va_rf r29) (C := "CoinKeeper$Signatures") (T := F_10) (N := 13) hx hb hts i_10 hown hK hP ix_ hi_ rfl 0 (by decide) (hts _ gw_139) (fun _ h9 => h9) hv_ d_Si_addUp_14 ?_
  clear hv_ hi_ hm_
  obtain ⟨q30, rfl, hf⟩ := hf
  refine W.eq (g2 := F0 m 17 ls [.ref q30]) rfl ?_
  refine lv_aload_n hx hb d_Si_addUp_17 rfl (lv_at hl 0 rfl) ?_
  obtain ⟨fs_, hm_, r31, hv_, hf⟩ := hf
  obtain ⟨ix_, hi_⟩ := m_ix hm_
  refine va_get (D := D) (ci := 10) (v := va_rf r31) (C := "CoinKeeper$Signatures") (T := F_10) (N := 13) hx hb hts i_10 hown hK hP ix_ hi_ rfl 11 (by decide) (hts _ gw_150) (fun _ h9 => h9) hv_ d_Si_addUp_18 ?_
  clear hv_ hi_ hm_
  obtain ⟨q32, rfl, hf⟩ := hf
  refine W.eq (g2 := F0 m 21 ls [.ref q32, .ref q30]) rfl ?_
  obtain ⟨b33, b34, b35, b36, b37, b38, b39, b40, b41, b42, c43, c44, c45, c46, c47, c48, c49, c50, c51, hal_, hnd_, c52, c53, c54, c55, c56, c57, c58, c59, hc, hf⟩ := hf
  refine m_lv (va_runV (C := "CoinKeeper$Curve") (As := [.ref q32]) (rest := []) ⟨hx, hb, hml, hown, hts⟩ (c_Cu_makeTwice l D cy ad fu q30 b33 b34 b35 b36 b37 b38 b39 q32 b40 b41 b42 c43 c44 c45 c46 c47 c48 c49 c50 c51 _ hc H.size) ⟨q_cB hts gw_1145 gw_4 gw_1142 hds_63 ⟨Nat.le_of_ble_eq_true rfl, Nat.le_of_ble_eq_true rfl⟩, hts _ gw_1143, hts _ gw_1144⟩ (q_preV (q_pre (m_subP hP hal_) (m_subD hD hal_ hnd_) hK hSt hS (m_lF hD hS hA hal_) _) (va_recv hK (m_subP hP hal_) (ci := 3) (q0 := 0) rfl rfl)) rfl rfl hl.1 rfl (lv_room (Nat.le_of_ble_eq_true rfl)) d_Si_addUp_21 ⟨hkc, hks⟩) hP hD hS hA hal_ rfl (fun H locs hP hD hS => ?_)
  refine W.widen (k := κ) (n := σ) (Nat.le_refl _) (Nat.le_refl _) ?_
  obtain ⟨M60, eM_, hf⟩ := bnP hf
  have hP : va_P D classes (mw M60) H := by rw [eM_]; exact hP
  have hD : va_D A (mw M60) := by rw [eM_]; exact hD
  clear eM_ hal_ hnd_ hc
  refine lv_iconst (v := 1) hx hb d_Si_addUp_24 (by decide) ?_
  refine lv_istore_n (lv' := [(1, .int (1 : Int32)), (0, .ref a0)]) hx hb d_Si_addUp_25 rfl hl (by decide) rfl (fun ls hl => ?_)
  exact ww_mSi_addUp_26 F fu _ _ _ _ _ hf hkc hks _ _ _ hP hD hS (lv_sub hl [1, 0] rfl)
theorem cw_mSi_addUp (l : Launch) (D : va_G) (cy : Nat → ClassId) (ad : Nat → Nat) (mi fu MC MS : Nat) (a0 : Nat) (M : Mm) (Φ : Mm → Prop) (hf : xw_mSi_addUp fu MC MS cy ad mi Φ 0 0 M a0) (sz : Nat) : Met l ({ cls := "CoinKeeper$Signatures", name := "addUp", desc := "()V" } : Jvm.MethodName) (.code ({ cls := "CoinKeeper$Signatures", name := "addUp", desc := "()V" } : Jvm.MethodName) b_Si_addUp 5 none :: gw) (rmw_mSi_addUp MC MS) (va_Pc [.ref a0] (PrM D cy ad mi (mw M) sz)) (va_Qv Φ (fun u t => Po D cy (va_A (mw M) sz) (mw u) t) (va_A (mw M) sz)) MC MS (va_A (mw M) sz) :=
  q_metM (Qc := fun A => va_Qv Φ (fun u t => Po D cy A (mw u) t) A) (by decide) rfl rfl (Nat.le_of_ble_eq_true rfl) (fun p e s m below meth c ls F hP hD hS hl => wew_mSi_addUp (fu := fu) F 0 0 M a0 hf (Nat.zero_le _) (Nat.zero_le _) _ _ _ hP hD hS hl) sz
abbrev b_Si_sumIsRight : ByteArray := prog_12_method_9_code
theorem d_Si_sumIsRight_0 : decode b_Si_sumIsRight 0 = .ok (.aload_n 0, 1) := by decide +kernel
theorem d_Si_sumIsRight_1 : decode b_Si_sumIsRight 1 = .ok (.getfield 60, 3) := by decide +kernel
theorem d_Si_sumIsRight_4 : decode b_Si_sumIsRight 4 = .ok (.getfield 146, 3) := by decide +kernel
theorem d_Si_sumIsRight_7 : decode b_Si_sumIsRight 7 = .ok (.ifCond .eq 5, 3) := by decide +kernel
theorem d_Si_sumIsRight_10 : decode b_Si_sumIsRight 10 = .ok (.iconst 0, 1) := by decide +kernel
theorem d_Si_sumIsRight_11 : decode b_Si_sumIsRight 11 = .ok (.ireturn, 1) := by decide +kernel
theorem d_Si_sumIsRight_12 : decode b_Si_sumIsRight 12 = .ok (.aload_n 0, 1) := by decide +kernel
theorem d_Si_sumIsRight_13 : decode b_Si_sumIsRight 13 = .ok (.getfield 10, 3) := by decide +kernel
theorem d_Si_sumIsRight_16 : decode b_Si_sumIsRight 16 = .ok (.aload_n 0, 1) := by decide +kernel
theorem d_Si_sumIsRight_17 : decode b_Si_sumIsRight 17 = .ok (.getfield 60, 3) := by decide +kernel
theorem d_Si_sumIsRight_20 : decode b_Si_sumIsRight 20 = .ok (.aload_n 0, 1) := by decide +kernel
theorem d_Si_sumIsRight_21 : decode b_Si_sumIsRight 21 = .ok (.getfield 18, 3) := by decide +kernel
theorem d_Si_sumIsRight_24 : decode b_Si_sumIsRight 24 = .ok (.invokevirtual 156, 3) := by decide +kernel
theorem d_Si_sumIsRight_27 : decode b_Si_sumIsRight 27 = .ok (.ifCond .eq 5, 3) := by decide +kernel
theorem d_Si_sumIsRight_30 : decode b_Si_sumIsRight 30 = .ok (.iconst 1, 1) := by decide +kernel
theorem d_Si_sumIsRight_31 : decode b_Si_sumIsRight 31 = .ok (.ireturn, 1) := by decide +kernel
theorem d_Si_sumIsRight_32 : decode b_Si_sumIsRight 32 = .ok (.aload_n 0, 1) := by decide +kernel
theorem d_Si_sumIsRight_33 : decode b_Si_sumIsRight 33 = .ok (.getfield 18, 3) := by decide +kernel
theorem d_Si_sumIsRight_36 : decode b_Si_sumIsRight 36 = .ok (.getstatic 83, 3) := by decide +kernel
theorem d_Si_sumIsRight_39 : decode b_Si_sumIsRight 39 = .ok (.invokestatic 160, 3) := by decide +kernel
theorem d_Si_sumIsRight_42 : decode b_Si_sumIsRight 42 = .ok (.aload_n 0, 1) := by decide +kernel
theorem d_Si_sumIsRight_43 : decode b_Si_sumIsRight 43 = .ok (.getfield 18, 3) := by decide +kernel
theorem d_Si_sumIsRight_46 : decode b_Si_sumIsRight 46 = .ok (.getstatic 162, 3) := by decide +kernel
theorem d_Si_sumIsRight_49 : decode b_Si_sumIsRight 49 = .ok (.invokestatic 86, 3) := by decide +kernel
theorem d_Si_sumIsRight_52 : decode b_Si_sumIsRight 52 = .ok (.ifCond .ge 25, 3) := by decide +kernel
theorem d_Si_sumIsRight_55 : decode b_Si_sumIsRight 55 = .ok (.aload_n 0, 1) := by decide +kernel
theorem d_Si_sumIsRight_56 : decode b_Si_sumIsRight 56 = .ok (.getfield 10, 3) := by decide +kernel
theorem d_Si_sumIsRight_59 : decode b_Si_sumIsRight 59 = .ok (.aload_n 0, 1) := by decide +kernel
theorem d_Si_sumIsRight_60 : decode b_Si_sumIsRight 60 = .ok (.getfield 60, 3) := by decide +kernel
theorem d_Si_sumIsRight_63 : decode b_Si_sumIsRight 63 = .ok (.aload_n 0, 1) := by decide +kernel
theorem d_Si_sumIsRight_64 : decode b_Si_sumIsRight 64 = .ok (.getfield 18, 3) := by decide +kernel
theorem d_Si_sumIsRight_67 : decode b_Si_sumIsRight 67 = .ok (.invokevirtual 156, 3) := by decide +kernel
theorem d_Si_sumIsRight_70 : decode b_Si_sumIsRight 70 = .ok (.ifCond .eq 7, 3) := by decide +kernel
theorem d_Si_sumIsRight_73 : decode b_Si_sumIsRight 73 = .ok (.iconst 1, 1) := by decide +kernel
theorem d_Si_sumIsRight_74 : decode b_Si_sumIsRight 74 = .ok (.goto 4, 3) := by decide +kernel
theorem d_Si_sumIsRight_77 : decode b_Si_sumIsRight 77 = .ok (.iconst 0, 1) := by decide +kernel
theorem d_Si_sumIsRight_78 : decode b_Si_sumIsRight 78 = .ok (.ireturn, 1) := by decide +kernel
abbrev rmw_mSi_sumIsRight (MC MS : Nat) : Room := { frames := 2, cells := MC, slots := MS, locals := 107 }
def Iw_mSi_sumIsRight_e (p : Program) (l : Launch) (e : Env) (s : State) (m : MethodId) (args : Array Value) (below : List Frame) (meth : Method) (c : Code) (D : va_G) (cy : Nat → ClassId) (A : Nat → Prop) (ad : Nat → Nat) (mi MC MS : Nat) (Φ : Int32 → Mm → Prop) (k : Nat → Nat → Mm → Nat → Prop) : Prop :=
  ∀ (κ σ : Nat) (M : Mm) (a0 : Nat), k κ σ M a0 → κ ≤ MC → σ ≤ MS → ∀ (H : Heap) (locs : List Loc) (ls : Array Slot), va_P D classes (mw M) H → va_D A (mw M) → va_S A s.heap H locs → lv_has ls 1 [(0, .ref a0)] → W p l e (rmw_mSi_sumIsRight MC MS) s m args below meth c H locs κ σ (MQ below (va_Qi Φ (fun u t => Po D cy A (mw u) t) A) args s MC MS A) (F0 m 0 ls [])
theorem hds_65 : ({ cls := "CoinKeeper$Curve", name := "hasX", desc := "(LCoinKeeper$Point;[J)Z" } : Jvm.MethodName).cls ≠ "java/lang/invoke/MethodHandle" ∧ ({ cls := "CoinKeeper$Curve", name := "hasX", desc := "(LCoinKeeper$Point;[J)Z" } : Jvm.MethodName).cls ≠ "java/lang/invoke/VarHandle" ∧ (parseMethodDescriptor ({ cls := "CoinKeeper$Curve", name := "hasX", desc := "(LCoinKeeper$Point;[J)Z" } : Jvm.MethodName).desc).map (fun d => d.parameters.length) = some 2 := by decide +kernel
theorem hds_66 : ({ cls := "CoinKeeper$Scalar", name := "add", desc := "([J[J)V" } : Jvm.MethodName).cls ≠ "java/lang/invoke/MethodHandle" ∧ ({ cls := "CoinKeeper$Scalar", name := "add", desc := "([J[J)V" } : Jvm.MethodName).cls ≠ "java/lang/invoke/VarHandle" ∧ (parseMethodDescriptor ({ cls := "CoinKeeper$Scalar", name := "add", desc := "([J[J)V" } : Jvm.MethodName).desc).map (fun d => d.parameters.length) = some 2 := by decide +kernel
set_option maxHeartbeats 8000000 in
set_option maxRecDepth 100000 in
theorem wew_mSi_sumIsRight {p : Program} {l : Launch} {e : Env} {s : State} {m : MethodId} {args : Array Value} {below : List Frame} {meth : Method} {c : Code} {D : va_G} {cy : Nat → ClassId} {A : Nat → Prop} {ad : Nat → Nat} {mi MC MS : Nat} {Φ : Int32 → Mm → Prop} {fu : Nat} (F : FxM p s m args meth c b_Si_sumIsRight 1 "CoinKeeper$Signatures" "sumIsRight" (some .boolean) D cy ad mi A) : Iw_mSi_sumIsRight_e p l e s m args below meth c D cy A ad mi MC MS Φ (xw_mSi_sumIsRight fu MC MS cy ad mi Φ) := by
  obtain ⟨⟨hx, hb, hr, hml, hown, hts, hlocks, hK, hA, hSt, hnm, hex⟩, hT, hMi⟩ := id F
  intro κ σ M a0 hf hkc hks H locs ls hP hD hS hl
  unfold xw_mSi_sumIsRight at hf
  refine lv_aload_n hx hb d_Si_sumIsRight_0 rfl (lv_at hl 0 rfl) ?_
  obtain ⟨fs_, hm_, r1, hv_, hf⟩ := hf
  obtain ⟨ix_, hi_⟩ := m_ix hm_
  refine va_get (D := D) (ci := 10) (v := va_rf r1) (C := "CoinKeeper$Signatures") (T := F_10) (N := 13) hx hb hts i_10 hown hK hP ix_ hi_ rfl 12 (by decide) (hts _ gw_151) (fun _ h9 => h9) hv_ d_Si_sumIsRight_1 ?_
  clear hv_ hi_ hm_
  obtain ⟨q2, rfl, hf⟩ := hf
  refine W.eq (g2 := F0 m 4 ls [.ref q2]) rfl ?_
  obtain ⟨fs_, hm_, v3, hv_, hf⟩ := hf
  obtain ⟨ix_, hi_⟩ := m_ix hm_
  refine va_get (D := D) (ci := 7) (v := .int v3) (C := "CoinKeeper$Point") (T := F_7) (N := 5) hx hb hts i_7 hown hK hP ix_ hi_ rfl 3 (by decide) (hts _ gw_115) (fun _ h9 => h9) hv_ d_Si_sumIsRight_4 ?_
  clear hv_ hi_ hm_
  refine lv_if_eq (tgt := 12) hx hb d_Si_sumIsRight_7 (by decide) (fun cx => ?_) (fun cx => ?_)
  · have hf := ifpP cx hf
    refine lv_aload_n hx hb d_Si_sumIsRight_12 rfl (lv_at hl 0 rfl) ?_
    obtain ⟨fs_, hm_, r4, hv_, hf⟩ := hf
    obtain ⟨ix_, hi_⟩ := m_ix hm_
    refine va_get (D := D) (ci := 10) (v := va_rf r4) (C := "CoinKeeper$Signatures") (T := F_10) (N := 13) hx hb hts i_10 hown hK hP ix_ hi_ rfl 0 (by decide) (hts _ gw_139) (fun _ h9 => h9) hv_ d_Si_sumIsRight_13 ?_
    clear hv_ hi_ hm_
    obtain ⟨q5, rfl, hf⟩ := hf
    refine W.eq (g2 := F0 m 16 ls [.ref q5]) rfl ?_
    refine lv_aload_n hx hb d_Si_sumIsRight_16 rfl (lv_at hl 0 rfl) ?_
    obtain ⟨fs_, hm_, r6, hv_, hf⟩ := hf
    obtain ⟨ix_, hi_⟩ := m_ix hm_
    refine va_get (D := D) (ci := 10) (v := va_rf r6) (C := "CoinKeeper$Signatures") (T := F_10) (N := 13) hx hb hts i_10 hown hK hP ix_ hi_ rfl 12 (by decide) (hts _ gw_151) (fun _ h9 => h9) hv_ d_Si_sumIsRight_17 ?_
    clear hv_ hi_ hm_
    obtain ⟨q7, rfl, hf⟩ := hf
    refine W.eq (g2 := F0 m 20 ls [.ref q7, .ref q5]) rfl ?_
    refine lv_aload_n hx hb d_Si_sumIsRight_20 rfl (lv_at hl 0 rfl) ?_
    obtain ⟨fs_, hm_, r8, hv_, hf⟩ := hf
    obtain ⟨ix_, hi_⟩ := m_ix hm_
    refine va_get (D := D) (ci := 10) (v := va_rf r8) (C := "CoinKeeper$Signatures") (T := F_10) (N := 13) hx hb hts i_10 hown hK hP ix_ hi_ rfl 1 (by decide) (hts _ gw_140) (fun _ h9 => h9) hv_ d_Si_sumIsRight_21 ?_
    clear hv_ hi_ hm_
    obtain ⟨q9, rfl, hf⟩ := hf
    refine W.eq (g2 := F0 m 24 ls [.ref q9, .ref q7, .ref q5]) rfl ?_
    obtain ⟨b10, b11, b12, b13, b14, b15, b16, b17, b18, b19, c20, c21, c22, c23, c24, c25, c26, hal_, hnd_, v27, c28, c29, hc, hf⟩ := hf
    refine m_li (va_runV (C := "CoinKeeper$Curve") (As := [.ref q7, .ref q9]) (rest := []) ⟨hx, hb, hml, hown, hts⟩ (c_Cu_hasX l D cy ad fu q5 b10 b11 b12 b13 b14 b15 b16 q7 b17 b18 b19 q9 c20 c21 c22 c23 c24 c25 c26 _ hc H.size) ⟨q_cB hts gw_1165 gw_4 gw_1162 hds_65 ⟨Nat.le_of_ble_eq_true rfl, Nat.le_of_ble_eq_true rfl⟩, hts _ gw_1163, hts _ gw_1164⟩ (q_preV (q_pre (m_subP hP hal_) (m_subD hD hal_ hnd_) hK hSt hS (m_lF hD hS hA hal_) _) (va_recv hK (m_subP hP hal_) (ci := 3) (q0 := 0) rfl rfl)) rfl rfl hl.1 rfl (lv_room (Nat.le_of_ble_eq_true rfl)) d_Si_sumIsRight_24 ⟨hkc, hks⟩) hP hD hS hA hal_ rfl (fun H locs hP hD hS => ?_)
    refine W.widen (k := κ) (n := σ) (Nat.le_refl _) (Nat.le_refl _) ?_
    obtain ⟨M30, eM_, hf⟩ := bnP hf
    have hP : va_P D classes (mw M30) H := by rw [eM_]; exact hP
    have hD : va_D A (mw M30) := by rw [eM_]; exact hD
    clear eM_ hal_ hnd_ hc
    refine lv_if_eq (tgt := 32) hx hb d_Si_sumIsRight_27 (by decide) (fun cx => ?_) (fun cx => ?_)
    · have hf := ifpP cx hf
      refine lv_aload_n hx hb d_Si_sumIsRight_32 rfl (lv_at hl 0 rfl) ?_
      obtain ⟨fs_, hm_, r31, hv_, hf⟩ := hf
      obtain ⟨ix_, hi_⟩ := m_ix hm_
      refine va_get (D := D) (ci := 10) (v := va_rf r31) (C := "CoinKeeper$Signatures") (T := F_10) (N := 13) hx hb hts i_10 hown hK hP ix_ hi_ rfl 1 (by decide) (hts _ gw_140) (fun _ h9 => h9) hv_ d_Si_sumIsRight_33 ?_
      clear hv_ hi_ hm_
      obtain ⟨q32, rfl, hf⟩ := hf
      refine W.eq (g2 := F0 m 36 ls [.ref q32]) rfl ?_
      refine va_gets hx hb (hSt.1 4 _ rfl).1 hS hown (hts _ gw_1055) (fun _ h9 => h9) d_Si_sumIsRight_36 ?_
      obtain ⟨c33, hal_, hnd_, c34, hc, hf⟩ := hf
      refine m_lv (va_runS (As := [.ref q32, .ref (ad 4)]) (rest := []) ⟨hx, hb, hml, hown, hts⟩ (c_Sc_add_s1x4 l D cy ad fu q32 c33 _ hc H.size) ⟨q_cB hts gw_1120 gw_28 gw_1166 hds_66 ⟨Nat.le_of_ble_eq_true rfl, Nat.le_of_ble_eq_true rfl⟩, hts _ gw_1119⟩ (q_pre (m_subP hP hal_) (m_subD hD hal_ hnd_) hK hSt hS (m_lF hD hS hA hal_) _) rfl rfl hl.1 rfl (lv_room (Nat.le_of_ble_eq_true rfl)) d_Si_sumIsRight_39 ⟨hkc, hks⟩) hP hD hS hA hal_ rfl (fun H locs hP hD hS => ?_)
      refine W.widen (k := κ) (n := σ) (Nat.le_refl _) (Nat.le_refl _) ?_
      obtain ⟨M35, eM_, hf⟩ := bnP hf
      have hP : va_P D classes (mw M35) H := by rw [eM_]; exact hP
      have hD : va_D A (mw M35) := by rw [eM_]; exact hD
      clear eM_ hal_ hnd_ hc
      refine lv_aload_n hx hb d_Si_sumIsRight_42 rfl (lv_at hl 0 rfl) ?_
      obtain ⟨fs_, hm_, r36, hv_, hf⟩ := hf
      obtain ⟨ix_, hi_⟩ := m_ix hm_
      refine va_get (D := D) (ci := 10) (v := va_rf r36) (C := "CoinKeeper$Signatures") (T := F_10) (N := 13) hx hb hts i_10 hown hK hP ix_ hi_ rfl 1 (by decide) (hts _ gw_140) (fun _ h9 => h9) hv_ d_Si_sumIsRight_43 ?_
      clear hv_ hi_ hm_
      obtain ⟨q37, rfl, hf⟩ := hf
      refine W.eq (g2 := F0 m 46 ls [.ref q37]) rfl ?_
      refine va_gets hx hb (hSt.1 5 _ rfl).1 hS hown (hts _ gw_1167) (fun _ h9 => h9) d_Si_sumIsRight_46 ?_
      obtain ⟨c38, hal_, hnd_, v39, hc, hf⟩ := hf
      refine m_li (va_runS (As := [.ref q37, .ref (ad 5)]) (rest := []) ⟨hx, hb, hml, hown, hts⟩ (c_Sc_compare_s1x5 l D cy ad fu q37 c38 _ hc H.size) ⟨q_cB hts gw_1059 gw_28 gw_1057 hds_59 ⟨Nat.le_of_ble_eq_true rfl, Nat.le_of_ble_eq_true rfl⟩, hts _ gw_1058⟩ (q_pre (m_subP hP hal_) (m_subD hD hal_ hnd_) hK hSt hS (m_lF hD hS hA hal_) _) rfl rfl hl.1 rfl (lv_room (Nat.le_of_ble_eq_true rfl)) d_Si_sumIsRight_49 ⟨hkc, hks⟩) hP hD hS hA hal_ rfl (fun H locs hP hD hS => ?_)
      refine W.widen (k := κ) (n := σ) (Nat.le_refl _) (Nat.le_refl _) ?_
      obtain ⟨M40, eM_, hf⟩ := bnP hf
      have hP : va_P D classes (mw M40) H := by rw [eM_]; exact hP
      have hD : va_D A (mw M40) := by rw [eM_]; exact hD
      clear eM_ hal_ hnd_ hc
      refine lv_if_ge (tgt := 77) hx hb d_Si_sumIsRight_52 (by decide) (fun cx => ?_) (fun cx => ?_)
      · have hf := ifpP cx hf
        refine lv_iconst (v := 0) hx hb d_Si_sumIsRight_77 (by decide) ?_
        refine W.widen (k := MC) (n := MS) hkc hks ?_
        exact m_rz hf hx hb hr hlocks hK hP hD hS (isb_n (v := 0) (by decide)) d_Si_sumIsRight_78
      · have hf := ifnP cx hf
        refine lv_aload_n hx hb d_Si_sumIsRight_55 rfl (lv_at hl 0 rfl) ?_
        obtain ⟨fs_, hm_, r41, hv_, hf⟩ := hf
        obtain ⟨ix_, hi_⟩ := m_ix hm_
        refine va_get (D := D) (ci := 10) (v := va_rf r41) (C := "CoinKeeper$Signatures") (T := F_10) (N := 13) hx hb hts i_10 hown hK hP ix_ hi_ rfl 0 (by decide) (hts _ gw_139) (fun _ h9 => h9) hv_ d_Si_sumIsRight_56 ?_
        clear hv_ hi_ hm_
        obtain ⟨q42, rfl, hf⟩ := hf
        refine W.eq (g2 := F0 m 59 ls [.ref q42]) rfl ?_
        refine lv_aload_n hx hb d_Si_sumIsRight_59 rfl (lv_at hl 0 rfl) ?_
        obtain ⟨fs_, hm_, r43, hv_, hf⟩ := hf
        obtain ⟨ix_, hi_⟩ := m_ix hm_
        refine va_get (D := D) (ci := 10) (v := va_rf r43) (C := "CoinKeeper$Signatures") (T := F_10) (N := 13) hx hb hts i_10 hown hK hP ix_ hi_ rfl 12 (by decide) (hts _ gw_151) (fun _ h9 => h9) hv_ d_Si_sumIsRight_60 ?_
        clear hv_ hi_ hm_
        obtain ⟨q44, rfl, hf⟩ := hf
        refine W.eq (g2 := F0 m 63 ls [.ref q44, .ref q42]) rfl ?_
        refine lv_aload_n hx hb d_Si_sumIsRight_63 rfl (lv_at hl 0 rfl) ?_
        obtain ⟨fs_, hm_, r45, hv_, hf⟩ := hf
        obtain ⟨ix_, hi_⟩ := m_ix hm_
        refine va_get (D := D) (ci := 10) (v := va_rf r45) (C := "CoinKeeper$Signatures") (T := F_10) (N := 13) hx hb hts i_10 hown hK hP ix_ hi_ rfl 1 (by decide) (hts _ gw_140) (fun _ h9 => h9) hv_ d_Si_sumIsRight_64 ?_
        clear hv_ hi_ hm_
        obtain ⟨q46, rfl, hf⟩ := hf
        refine W.eq (g2 := F0 m 67 ls [.ref q46, .ref q44, .ref q42]) rfl ?_
        obtain ⟨b47, b48, b49, b50, b51, b52, b53, b54, b55, b56, c57, c58, c59, c60, c61, c62, c63, hal_, hnd_, v64, c65, c66, hc, hf⟩ := hf
        refine m_li (va_runV (C := "CoinKeeper$Curve") (As := [.ref q44, .ref q46]) (rest := []) ⟨hx, hb, hml, hown, hts⟩ (c_Cu_hasX l D cy ad fu q42 b47 b48 b49 b50 b51 b52 b53 q44 b54 b55 b56 q46 c57 c58 c59 c60 c61 c62 c63 _ hc H.size) ⟨q_cB hts gw_1165 gw_4 gw_1162 hds_65 ⟨Nat.le_of_ble_eq_true rfl, Nat.le_of_ble_eq_true rfl⟩, hts _ gw_1163, hts _ gw_1164⟩ (q_preV (q_pre (m_subP hP hal_) (m_subD hD hal_ hnd_) hK hSt hS (m_lF hD hS hA hal_) _) (va_recv hK (m_subP hP hal_) (ci := 3) (q0 := 0) rfl rfl)) rfl rfl hl.1 rfl (lv_room (Nat.le_of_ble_eq_true rfl)) d_Si_sumIsRight_67 ⟨hkc, hks⟩) hP hD hS hA hal_ rfl (fun H locs hP hD hS => ?_)
        refine W.widen (k := κ) (n := σ) (Nat.le_refl _) (Nat.le_refl _) ?_
        obtain ⟨M67, eM_, hf⟩ := bnP hf
        have hP : va_P D classes (mw M67) H := by rw [eM_]; exact hP
        have hD : va_D A (mw M67) := by rw [eM_]; exact hD
        clear eM_ hal_ hnd_ hc
        refine lv_if_eq (tgt := 77) hx hb d_Si_sumIsRight_70 (by decide) (fun cx => ?_) (fun cx => ?_)
        · have hf := ifpP cx hf
          refine lv_iconst (v := 0) hx hb d_Si_sumIsRight_77 (by decide) ?_
          refine W.widen (k := MC) (n := MS) hkc hks ?_
          exact m_rz hf hx hb hr hlocks hK hP hD hS (isb_n (v := 0) (by decide)) d_Si_sumIsRight_78
        · have hf := ifnP cx hf
          refine lv_iconst (v := 1) hx hb d_Si_sumIsRight_73 (by decide) ?_
          refine lv_goto (tgt := 78) hx hb d_Si_sumIsRight_74 (by decide) ?_
          refine W.widen (k := MC) (n := MS) hkc hks ?_
          exact m_rz hf hx hb hr hlocks hK hP hD hS (isb_n (v := 1) (by decide)) d_Si_sumIsRight_78
    · have hf := ifnP cx hf
      refine lv_iconst (v := 1) hx hb d_Si_sumIsRight_30 (by decide) ?_
      refine W.widen (k := MC) (n := MS) hkc hks ?_
      exact m_rz hf hx hb hr hlocks hK hP hD hS (isb_n (v := 1) (by decide)) d_Si_sumIsRight_31
  · have hf := ifnP cx hf
    refine lv_iconst (v := 0) hx hb d_Si_sumIsRight_10 (by decide) ?_
    refine W.widen (k := MC) (n := MS) hkc hks ?_
    exact m_rz hf hx hb hr hlocks hK hP hD hS (isb_n (v := 0) (by decide)) d_Si_sumIsRight_11
theorem cw_mSi_sumIsRight (l : Launch) (D : va_G) (cy : Nat → ClassId) (ad : Nat → Nat) (mi fu MC MS : Nat) (a0 : Nat) (M : Mm) (Φ : Int32 → Mm → Prop) (hf : xw_mSi_sumIsRight fu MC MS cy ad mi Φ 0 0 M a0) (sz : Nat) : Met l ({ cls := "CoinKeeper$Signatures", name := "sumIsRight", desc := "()Z" } : Jvm.MethodName) (.code ({ cls := "CoinKeeper$Signatures", name := "sumIsRight", desc := "()Z" } : Jvm.MethodName) b_Si_sumIsRight 1 (some .boolean) :: gw) (rmw_mSi_sumIsRight MC MS) (va_Pc [.ref a0] (PrM D cy ad mi (mw M) sz)) (va_Qi Φ (fun u t => Po D cy (va_A (mw M) sz) (mw u) t) (va_A (mw M) sz)) MC MS (va_A (mw M) sz) :=
  q_metM (Qc := fun A => va_Qi Φ (fun u t => Po D cy A (mw u) t) A) (by decide) rfl rfl (Nat.le_of_ble_eq_true rfl) (fun p e s m below meth c ls F hP hD hS hl => wew_mSi_sumIsRight (fu := fu) F 0 0 M a0 hf (Nat.zero_le _) (Nat.zero_le _) _ _ _ hP hD hS hl) sz
abbrev b_Si_verify : ByteArray := prog_12_method_2_code
theorem d_Si_verify_0 : decode b_Si_verify 0 = .ok (.aload_n 1, 1) := by decide +kernel
theorem d_Si_verify_1 : decode b_Si_verify 1 = .ok (.iload 5, 2) := by decide +kernel
theorem d_Si_verify_3 : decode b_Si_verify 3 = .ok (.iload 6, 2) := by decide +kernel
theorem d_Si_verify_5 : decode b_Si_verify 5 = .ok (.invokestatic 67, 3) := by decide +kernel
theorem d_Si_verify_8 : decode b_Si_verify 8 = .ok (.ifCond .eq 16, 3) := by decide +kernel
theorem d_Si_verify_11 : decode b_Si_verify 11 = .ok (.aload_n 1, 1) := by decide +kernel
theorem d_Si_verify_12 : decode b_Si_verify 12 = .ok (.iload 5, 2) := by decide +kernel
theorem d_Si_verify_14 : decode b_Si_verify 14 = .ok (.iload 6, 2) := by decide +kernel
theorem d_Si_verify_16 : decode b_Si_verify 16 = .ok (.iadd, 1) := by decide +kernel
theorem d_Si_verify_17 : decode b_Si_verify 17 = .ok (.iconst 1, 1) := by decide +kernel
theorem d_Si_verify_18 : decode b_Si_verify 18 = .ok (.isub, 1) := by decide +kernel
theorem d_Si_verify_19 : decode b_Si_verify 19 = .ok (.baload, 1) := by decide +kernel
theorem d_Si_verify_20 : decode b_Si_verify 20 = .ok (.iconst 1, 1) := by decide +kernel
theorem d_Si_verify_21 : decode b_Si_verify 21 = .ok (.if_icmp .eq 5, 3) := by decide +kernel
theorem d_Si_verify_24 : decode b_Si_verify 24 = .ok (.iconst 0, 1) := by decide +kernel
theorem d_Si_verify_25 : decode b_Si_verify 25 = .ok (.ireturn, 1) := by decide +kernel
theorem d_Si_verify_26 : decode b_Si_verify 26 = .ok (.aload_n 1, 1) := by decide +kernel
theorem d_Si_verify_27 : decode b_Si_verify 27 = .ok (.iload 5, 2) := by decide +kernel
theorem d_Si_verify_29 : decode b_Si_verify 29 = .ok (.iconst 3, 1) := by decide +kernel
theorem d_Si_verify_30 : decode b_Si_verify 30 = .ok (.iadd, 1) := by decide +kernel
theorem d_Si_verify_31 : decode b_Si_verify 31 = .ok (.baload, 1) := by decide +kernel
theorem d_Si_verify_32 : decode b_Si_verify 32 = .ok (.istore 7, 2) := by decide +kernel
theorem d_Si_verify_34 : decode b_Si_verify 34 = .ok (.aload_n 1, 1) := by decide +kernel
theorem d_Si_verify_35 : decode b_Si_verify 35 = .ok (.iload 5, 2) := by decide +kernel
theorem d_Si_verify_37 : decode b_Si_verify 37 = .ok (.iconst 5, 1) := by decide +kernel
theorem d_Si_verify_38 : decode b_Si_verify 38 = .ok (.iadd, 1) := by decide +kernel
theorem d_Si_verify_39 : decode b_Si_verify 39 = .ok (.iload 7, 2) := by decide +kernel
theorem d_Si_verify_41 : decode b_Si_verify 41 = .ok (.iadd, 1) := by decide +kernel
theorem d_Si_verify_42 : decode b_Si_verify 42 = .ok (.baload, 1) := by decide +kernel
theorem d_Si_verify_43 : decode b_Si_verify 43 = .ok (.istore 8, 2) := by decide +kernel
theorem d_Si_verify_45 : decode b_Si_verify 45 = .ok (.aload_n 1, 1) := by decide +kernel
theorem d_Si_verify_46 : decode b_Si_verify 46 = .ok (.iload 5, 2) := by decide +kernel
theorem d_Si_verify_48 : decode b_Si_verify 48 = .ok (.iconst 4, 1) := by decide +kernel
theorem d_Si_verify_49 : decode b_Si_verify 49 = .ok (.iadd, 1) := by decide +kernel
theorem d_Si_verify_50 : decode b_Si_verify 50 = .ok (.iload 7, 2) := by decide +kernel
theorem d_Si_verify_52 : decode b_Si_verify 52 = .ok (.aload_n 0, 1) := by decide +kernel
theorem d_Si_verify_53 : decode b_Si_verify 53 = .ok (.getfield 18, 3) := by decide +kernel
theorem d_Si_verify_56 : decode b_Si_verify 56 = .ok (.invokestatic 71, 3) := by decide +kernel
theorem d_Si_verify_59 : decode b_Si_verify 59 = .ok (.ifCond .eq 44, 3) := by decide +kernel
theorem d_Si_verify_62 : decode b_Si_verify 62 = .ok (.aload_n 1, 1) := by decide +kernel
theorem d_Si_verify_63 : decode b_Si_verify 63 = .ok (.iload 5, 2) := by decide +kernel
theorem d_Si_verify_65 : decode b_Si_verify 65 = .ok (.bipush 6, 2) := by decide +kernel
theorem d_Si_verify_67 : decode b_Si_verify 67 = .ok (.iadd, 1) := by decide +kernel
theorem d_Si_verify_68 : decode b_Si_verify 68 = .ok (.iload 7, 2) := by decide +kernel
theorem d_Si_verify_70 : decode b_Si_verify 70 = .ok (.iadd, 1) := by decide +kernel
theorem d_Si_verify_71 : decode b_Si_verify 71 = .ok (.iload 8, 2) := by decide +kernel
theorem d_Si_verify_73 : decode b_Si_verify 73 = .ok (.aload_n 0, 1) := by decide +kernel
theorem d_Si_verify_74 : decode b_Si_verify 74 = .ok (.getfield 22, 3) := by decide +kernel
theorem d_Si_verify_77 : decode b_Si_verify 77 = .ok (.invokestatic 71, 3) := by decide +kernel
theorem d_Si_verify_80 : decode b_Si_verify 80 = .ok (.ifCond .eq 23, 3) := by decide +kernel
theorem d_Si_verify_83 : decode b_Si_verify 83 = .ok (.aload_n 0, 1) := by decide +kernel
theorem d_Si_verify_84 : decode b_Si_verify 84 = .ok (.getfield 10, 3) := by decide +kernel
theorem d_Si_verify_87 : decode b_Si_verify 87 = .ok (.aload_n 1, 1) := by decide +kernel
theorem d_Si_verify_88 : decode b_Si_verify 88 = .ok (.iload_n 3, 1) := by decide +kernel
theorem d_Si_verify_89 : decode b_Si_verify 89 = .ok (.iload 4, 2) := by decide +kernel
theorem d_Si_verify_91 : decode b_Si_verify 91 = .ok (.aload_n 0, 1) := by decide +kernel
theorem d_Si_verify_92 : decode b_Si_verify 92 = .ok (.getfield 52, 3) := by decide +kernel
theorem d_Si_verify_95 : decode b_Si_verify 95 = .ok (.iconst 0, 1) := by decide +kernel
theorem d_Si_verify_96 : decode b_Si_verify 96 = .ok (.aaload, 1) := by decide +kernel
theorem d_Si_verify_97 : decode b_Si_verify 97 = .ok (.invokevirtual 75, 3) := by decide +kernel
theorem d_Si_verify_100 : decode b_Si_verify 100 = .ok (.ifCond .ne 5, 3) := by decide +kernel
theorem d_Si_verify_103 : decode b_Si_verify 103 = .ok (.iconst 0, 1) := by decide +kernel
theorem d_Si_verify_104 : decode b_Si_verify 104 = .ok (.ireturn, 1) := by decide +kernel
theorem d_Si_verify_105 : decode b_Si_verify 105 = .ok (.aload_n 1, 1) := by decide +kernel
theorem d_Si_verify_106 : decode b_Si_verify 106 = .ok (.iload_n 2, 1) := by decide +kernel
theorem d_Si_verify_107 : decode b_Si_verify 107 = .ok (.bipush 32, 2) := by decide +kernel
theorem d_Si_verify_109 : decode b_Si_verify 109 = .ok (.aload_n 0, 1) := by decide +kernel
theorem d_Si_verify_110 : decode b_Si_verify 110 = .ok (.getfield 25, 3) := by decide +kernel
theorem d_Si_verify_113 : decode b_Si_verify 113 = .ok (.invokestatic 79, 3) := by decide +kernel
theorem d_Si_verify_116 : decode b_Si_verify 116 = .ok (.aload_n 0, 1) := by decide +kernel
theorem d_Si_verify_117 : decode b_Si_verify 117 = .ok (.getfield 25, 3) := by decide +kernel
theorem d_Si_verify_120 : decode b_Si_verify 120 = .ok (.getstatic 83, 3) := by decide +kernel
theorem d_Si_verify_123 : decode b_Si_verify 123 = .ok (.invokestatic 86, 3) := by decide +kernel
theorem d_Si_verify_126 : decode b_Si_verify 126 = .ok (.ifCond .lt 13, 3) := by decide +kernel
theorem d_Si_verify_129 : decode b_Si_verify 129 = .ok (.aload_n 0, 1) := by decide +kernel
theorem d_Si_verify_130 : decode b_Si_verify 130 = .ok (.getfield 25, 3) := by decide +kernel
theorem d_Si_verify_133 : decode b_Si_verify 133 = .ok (.getstatic 83, 3) := by decide +kernel
theorem d_Si_verify_136 : decode b_Si_verify 136 = .ok (.invokestatic 90, 3) := by decide +kernel
theorem d_Si_verify_139 : decode b_Si_verify 139 = .ok (.aload_n 0, 1) := by decide +kernel
theorem d_Si_verify_140 : decode b_Si_verify 140 = .ok (.aload_n 0, 1) := by decide +kernel
theorem d_Si_verify_141 : decode b_Si_verify 141 = .ok (.getfield 25, 3) := by decide +kernel
theorem d_Si_verify_144 : decode b_Si_verify 144 = .ok (.aload_n 0, 1) := by decide +kernel
theorem d_Si_verify_145 : decode b_Si_verify 145 = .ok (.getfield 28, 3) := by decide +kernel
theorem d_Si_verify_148 : decode b_Si_verify 148 = .ok (.invokevirtual 94, 3) := by decide +kernel
theorem d_Si_verify_151 : decode b_Si_verify 151 = .ok (.aload_n 0, 1) := by decide +kernel
theorem d_Si_verify_152 : decode b_Si_verify 152 = .ok (.aload_n 0, 1) := by decide +kernel
theorem d_Si_verify_153 : decode b_Si_verify 153 = .ok (.getfield 18, 3) := by decide +kernel
theorem d_Si_verify_156 : decode b_Si_verify 156 = .ok (.aload_n 0, 1) := by decide +kernel
theorem d_Si_verify_157 : decode b_Si_verify 157 = .ok (.getfield 31, 3) := by decide +kernel
theorem d_Si_verify_160 : decode b_Si_verify 160 = .ok (.invokevirtual 94, 3) := by decide +kernel
theorem d_Si_verify_163 : decode b_Si_verify 163 = .ok (.aload_n 0, 1) := by decide +kernel
theorem d_Si_verify_164 : decode b_Si_verify 164 = .ok (.getfield 28, 3) := by decide +kernel
theorem d_Si_verify_167 : decode b_Si_verify 167 = .ok (.aload_n 0, 1) := by decide +kernel
theorem d_Si_verify_168 : decode b_Si_verify 168 = .ok (.getfield 39, 3) := by decide +kernel
theorem d_Si_verify_171 : decode b_Si_verify 171 = .ok (.invokestatic 97, 3) := by decide +kernel
theorem d_Si_verify_174 : decode b_Si_verify 174 = .ok (.aload_n 0, 1) := by decide +kernel
theorem d_Si_verify_175 : decode b_Si_verify 175 = .ok (.getfield 31, 3) := by decide +kernel
theorem d_Si_verify_178 : decode b_Si_verify 178 = .ok (.aload_n 0, 1) := by decide +kernel
theorem d_Si_verify_179 : decode b_Si_verify 179 = .ok (.getfield 43, 3) := by decide +kernel
theorem d_Si_verify_182 : decode b_Si_verify 182 = .ok (.invokestatic 97, 3) := by decide +kernel
theorem d_Si_verify_185 : decode b_Si_verify 185 = .ok (.aload_n 0, 1) := by decide +kernel
theorem d_Si_verify_186 : decode b_Si_verify 186 = .ok (.invokevirtual 101, 3) := by decide +kernel
theorem d_Si_verify_189 : decode b_Si_verify 189 = .ok (.aload_n 0, 1) := by decide +kernel
theorem d_Si_verify_190 : decode b_Si_verify 190 = .ok (.invokevirtual 104, 3) := by decide +kernel
theorem d_Si_verify_193 : decode b_Si_verify 193 = .ok (.ireturn, 1) := by decide +kernel
abbrev rmw_mSi_verify (MC MS : Nat) : Room := { frames := 4, cells := MC, slots := MS, locals := 135 }
def Iw_mSi_verify_139 (p : Program) (l : Launch) (e : Env) (s : State) (m : MethodId) (args : Array Value) (below : List Frame) (meth : Method) (c : Code) (D : va_G) (cy : Nat → ClassId) (A : Nat → Prop) (ad : Nat → Nat) (mi MC MS : Nat) (Φ : Int32 → Mm → Prop) (k : Nat → Nat → Mm → Nat → Prop) : Prop :=
  ∀ (κ σ : Nat) (M : Mm) (x0 : Nat), k κ σ M x0 → κ ≤ MC → σ ≤ MS → ∀ (H : Heap) (locs : List Loc) (ls : Array Slot), va_P D classes (mw M) H → va_D A (mw M) → va_S A s.heap H locs → lv_has ls 9 [(0, .ref x0)] → W p l e (rmw_mSi_verify MC MS) s m args below meth c H locs κ σ (MQ below (va_Qi Φ (fun u t => Po D cy A (mw u) t) A) args s MC MS A) (F0 m 139 ls [])
def Iw_mSi_verify_e (p : Program) (l : Launch) (e : Env) (s : State) (m : MethodId) (args : Array Value) (below : List Frame) (meth : Method) (c : Code) (D : va_G) (cy : Nat → ClassId) (A : Nat → Prop) (ad : Nat → Nat) (mi MC MS : Nat) (Φ : Int32 → Mm → Prop) (k : Nat → Nat → Mm → Nat → Nat → Int32 → Int32 → Int32 → Int32 → Int32 → Prop) : Prop :=
  ∀ (κ σ : Nat) (M : Mm) (a0 : Nat) (a1 : Nat) (a2 : Int32) (a3 : Int32) (a4 : Int32) (a5 : Int32) (a6 : Int32), k κ σ M a0 a1 a2 a3 a4 a5 a6 → κ ≤ MC → σ ≤ MS → ∀ (H : Heap) (locs : List Loc) (ls : Array Slot), va_P D classes (mw M) H → va_D A (mw M) → va_S A s.heap H locs → lv_has ls 9 [(0, .ref a0), (1, .ref a1), (2, .int a2), (3, .int a3), (4, .int a4), (5, .int a5), (6, .int a6)] → W p l e (rmw_mSi_verify MC MS) s m args below meth c H locs κ σ (MQ below (va_Qi Φ (fun u t => Po D cy A (mw u) t) A) args s MC MS A) (F0 m 0 ls [])
theorem hds_67 : ({ cls := "CoinKeeper$Signatures", name := "divide", desc := "([J[J)V" } : Jvm.MethodName).cls ≠ "java/lang/invoke/MethodHandle" ∧ ({ cls := "CoinKeeper$Signatures", name := "divide", desc := "([J[J)V" } : Jvm.MethodName).cls ≠ "java/lang/invoke/VarHandle" ∧ (parseMethodDescriptor ({ cls := "CoinKeeper$Signatures", name := "divide", desc := "([J[J)V" } : Jvm.MethodName).desc).map (fun d => d.parameters.length) = some 2 := by decide +kernel
theorem hds_68 : ({ cls := "CoinKeeper$Signatures", name := "writeDigits", desc := "([J[B)V" } : Jvm.MethodName).cls ≠ "java/lang/invoke/MethodHandle" ∧ ({ cls := "CoinKeeper$Signatures", name := "writeDigits", desc := "([J[B)V" } : Jvm.MethodName).cls ≠ "java/lang/invoke/VarHandle" ∧ (parseMethodDescriptor ({ cls := "CoinKeeper$Signatures", name := "writeDigits", desc := "([J[B)V" } : Jvm.MethodName).desc).map (fun d => d.parameters.length) = some 2 := by decide +kernel
theorem hds_69 : ({ cls := "CoinKeeper$Signatures", name := "addUp", desc := "()V" } : Jvm.MethodName).cls ≠ "java/lang/invoke/MethodHandle" ∧ ({ cls := "CoinKeeper$Signatures", name := "addUp", desc := "()V" } : Jvm.MethodName).cls ≠ "java/lang/invoke/VarHandle" ∧ (parseMethodDescriptor ({ cls := "CoinKeeper$Signatures", name := "addUp", desc := "()V" } : Jvm.MethodName).desc).map (fun d => d.parameters.length) = some 0 := by decide +kernel
theorem hds_70 : ({ cls := "CoinKeeper$Signatures", name := "sumIsRight", desc := "()Z" } : Jvm.MethodName).cls ≠ "java/lang/invoke/MethodHandle" ∧ ({ cls := "CoinKeeper$Signatures", name := "sumIsRight", desc := "()Z" } : Jvm.MethodName).cls ≠ "java/lang/invoke/VarHandle" ∧ (parseMethodDescriptor ({ cls := "CoinKeeper$Signatures", name := "sumIsRight", desc := "()Z" } : Jvm.MethodName).desc).map (fun d => d.parameters.length) = some 0 := by decide +kernel
set_option maxHeartbeats 8000000 in
set_option maxRecDepth 100000 in
theorem wv_mSi_verify_139 {p : Program} {l : Launch} {e : Env} {s : State} {m : MethodId} {args : Array Value} {below : List Frame} {meth : Method} {c : Code} {D : va_G} {cy : Nat → ClassId} {A : Nat → Prop} {ad : Nat → Nat} {mi MC MS : Nat} {Φ : Int32 → Mm → Prop} {fu : Nat} (F : FxM p s m args meth c b_Si_verify 9 "CoinKeeper$Signatures" "verify" (some .boolean) D cy ad mi A) : Iw_mSi_verify_139 p l e s m args below meth c D cy A ad mi MC MS Φ (xv_mSi_verify_139 fu MC MS cy ad mi Φ) := by
  obtain ⟨⟨hx, hb, hr, hml, hown, hts, hlocks, hK, hA, hSt, hnm, hex⟩, hT, hMi⟩ := id F
  intro κ σ M x0 hf hkc hks H locs ls hP hD hS hl
  unfold xv_mSi_verify_139 at hf
  refine lv_aload_n hx hb d_Si_verify_139 rfl (lv_at hl 0 rfl) ?_
  refine lv_aload_n hx hb d_Si_verify_140 rfl (lv_at hl 0 rfl) ?_
  obtain ⟨fs_, hm_, r1, hv_, hf⟩ := hf
  obtain ⟨ix_, hi_⟩ := m_ix hm_
  refine va_get (D := D) (ci := 10) (v := va_rf r1) (C := "CoinKeeper$Signatures") (T := F_10) (N := 13) hx hb hts i_10 hown hK hP ix_ hi_ rfl 3 (by decide) (hts _ gw_142) (fun _ h9 => h9) hv_ d_Si_verify_141 ?_
  clear hv_ hi_ hm_
  obtain ⟨q2, rfl, hf⟩ := hf
  refine W.eq (g2 := F0 m 144 ls [.ref q2, .ref x0]) rfl ?_
  refine lv_aload_n hx hb d_Si_verify_144 rfl (lv_at hl 0 rfl) ?_
  obtain ⟨fs_, hm_, r3, hv_, hf⟩ := hf
  obtain ⟨ix_, hi_⟩ := m_ix hm_
  refine va_get (D := D) (ci := 10) (v := va_rf r3) (C := "CoinKeeper$Signatures") (T := F_10) (N := 13) hx hb hts i_10 hown hK hP ix_ hi_ rfl 4 (by decide) (hts _ gw_143) (fun _ h9 => h9) hv_ d_Si_verify_145 ?_
  clear hv_ hi_ hm_
  obtain ⟨q4, rfl, hf⟩ := hf
  refine W.eq (g2 := F0 m 148 ls [.ref q4, .ref q2, .ref x0]) rfl ?_
  obtain ⟨fs_, hm_, hf⟩ := hf
  obtain ⟨ix_, hi_⟩ := m_ix hm_
  obtain ⟨mc5, ms6, ⟨hc_, hd_⟩, hf⟩ := hf
  refine m_av (va_runV (C := "CoinKeeper$Signatures") (As := [.ref q2, .ref q4]) (rest := []) ⟨hx, hb, hml, hown, hts⟩ (cw_mSi_divide l D cy ad mi fu mc5 ms6 x0 q2 q4 M _ hf H.size) ⟨q_cB hts gw_1110 gw_3 gw_1107 hds_67 ⟨Nat.le_of_ble_eq_true rfl, Nat.le_of_ble_eq_true rfl⟩, hts _ gw_1109, hts _ gs_39⟩ (q_preVM (q_preM hP hD hK hSt hT hMi hS (m_free hD hS hA) _) (va_recv hK hP (ci := 10) (q0 := ix_) rfl hi_)) rfl rfl hl.1 rfl (lv_room (Nat.le_of_ble_eq_true rfl)) d_Si_verify_148 ⟨hc_, hd_⟩) hD hS hA (fun M7 H locs hf hP hD hS => ?_)
  have hkc : κ + mc5 ≤ MC := hc_
  have hks : σ + ms6 ≤ MS := hd_
  clear hc_ hd_
  refine lv_aload_n hx hb d_Si_verify_151 rfl (lv_at hl 0 rfl) ?_
  refine lv_aload_n hx hb d_Si_verify_152 rfl (lv_at hl 0 rfl) ?_
  obtain ⟨fs_, hm_, r8, hv_, hf⟩ := hf
  obtain ⟨ix_, hi_⟩ := m_ix hm_
  refine va_get (D := D) (ci := 10) (v := va_rf r8) (C := "CoinKeeper$Signatures") (T := F_10) (N := 13) hx hb hts i_10 hown hK hP ix_ hi_ rfl 1 (by decide) (hts _ gw_140) (fun _ h9 => h9) hv_ d_Si_verify_153 ?_
  clear hv_ hi_ hm_
  obtain ⟨q9, rfl, hf⟩ := hf
  refine W.eq (g2 := F0 m 156 ls [.ref q9, .ref x0]) rfl ?_
  refine lv_aload_n hx hb d_Si_verify_156 rfl (lv_at hl 0 rfl) ?_
  obtain ⟨fs_, hm_, r10, hv_, hf⟩ := hf
  obtain ⟨ix_, hi_⟩ := m_ix hm_
  refine va_get (D := D) (ci := 10) (v := va_rf r10) (C := "CoinKeeper$Signatures") (T := F_10) (N := 13) hx hb hts i_10 hown hK hP ix_ hi_ rfl 5 (by decide) (hts _ gw_144) (fun _ h9 => h9) hv_ d_Si_verify_157 ?_
  clear hv_ hi_ hm_
  obtain ⟨q11, rfl, hf⟩ := hf
  refine W.eq (g2 := F0 m 160 ls [.ref q11, .ref q9, .ref x0]) rfl ?_
  obtain ⟨fs_, hm_, hf⟩ := hf
  obtain ⟨ix_, hi_⟩ := m_ix hm_
  obtain ⟨mc12, ms13, ⟨hc_, hd_⟩, hf⟩ := hf
  refine m_av (va_runV (C := "CoinKeeper$Signatures") (As := [.ref q9, .ref q11]) (rest := []) ⟨hx, hb, hml, hown, hts⟩ (cw_mSi_divide l D cy ad mi fu mc12 ms13 x0 q9 q11 M7 _ hf H.size) ⟨q_cB hts gw_1110 gw_3 gw_1107 hds_67 ⟨Nat.le_of_ble_eq_true rfl, Nat.le_of_ble_eq_true rfl⟩, hts _ gw_1109, hts _ gs_39⟩ (q_preVM (q_preM hP hD hK hSt hT hMi hS (m_free hD hS hA) _) (va_recv hK hP (ci := 10) (q0 := ix_) rfl hi_)) rfl rfl hl.1 rfl (lv_room (Nat.le_of_ble_eq_true rfl)) d_Si_verify_160 ⟨hc_, hd_⟩) hD hS hA (fun M14 H locs hf hP hD hS => ?_)
  have hkc : κ + mc5 + mc12 ≤ MC := hc_
  have hks : σ + ms6 + ms13 ≤ MS := hd_
  clear hc_ hd_
  refine lv_aload_n hx hb d_Si_verify_163 rfl (lv_at hl 0 rfl) ?_
  obtain ⟨fs_, hm_, r15, hv_, hf⟩ := hf
  obtain ⟨ix_, hi_⟩ := m_ix hm_
  refine va_get (D := D) (ci := 10) (v := va_rf r15) (C := "CoinKeeper$Signatures") (T := F_10) (N := 13) hx hb hts i_10 hown hK hP ix_ hi_ rfl 4 (by decide) (hts _ gw_143) (fun _ h9 => h9) hv_ d_Si_verify_164 ?_
  clear hv_ hi_ hm_
  obtain ⟨q16, rfl, hf⟩ := hf
  refine W.eq (g2 := F0 m 167 ls [.ref q16]) rfl ?_
  refine lv_aload_n hx hb d_Si_verify_167 rfl (lv_at hl 0 rfl) ?_
  obtain ⟨fs_, hm_, r17, hv_, hf⟩ := hf
  obtain ⟨ix_, hi_⟩ := m_ix hm_
  refine va_get (D := D) (ci := 10) (v := va_rf r17) (C := "CoinKeeper$Signatures") (T := F_10) (N := 13) hx hb hts i_10 hown hK hP ix_ hi_ rfl 7 (by decide) (hts _ gw_146) (fun _ h9 => h9) hv_ d_Si_verify_168 ?_
  clear hv_ hi_ hm_
  obtain ⟨q18, rfl, hf⟩ := hf
  refine W.eq (g2 := F0 m 171 ls [.ref q18, .ref q16]) rfl ?_
  obtain ⟨c19, c20, c21, hal_, hnd_, c22, hc, hf⟩ := hf
  refine m_lv (va_runS (As := [.ref q16, .ref q18]) (rest := []) ⟨hx, hb, hml, hown, hts⟩ (c_Si_writeDigits l D cy ad fu q16 q18 c19 c20 c21 _ hc H.size) ⟨q_cB hts gw_1129 gw_3 gw_1127 hds_68 ⟨Nat.le_of_ble_eq_true rfl, Nat.le_of_ble_eq_true rfl⟩, hts _ gw_1128⟩ (q_pre (m_subP hP hal_) (m_subD hD hal_ hnd_) hK hSt hS (m_lF hD hS hA hal_) _) rfl rfl hl.1 rfl (lv_room (Nat.le_of_ble_eq_true rfl)) d_Si_verify_171 ⟨hkc, hks⟩) hP hD hS hA hal_ rfl (fun H locs hP hD hS => ?_)
  refine W.widen (k := κ + mc5 + mc12) (n := σ + ms6 + ms13) (Nat.le_refl _) (Nat.le_refl _) ?_
  obtain ⟨M23, eM_, hf⟩ := bnP hf
  have hP : va_P D classes (mw M23) H := by rw [eM_]; exact hP
  have hD : va_D A (mw M23) := by rw [eM_]; exact hD
  clear eM_ hal_ hnd_ hc
  refine lv_aload_n hx hb d_Si_verify_174 rfl (lv_at hl 0 rfl) ?_
  obtain ⟨fs_, hm_, r24, hv_, hf⟩ := hf
  obtain ⟨ix_, hi_⟩ := m_ix hm_
  refine va_get (D := D) (ci := 10) (v := va_rf r24) (C := "CoinKeeper$Signatures") (T := F_10) (N := 13) hx hb hts i_10 hown hK hP ix_ hi_ rfl 5 (by decide) (hts _ gw_144) (fun _ h9 => h9) hv_ d_Si_verify_175 ?_
  clear hv_ hi_ hm_
  obtain ⟨q25, rfl, hf⟩ := hf
  refine W.eq (g2 := F0 m 178 ls [.ref q25]) rfl ?_
  refine lv_aload_n hx hb d_Si_verify_178 rfl (lv_at hl 0 rfl) ?_
  obtain ⟨fs_, hm_, r26, hv_, hf⟩ := hf
  obtain ⟨ix_, hi_⟩ := m_ix hm_
  refine va_get (D := D) (ci := 10) (v := va_rf r26) (C := "CoinKeeper$Signatures") (T := F_10) (N := 13) hx hb hts i_10 hown hK hP ix_ hi_ rfl 8 (by decide) (hts _ gw_147) (fun _ h9 => h9) hv_ d_Si_verify_179 ?_
  clear hv_ hi_ hm_
  obtain ⟨q27, rfl, hf⟩ := hf
  refine W.eq (g2 := F0 m 182 ls [.ref q27, .ref q25]) rfl ?_
  obtain ⟨c28, c29, c30, hal_, hnd_, c31, hc, hf⟩ := hf
  refine m_lv (va_runS (As := [.ref q25, .ref q27]) (rest := []) ⟨hx, hb, hml, hown, hts⟩ (c_Si_writeDigits l D cy ad fu q25 q27 c28 c29 c30 _ hc H.size) ⟨q_cB hts gw_1129 gw_3 gw_1127 hds_68 ⟨Nat.le_of_ble_eq_true rfl, Nat.le_of_ble_eq_true rfl⟩, hts _ gw_1128⟩ (q_pre (m_subP hP hal_) (m_subD hD hal_ hnd_) hK hSt hS (m_lF hD hS hA hal_) _) rfl rfl hl.1 rfl (lv_room (Nat.le_of_ble_eq_true rfl)) d_Si_verify_182 ⟨hkc, hks⟩) hP hD hS hA hal_ rfl (fun H locs hP hD hS => ?_)
  refine W.widen (k := κ + mc5 + mc12) (n := σ + ms6 + ms13) (Nat.le_refl _) (Nat.le_refl _) ?_
  obtain ⟨M32, eM_, hf⟩ := bnP hf
  have hP : va_P D classes (mw M32) H := by rw [eM_]; exact hP
  have hD : va_D A (mw M32) := by rw [eM_]; exact hD
  clear eM_ hal_ hnd_ hc
  refine lv_aload_n hx hb d_Si_verify_185 rfl (lv_at hl 0 rfl) ?_
  obtain ⟨fs_, hm_, hf⟩ := hf
  obtain ⟨ix_, hi_⟩ := m_ix hm_
  obtain ⟨mc33, ms34, ⟨hc_, hd_⟩, hf⟩ := hf
  refine m_av (va_runV (C := "CoinKeeper$Signatures") (As := []) (rest := []) ⟨hx, hb, hml, hown, hts⟩ (cw_mSi_addUp l D cy ad mi fu mc33 ms34 x0 M32 _ hf H.size) ⟨q_cB hts gw_1136 gw_3 gw_1133 hds_69 ⟨Nat.le_of_ble_eq_true rfl, Nat.le_of_ble_eq_true rfl⟩, hts _ gw_1135, hts _ gs_40⟩ (q_preVM (q_preM hP hD hK hSt hT hMi hS (m_free hD hS hA) _) (va_recv hK hP (ci := 10) (q0 := ix_) rfl hi_)) rfl rfl hl.1 rfl (lv_room (Nat.le_of_ble_eq_true rfl)) d_Si_verify_186 ⟨hc_, hd_⟩) hD hS hA (fun M35 H locs hf hP hD hS => ?_)
  have hkc : κ + mc5 + mc12 + mc33 ≤ MC := hc_
  have hks : σ + ms6 + ms13 + ms34 ≤ MS := hd_
  clear hc_ hd_
  refine lv_aload_n hx hb d_Si_verify_189 rfl (lv_at hl 0 rfl) ?_
  obtain ⟨fs_, hm_, hf⟩ := hf
  obtain ⟨ix_, hi_⟩ := m_ix hm_
  obtain ⟨mc36, ms37, ⟨hc_, hd_⟩, hf⟩ := hf
  refine mm_ai (va_runV (C := "CoinKeeper$Signatures") (As := []) (rest := []) ⟨hx, hb, hml, hown, hts⟩ (cw_mSi_sumIsRight l D cy ad mi fu mc36 ms37 x0 M35 _ hf H.size) ⟨q_cB hts gw_1161 gw_3 gw_1158 hds_70 ⟨Nat.le_of_ble_eq_true rfl, Nat.le_of_ble_eq_true rfl⟩, hts _ gw_1160, hts _ gs_41⟩ (q_preVM (q_preM hP hD hK hSt hT hMi hS (m_free hD hS hA) _) (va_recv hK hP (ci := 10) (q0 := ix_) rfl hi_)) rfl rfl hl.1 rfl (lv_room (Nat.le_of_ble_eq_true rfl)) d_Si_verify_190 ⟨hc_, hd_⟩) hD hS hA (fun v39 M38 H locs hf hP hD hS => ?_)
  have hkc : κ + mc5 + mc12 + mc33 + mc36 ≤ MC := hc_
  have hks : σ + ms6 + ms13 + ms34 + ms37 ≤ MS := hd_
  clear hc_ hd_
  obtain ⟨hg, hf⟩ := hf
  refine W.widen (k := MC) (n := MS) hkc hks ?_
  exact m_rz hf hx hb hr hlocks hK hP hD hS (isb_n hg) d_Si_verify_193
theorem hds_71 : ({ cls := "CoinKeeper$Signatures", name := "isStrict", desc := "([BII)Z" } : Jvm.MethodName).cls ≠ "java/lang/invoke/MethodHandle" ∧ ({ cls := "CoinKeeper$Signatures", name := "isStrict", desc := "([BII)Z" } : Jvm.MethodName).cls ≠ "java/lang/invoke/VarHandle" ∧ (parseMethodDescriptor ({ cls := "CoinKeeper$Signatures", name := "isStrict", desc := "([BII)Z" } : Jvm.MethodName).desc).map (fun d => d.parameters.length) = some 3 := by decide +kernel
theorem hds_72 : ({ cls := "CoinKeeper$Signatures", name := "readNumber", desc := "([BII[J)Z" } : Jvm.MethodName).cls ≠ "java/lang/invoke/MethodHandle" ∧ ({ cls := "CoinKeeper$Signatures", name := "readNumber", desc := "([BII[J)Z" } : Jvm.MethodName).cls ≠ "java/lang/invoke/VarHandle" ∧ (parseMethodDescriptor ({ cls := "CoinKeeper$Signatures", name := "readNumber", desc := "([BII[J)Z" } : Jvm.MethodName).desc).map (fun d => d.parameters.length) = some 4 := by decide +kernel
theorem hds_73 : ({ cls := "CoinKeeper$Curve", name := "readKey", desc := "([BIILCoinKeeper$Point;)Z" } : Jvm.MethodName).cls ≠ "java/lang/invoke/MethodHandle" ∧ ({ cls := "CoinKeeper$Curve", name := "readKey", desc := "([BIILCoinKeeper$Point;)Z" } : Jvm.MethodName).cls ≠ "java/lang/invoke/VarHandle" ∧ (parseMethodDescriptor ({ cls := "CoinKeeper$Curve", name := "readKey", desc := "([BIILCoinKeeper$Point;)Z" } : Jvm.MethodName).desc).map (fun d => d.parameters.length) = some 4 := by decide +kernel
theorem hds_74 : ({ cls := "CoinKeeper$Scalar", name := "load", desc := "([BII[J)V" } : Jvm.MethodName).cls ≠ "java/lang/invoke/MethodHandle" ∧ ({ cls := "CoinKeeper$Scalar", name := "load", desc := "([BII[J)V" } : Jvm.MethodName).cls ≠ "java/lang/invoke/VarHandle" ∧ (parseMethodDescriptor ({ cls := "CoinKeeper$Scalar", name := "load", desc := "([BII[J)V" } : Jvm.MethodName).desc).map (fun d => d.parameters.length) = some 4 := by decide +kernel
set_option maxHeartbeats 8000000 in
set_option maxRecDepth 100000 in
theorem wew_mSi_verify {p : Program} {l : Launch} {e : Env} {s : State} {m : MethodId} {args : Array Value} {below : List Frame} {meth : Method} {c : Code} {D : va_G} {cy : Nat → ClassId} {A : Nat → Prop} {ad : Nat → Nat} {mi MC MS : Nat} {Φ : Int32 → Mm → Prop} {fu : Nat} (F : FxM p s m args meth c b_Si_verify 9 "CoinKeeper$Signatures" "verify" (some .boolean) D cy ad mi A) : Iw_mSi_verify_e p l e s m args below meth c D cy A ad mi MC MS Φ (xw_mSi_verify fu MC MS cy ad mi Φ) := by
  obtain ⟨⟨hx, hb, hr, hml, hown, hts, hlocks, hK, hA, hSt, hnm, hex⟩, hT, hMi⟩ := id F
  intro κ σ M a0 a1 a2 a3 a4 a5 a6 hf hkc hks H locs ls hP hD hS hl
  unfold xw_mSi_verify at hf
  refine lv_aload_n hx hb d_Si_verify_0 rfl (lv_at hl 1 rfl) ?_
  refine lv_iload hx hb d_Si_verify_1 (lv_at hl 5 rfl) ?_
  refine lv_iload hx hb d_Si_verify_3 (lv_at hl 6 rfl) ?_
  obtain ⟨c1, c2, hal_, hnd_, v3, hc, hf⟩ := hf
  refine m_li (va_runS (As := [.ref a1, .int a5, .int a6]) (rest := []) ⟨hx, hb, hml, hown, hts⟩ (c_Si_isStrict l D cy ad fu a1 c1 c2 a5 a6 _ hc H.size) ⟨q_cB hts gw_1040 gw_3 gw_1038 hds_71 ⟨Nat.le_of_ble_eq_true rfl, Nat.le_of_ble_eq_true rfl⟩, hts _ gw_1039⟩ (q_pre (m_subP hP hal_) (m_subD hD hal_ hnd_) hK hSt hS (m_lF hD hS hA hal_) _) rfl rfl hl.1 rfl (lv_room (Nat.le_of_ble_eq_true rfl)) d_Si_verify_5 ⟨hkc, hks⟩) hP hD hS hA hal_ rfl (fun H locs hP hD hS => ?_)
  refine W.widen (k := κ) (n := σ) (Nat.le_refl _) (Nat.le_refl _) ?_
  obtain ⟨M4, eM_, hf⟩ := bnP hf
  have hP : va_P D classes (mw M4) H := by rw [eM_]; exact hP
  have hD : va_D A (mw M4) := by rw [eM_]; exact hD
  clear eM_ hal_ hnd_ hc
  refine lv_if_eq (tgt := 24) hx hb d_Si_verify_8 (by decide) (fun cx => ?_) (fun cx => ?_)
  · have hf := ifpP cx hf
    refine lv_iconst (v := 0) hx hb d_Si_verify_24 (by decide) ?_
    refine W.widen (k := MC) (n := MS) hkc hks ?_
    exact m_rz hf hx hb hr hlocks hK hP hD hS (isb_n (v := 0) (by decide)) d_Si_verify_25
  · have hf := ifnP cx hf
    refine lv_aload_n hx hb d_Si_verify_11 rfl (lv_at hl 1 rfl) ?_
    refine lv_iload hx hb d_Si_verify_12 (lv_at hl 5 rfl) ?_
    refine lv_iload hx hb d_Si_verify_14 (lv_at hl 6 rfl) ?_
    refine lv_iadd hx hb d_Si_verify_16 ?_
    refine lv_topi (fun v5 ev => ?_)
    have hf := bnQ ev hf
    clear ev
    refine lv_iconst (v := 1) hx hb d_Si_verify_17 (by decide) ?_
    refine lv_isub hx hb d_Si_verify_18 ?_
    refine lv_topi (fun v6 ev => ?_)
    have hf := bnQ ev hf
    clear ev
    obtain ⟨n_, f_, hm_, hin_, hf⟩ := hf
    obtain ⟨ix_, hi_⟩ := m_ix hm_
    refine va_bald hx hb hK hP ix_ 0 hi_ rfl (inb_in hin_) d_Si_verify_19 ?_
    obtain ⟨v7, ev⟩ : ∃ z, z = f_ v6.toNatClampNeg := ⟨_, rfl⟩
    first | rw [← ev] at hf ⊢ | rw [← ev]
    clear ev hi_ hm_ hin_
    refine lv_iconst (v := 1) hx hb d_Si_verify_20 (by decide) ?_
    refine lv_icmp_eq (tgt := 26) hx hb d_Si_verify_21 (by decide) (fun cx => ?_) (fun cx => ?_)
    · have hf := ifpP cx hf
      refine lv_aload_n hx hb d_Si_verify_26 rfl (lv_at hl 1 rfl) ?_
      refine lv_iload hx hb d_Si_verify_27 (lv_at hl 5 rfl) ?_
      refine lv_iconst (v := 3) hx hb d_Si_verify_29 (by decide) ?_
      refine lv_iadd hx hb d_Si_verify_30 ?_
      refine lv_topi (fun v8 ev => ?_)
      have hf := bnQ ev hf
      clear ev
      obtain ⟨n_, f_, hm_, hin_, hf⟩ := hf
      obtain ⟨ix_, hi_⟩ := m_ix hm_
      refine va_bald hx hb hK hP ix_ 0 hi_ rfl (inb_in hin_) d_Si_verify_31 ?_
      obtain ⟨v9, ev⟩ : ∃ z, z = f_ v8.toNatClampNeg := ⟨_, rfl⟩
      first | rw [← ev] at hf ⊢ | rw [← ev]
      clear ev hi_ hm_ hin_
      refine lv_istore (lv' := [(7, .int v9), (0, .ref a0), (1, .ref a1), (2, .int a2), (3, .int a3), (4, .int a4), (5, .int a5), (6, .int a6)]) hx hb d_Si_verify_32 hl (by decide) rfl (fun ls hl => ?_)
      refine lv_aload_n hx hb d_Si_verify_34 rfl (lv_at hl 2 rfl) ?_
      refine lv_iload hx hb d_Si_verify_35 (lv_at hl 6 rfl) ?_
      refine lv_iconst (v := 5) hx hb d_Si_verify_37 (by decide) ?_
      refine lv_iadd hx hb d_Si_verify_38 ?_
      refine lv_topi (fun v10 ev => ?_)
      have hf := bnQ ev hf
      clear ev
      refine lv_iload hx hb d_Si_verify_39 (lv_at hl 0 rfl) ?_
      refine lv_iadd hx hb d_Si_verify_41 ?_
      refine lv_topi (fun v11 ev => ?_)
      have hf := bnQ ev hf
      clear ev
      obtain ⟨n_, f_, hm_, hin_, hf⟩ := hf
      obtain ⟨ix_, hi_⟩ := m_ix hm_
      refine va_bald hx hb hK hP ix_ 0 hi_ rfl (inb_in hin_) d_Si_verify_42 ?_
      obtain ⟨v12, ev⟩ : ∃ z, z = f_ v11.toNatClampNeg := ⟨_, rfl⟩
      first | rw [← ev] at hf ⊢ | rw [← ev]
      clear ev hi_ hm_ hin_
      refine lv_istore (lv' := [(8, .int v12), (7, .int v9), (0, .ref a0), (1, .ref a1), (2, .int a2), (3, .int a3), (4, .int a4), (5, .int a5), (6, .int a6)]) hx hb d_Si_verify_43 hl (by decide) rfl (fun ls hl => ?_)
      refine lv_aload_n hx hb d_Si_verify_45 rfl (lv_at hl 3 rfl) ?_
      refine lv_iload hx hb d_Si_verify_46 (lv_at hl 7 rfl) ?_
      refine lv_iconst (v := 4) hx hb d_Si_verify_48 (by decide) ?_
      refine lv_iadd hx hb d_Si_verify_49 ?_
      refine lv_topi (fun v13 ev => ?_)
      have hf := bnQ ev hf
      clear ev
      refine lv_iload hx hb d_Si_verify_50 (lv_at hl 1 rfl) ?_
      refine lv_aload_n hx hb d_Si_verify_52 rfl (lv_at hl 2 rfl) ?_
      obtain ⟨fs_, hm_, r14, hv_, hf⟩ := hf
      obtain ⟨ix_, hi_⟩ := m_ix hm_
      refine va_get (D := D) (ci := 10) (v := va_rf r14) (C := "CoinKeeper$Signatures") (T := F_10) (N := 13) hx hb hts i_10 hown hK hP ix_ hi_ rfl 1 (by decide) (hts _ gw_140) (fun _ h9 => h9) hv_ d_Si_verify_53 ?_
      clear hv_ hi_ hm_
      obtain ⟨q15, rfl, hf⟩ := hf
      refine W.eq (g2 := F0 m 56 ls [.ref q15, .int v9, .int v13, .ref a1]) rfl ?_
      obtain ⟨c16, c17, c18, hal_, hnd_, v19, c20, hc, hf⟩ := hf
      refine m_li (va_runS (As := [.ref a1, .int v13, .int v9, .ref q15]) (rest := []) ⟨hx, hb, hml, hown, hts⟩ (c_Si_readNumber l D cy ad fu a1 q15 c16 c17 v13 v9 c18 _ hc H.size) ⟨q_cB hts gw_1046 gw_3 gw_1044 hds_72 ⟨Nat.le_of_ble_eq_true rfl, Nat.le_of_ble_eq_true rfl⟩, hts _ gw_1045⟩ (q_pre (m_subP hP hal_) (m_subD hD hal_ hnd_) hK hSt hS (m_lF hD hS hA hal_) _) rfl rfl hl.1 rfl (lv_room (Nat.le_of_ble_eq_true rfl)) d_Si_verify_56 ⟨hkc, hks⟩) hP hD hS hA hal_ rfl (fun H locs hP hD hS => ?_)
      refine W.widen (k := κ) (n := σ) (Nat.le_refl _) (Nat.le_refl _) ?_
      obtain ⟨M21, eM_, hf⟩ := bnP hf
      have hP : va_P D classes (mw M21) H := by rw [eM_]; exact hP
      have hD : va_D A (mw M21) := by rw [eM_]; exact hD
      clear eM_ hal_ hnd_ hc
      refine lv_if_eq (tgt := 103) hx hb d_Si_verify_59 (by decide) (fun cx => ?_) (fun cx => ?_)
      · have hf := ifpP cx hf
        refine lv_iconst (v := 0) hx hb d_Si_verify_103 (by decide) ?_
        refine W.widen (k := MC) (n := MS) hkc hks ?_
        exact m_rz hf hx hb hr hlocks hK hP hD hS (isb_n (v := 0) (by decide)) d_Si_verify_104
      · have hf := ifnP cx hf
        refine lv_aload_n hx hb d_Si_verify_62 rfl (lv_at hl 3 rfl) ?_
        refine lv_iload hx hb d_Si_verify_63 (lv_at hl 7 rfl) ?_
        refine lv_bipush (v := 6) hx hb d_Si_verify_65 (by decide) ?_
        refine lv_iadd hx hb d_Si_verify_67 ?_
        refine lv_topi (fun v22 ev => ?_)
        have hf := bnQ ev hf
        clear ev
        refine lv_iload hx hb d_Si_verify_68 (lv_at hl 1 rfl) ?_
        refine lv_iadd hx hb d_Si_verify_70 ?_
        refine lv_topi (fun v23 ev => ?_)
        have hf := bnQ ev hf
        clear ev
        refine lv_iload hx hb d_Si_verify_71 (lv_at hl 0 rfl) ?_
        refine lv_aload_n hx hb d_Si_verify_73 rfl (lv_at hl 2 rfl) ?_
        obtain ⟨fs_, hm_, r24, hv_, hf⟩ := hf
        obtain ⟨ix_, hi_⟩ := m_ix hm_
        refine va_get (D := D) (ci := 10) (v := va_rf r24) (C := "CoinKeeper$Signatures") (T := F_10) (N := 13) hx hb hts i_10 hown hK hP ix_ hi_ rfl 2 (by decide) (hts _ gw_141) (fun _ h9 => h9) hv_ d_Si_verify_74 ?_
        clear hv_ hi_ hm_
        obtain ⟨q25, rfl, hf⟩ := hf
        refine W.eq (g2 := F0 m 77 ls [.ref q25, .int v12, .int v23, .ref a1]) rfl ?_
        obtain ⟨c26, c27, c28, hal_, hnd_, v29, c30, hc, hf⟩ := hf
        refine m_li (va_runS (As := [.ref a1, .int v23, .int v12, .ref q25]) (rest := []) ⟨hx, hb, hml, hown, hts⟩ (c_Si_readNumber l D cy ad fu a1 q25 c26 c27 v23 v12 c28 _ hc H.size) ⟨q_cB hts gw_1046 gw_3 gw_1044 hds_72 ⟨Nat.le_of_ble_eq_true rfl, Nat.le_of_ble_eq_true rfl⟩, hts _ gw_1045⟩ (q_pre (m_subP hP hal_) (m_subD hD hal_ hnd_) hK hSt hS (m_lF hD hS hA hal_) _) rfl rfl hl.1 rfl (lv_room (Nat.le_of_ble_eq_true rfl)) d_Si_verify_77 ⟨hkc, hks⟩) hP hD hS hA hal_ rfl (fun H locs hP hD hS => ?_)
        refine W.widen (k := κ) (n := σ) (Nat.le_refl _) (Nat.le_refl _) ?_
        obtain ⟨M31, eM_, hf⟩ := bnP hf
        have hP : va_P D classes (mw M31) H := by rw [eM_]; exact hP
        have hD : va_D A (mw M31) := by rw [eM_]; exact hD
        clear eM_ hal_ hnd_ hc
        refine lv_if_eq (tgt := 103) hx hb d_Si_verify_80 (by decide) (fun cx => ?_) (fun cx => ?_)
        · have hf := ifpP cx hf
          refine lv_iconst (v := 0) hx hb d_Si_verify_103 (by decide) ?_
          refine W.widen (k := MC) (n := MS) hkc hks ?_
          exact m_rz hf hx hb hr hlocks hK hP hD hS (isb_n (v := 0) (by decide)) d_Si_verify_104
        · have hf := ifnP cx hf
          refine lv_aload_n hx hb d_Si_verify_83 rfl (lv_at hl 2 rfl) ?_
          obtain ⟨fs_, hm_, r32, hv_, hf⟩ := hf
          obtain ⟨ix_, hi_⟩ := m_ix hm_
          refine va_get (D := D) (ci := 10) (v := va_rf r32) (C := "CoinKeeper$Signatures") (T := F_10) (N := 13) hx hb hts i_10 hown hK hP ix_ hi_ rfl 0 (by decide) (hts _ gw_139) (fun _ h9 => h9) hv_ d_Si_verify_84 ?_
          clear hv_ hi_ hm_
          obtain ⟨q33, rfl, hf⟩ := hf
          refine W.eq (g2 := F0 m 87 ls [.ref q33]) rfl ?_
          refine lv_aload_n hx hb d_Si_verify_87 rfl (lv_at hl 3 rfl) ?_
          refine lv_iload_n hx hb d_Si_verify_88 rfl (lv_at hl 5 rfl) ?_
          refine lv_iload hx hb d_Si_verify_89 (lv_at hl 6 rfl) ?_
          refine lv_aload_n hx hb d_Si_verify_91 rfl (lv_at hl 2 rfl) ?_
          obtain ⟨fs_, hm_, r34, hv_, hf⟩ := hf
          obtain ⟨ix_, hi_⟩ := m_ix hm_
          refine va_get (D := D) (ci := 10) (v := va_rf r34) (C := "CoinKeeper$Signatures") (T := F_10) (N := 13) hx hb hts i_10 hown hK hP ix_ hi_ rfl 10 (by decide) (hts _ gw_149) (fun _ h9 => h9) hv_ d_Si_verify_92 ?_
          clear hv_ hi_ hm_
          obtain ⟨q35, rfl, hf⟩ := hf
          refine W.eq (g2 := F0 m 95 ls [.ref q35, .int a4, .int a3, .ref a1, .ref q33]) rfl ?_
          refine lv_iconst (v := 0) hx hb d_Si_verify_95 (by decide) ?_
          obtain ⟨n_, f_, hm_, hin_, hf⟩ := hf
          obtain ⟨ix_, hi_⟩ := m_ix hm_
          refine va_aldq hx hb hK hP ix_ 4 hi_ rfl (inb_in hin_) d_Si_verify_96 ?_
          obtain ⟨r36, ev⟩ : ∃ z, z = f_ (0 : Int32).toNatClampNeg := ⟨_, rfl⟩
          first | rw [← ev] at hf ⊢ | rw [← ev]
          clear ev hi_ hm_ hin_
          obtain ⟨q37, rfl, hf⟩ := hf
          refine W.eq (g2 := F0 m 97 ls [.ref q37, .int a4, .int a3, .ref a1, .ref q33]) rfl ?_
          obtain ⟨fs_, hm_, hf⟩ := hf
          obtain ⟨ix_, hi_⟩ := m_ix hm_
          obtain ⟨mc38, ms39, ⟨hc_, hd_⟩, hf⟩ := hf
          refine mm_ai (va_runV (C := "CoinKeeper$Curve") (As := [.ref a1, .int a3, .int a4, .ref q37]) (rest := []) ⟨hx, hb, hml, hown, hts⟩ (cw_mCu_readKey l D cy ad mi fu mc38 ms39 q33 a1 a3 a4 q37 M31 _ hf H.size) ⟨q_cB hts gw_1063 gw_4 gw_1060 hds_73 ⟨Nat.le_of_ble_eq_true rfl, Nat.le_of_ble_eq_true rfl⟩, hts _ gw_1061, hts _ gw_1062⟩ (q_preVM (q_preM hP hD hK hSt hT hMi hS (m_free hD hS hA) _) (va_recv hK hP (ci := 3) (q0 := ix_) rfl hi_)) rfl rfl hl.1 rfl (lv_room (Nat.le_of_ble_eq_true rfl)) d_Si_verify_97 ⟨hc_, hd_⟩) hD hS hA (fun v41 M40 H locs hf hP hD hS => ?_)
          have hkc : κ + mc38 ≤ MC := hc_
          have hks : σ + ms39 ≤ MS := hd_
          clear hc_ hd_
          refine lv_if_ne (tgt := 105) hx hb d_Si_verify_100 (by decide) (fun cx => ?_) (fun cx => ?_)
          · have hf := ifnP cx hf
            refine lv_aload_n hx hb d_Si_verify_105 rfl (lv_at hl 3 rfl) ?_
            refine lv_iload_n hx hb d_Si_verify_106 rfl (lv_at hl 4 rfl) ?_
            refine lv_bipush (v := 32) hx hb d_Si_verify_107 (by decide) ?_
            refine lv_aload_n hx hb d_Si_verify_109 rfl (lv_at hl 2 rfl) ?_
            obtain ⟨fs_, hm_, r42, hv_, hf⟩ := hf
            obtain ⟨ix_, hi_⟩ := m_ix hm_
            refine va_get (D := D) (ci := 10) (v := va_rf r42) (C := "CoinKeeper$Signatures") (T := F_10) (N := 13) hx hb hts i_10 hown hK hP ix_ hi_ rfl 3 (by decide) (hts _ gw_142) (fun _ h9 => h9) hv_ d_Si_verify_110 ?_
            clear hv_ hi_ hm_
            obtain ⟨q43, rfl, hf⟩ := hf
            refine W.eq (g2 := F0 m 113 ls [.ref q43, .int (32 : Int32), .int a2, .ref a1]) rfl ?_
            obtain ⟨c44, c45, c46, hal_, hnd_, c47, hc, hf⟩ := hf
            refine m_lv (va_runS (As := [.ref a1, .int a2, .int (32 : Int32), .ref q43]) (rest := []) ⟨hx, hb, hml, hown, hts⟩ (c_Sc_load l D cy ad fu a1 q43 c44 c45 a2 (32 : Int32) c46 _ hc H.size) ⟨q_cB hts gw_1049 gw_28 gw_1047 hds_74 ⟨Nat.le_of_ble_eq_true rfl, Nat.le_of_ble_eq_true rfl⟩, hts _ gw_1048⟩ (q_pre (m_subP hP hal_) (m_subD hD hal_ hnd_) hK hSt hS (m_lF hD hS hA hal_) _) rfl rfl hl.1 rfl (lv_room (Nat.le_of_ble_eq_true rfl)) d_Si_verify_113 ⟨hkc, hks⟩) hP hD hS hA hal_ rfl (fun H locs hP hD hS => ?_)
            refine W.widen (k := κ + mc38) (n := σ + ms39) (Nat.le_refl _) (Nat.le_refl _) ?_
            obtain ⟨M48, eM_, hf⟩ := bnP hf
            have hP : va_P D classes (mw M48) H := by rw [eM_]; exact hP
            have hD : va_D A (mw M48) := by rw [eM_]; exact hD
            clear eM_ hal_ hnd_ hc
            refine lv_aload_n hx hb d_Si_verify_116 rfl (lv_at hl 2 rfl) ?_
            obtain ⟨fs_, hm_, r49, hv_, hf⟩ := hf
            obtain ⟨ix_, hi_⟩ := m_ix hm_
            refine va_get (D := D) (ci := 10) (v := va_rf r49) (C := "CoinKeeper$Signatures") (T := F_10) (N := 13) hx hb hts i_10 hown hK hP ix_ hi_ rfl 3 (by decide) (hts _ gw_142) (fun _ h9 => h9) hv_ d_Si_verify_117 ?_
            clear hv_ hi_ hm_
            obtain ⟨q50, rfl, hf⟩ := hf
            refine W.eq (g2 := F0 m 120 ls [.ref q50]) rfl ?_
            refine va_gets hx hb (hSt.1 4 _ rfl).1 hS hown (hts _ gw_1055) (fun _ h9 => h9) d_Si_verify_120 ?_
            obtain ⟨c51, hal_, hnd_, v52, hc, hf⟩ := hf
            refine m_li (va_runS (As := [.ref q50, .ref (ad 4)]) (rest := []) ⟨hx, hb, hml, hown, hts⟩ (c_Sc_compare_s1x4 l D cy ad fu q50 c51 _ hc H.size) ⟨q_cB hts gw_1059 gw_28 gw_1057 hds_59 ⟨Nat.le_of_ble_eq_true rfl, Nat.le_of_ble_eq_true rfl⟩, hts _ gw_1058⟩ (q_pre (m_subP hP hal_) (m_subD hD hal_ hnd_) hK hSt hS (m_lF hD hS hA hal_) _) rfl rfl hl.1 rfl (lv_room (Nat.le_of_ble_eq_true rfl)) d_Si_verify_123 ⟨hkc, hks⟩) hP hD hS hA hal_ rfl (fun H locs hP hD hS => ?_)
            refine W.widen (k := κ + mc38) (n := σ + ms39) (Nat.le_refl _) (Nat.le_refl _) ?_
            obtain ⟨M53, eM_, hf⟩ := bnP hf
            have hP : va_P D classes (mw M53) H := by rw [eM_]; exact hP
            have hD : va_D A (mw M53) := by rw [eM_]; exact hD
            clear eM_ hal_ hnd_ hc
            refine lv_if_lt (tgt := 139) hx hb d_Si_verify_126 (by decide) (fun cx => ?_) (fun cx => ?_)
            · have hf := ifpP cx hf
              exact wv_mSi_verify_139 (fu := fu) F _ _ _ _ hf hkc hks _ _ _ hP hD hS (lv_sub hl [2] rfl)
            · have hf := ifnP cx hf
              refine lv_aload_n hx hb d_Si_verify_129 rfl (lv_at hl 2 rfl) ?_
              obtain ⟨fs_, hm_, r54, hv_, hf⟩ := hf
              obtain ⟨ix_, hi_⟩ := m_ix hm_
              refine va_get (D := D) (ci := 10) (v := va_rf r54) (C := "CoinKeeper$Signatures") (T := F_10) (N := 13) hx hb hts i_10 hown hK hP ix_ hi_ rfl 3 (by decide) (hts _ gw_142) (fun _ h9 => h9) hv_ d_Si_verify_130 ?_
              clear hv_ hi_ hm_
              obtain ⟨q55, rfl, hf⟩ := hf
              refine W.eq (g2 := F0 m 133 ls [.ref q55]) rfl ?_
              refine va_gets hx hb (hSt.1 4 _ rfl).1 hS hown (hts _ gw_1055) (fun _ h9 => h9) d_Si_verify_133 ?_
              obtain ⟨c56, hal_, hnd_, c57, hc, hf⟩ := hf
              refine m_lv (va_runS (As := [.ref q55, .ref (ad 4)]) (rest := []) ⟨hx, hb, hml, hown, hts⟩ (c_Sc_subtract_s1x4 l D cy ad fu q55 c56 _ hc H.size) ⟨q_cB hts gw_1106 gw_28 gw_1104 hds_56 ⟨Nat.le_of_ble_eq_true rfl, Nat.le_of_ble_eq_true rfl⟩, hts _ gw_1105⟩ (q_pre (m_subP hP hal_) (m_subD hD hal_ hnd_) hK hSt hS (m_lF hD hS hA hal_) _) rfl rfl hl.1 rfl (lv_room (Nat.le_of_ble_eq_true rfl)) d_Si_verify_136 ⟨hkc, hks⟩) hP hD hS hA hal_ rfl (fun H locs hP hD hS => ?_)
              refine W.widen (k := κ + mc38) (n := σ + ms39) (Nat.le_refl _) (Nat.le_refl _) ?_
              obtain ⟨M58, eM_, hf⟩ := bnP hf
              have hP : va_P D classes (mw M58) H := by rw [eM_]; exact hP
              have hD : va_D A (mw M58) := by rw [eM_]; exact hD
              clear eM_ hal_ hnd_ hc
              exact wv_mSi_verify_139 (fu := fu) F _ _ _ _ hf hkc hks _ _ _ hP hD hS (lv_sub hl [2] rfl)
          · have hf := ifpP cx hf
            refine lv_iconst (v := 0) hx hb d_Si_verify_103 (by decide) ?_
            refine W.widen (k := MC) (n := MS) hkc hks ?_
            exact m_rz hf hx hb hr hlocks hK hP hD hS (isb_n (v := 0) (by decide)) d_Si_verify_104
    · have hf := ifnP cx hf
      refine lv_iconst (v := 0) hx hb d_Si_verify_24 (by decide) ?_
      refine W.widen (k := MC) (n := MS) hkc hks ?_
      exact m_rz hf hx hb hr hlocks hK hP hD hS (isb_n (v := 0) (by decide)) d_Si_verify_25
theorem cw_mSi_verify (l : Launch) (D : va_G) (cy : Nat → ClassId) (ad : Nat → Nat) (mi fu MC MS : Nat) (a0 : Nat) (a1 : Nat) (a2 : Int32) (a3 : Int32) (a4 : Int32) (a5 : Int32) (a6 : Int32) (M : Mm) (Φ : Int32 → Mm → Prop) (hf : xw_mSi_verify fu MC MS cy ad mi Φ 0 0 M a0 a1 a2 a3 a4 a5 a6) (sz : Nat) : Met l ({ cls := "CoinKeeper$Signatures", name := "verify", desc := "([BIIIII)Z" } : Jvm.MethodName) (.code ({ cls := "CoinKeeper$Signatures", name := "verify", desc := "([BIIIII)Z" } : Jvm.MethodName) b_Si_verify 9 (some .boolean) :: gw) (rmw_mSi_verify MC MS) (va_Pc [.ref a0, .ref a1, .int a2, .int a3, .int a4, .int a5, .int a6] (PrM D cy ad mi (mw M) sz)) (va_Qi Φ (fun u t => Po D cy (va_A (mw M) sz) (mw u) t) (va_A (mw M) sz)) MC MS (va_A (mw M) sz) :=
  q_metM (Qc := fun A => va_Qi Φ (fun u t => Po D cy A (mw u) t) A) (by decide) rfl rfl (Nat.le_of_ble_eq_true rfl) (fun p e s m below meth c ls F hP hD hS hl => wew_mSi_verify (fu := fu) F 0 0 M a0 a1 a2 a3 a4 a5 a6 hf (Nat.zero_le _) (Nat.zero_le _) _ _ _ hP hD hS hl) sz
abbrev b_Ma_writeMessage : ByteArray := prog_7_method_33_code
theorem d_Ma_writeMessage_0 : decode b_Ma_writeMessage 0 = .ok (.aload_n 0, 1) := by decide +kernel
theorem d_Ma_writeMessage_1 : decode b_Ma_writeMessage 1 = .ok (.getfield 54, 3) := by decide +kernel
theorem d_Ma_writeMessage_4 : decode b_Ma_writeMessage 4 = .ok (.getfield 214, 3) := by decide +kernel
theorem d_Ma_writeMessage_7 : decode b_Ma_writeMessage 7 = .ok (.astore_n 1, 1) := by decide +kernel
theorem d_Ma_writeMessage_8 : decode b_Ma_writeMessage 8 = .ok (.aload_n 0, 1) := by decide +kernel
theorem d_Ma_writeMessage_9 : decode b_Ma_writeMessage 9 = .ok (.getfield 54, 3) := by decide +kernel
theorem d_Ma_writeMessage_12 : decode b_Ma_writeMessage 12 = .ok (.getfield 219, 3) := by decide +kernel
theorem d_Ma_writeMessage_15 : decode b_Ma_writeMessage 15 = .ok (.aload_n 0, 1) := by decide +kernel
theorem d_Ma_writeMessage_16 : decode b_Ma_writeMessage 16 = .ok (.getfield 58, 3) := by decide +kernel
theorem d_Ma_writeMessage_19 : decode b_Ma_writeMessage 19 = .ok (.iaload, 1) := by decide +kernel
theorem d_Ma_writeMessage_20 : decode b_Ma_writeMessage 20 = .ok (.istore_n 2, 1) := by decide +kernel
theorem d_Ma_writeMessage_21 : decode b_Ma_writeMessage 21 = .ok (.aload_n 0, 1) := by decide +kernel
theorem d_Ma_writeMessage_22 : decode b_Ma_writeMessage 22 = .ok (.getfield 36, 3) := by decide +kernel
theorem d_Ma_writeMessage_25 : decode b_Ma_writeMessage 25 = .ok (.invokevirtual 222, 3) := by decide +kernel
theorem d_Ma_writeMessage_28 : decode b_Ma_writeMessage 28 = .ok (.aload_n 0, 1) := by decide +kernel
theorem d_Ma_writeMessage_29 : decode b_Ma_writeMessage 29 = .ok (.getfield 54, 3) := by decide +kernel
theorem d_Ma_writeMessage_32 : decode b_Ma_writeMessage 32 = .ok (.getfield 225, 3) := by decide +kernel
theorem d_Ma_writeMessage_35 : decode b_Ma_writeMessage 35 = .ok (.aload_n 0, 1) := by decide +kernel
theorem d_Ma_writeMessage_36 : decode b_Ma_writeMessage 36 = .ok (.getfield 58, 3) := by decide +kernel
theorem d_Ma_writeMessage_39 : decode b_Ma_writeMessage 39 = .ok (.iaload, 1) := by decide +kernel
theorem d_Ma_writeMessage_40 : decode b_Ma_writeMessage 40 = .ok (.istore_n 3, 1) := by decide +kernel
theorem d_Ma_writeMessage_41 : decode b_Ma_writeMessage 41 = .ok (.iload_n 3, 1) := by decide +kernel
theorem d_Ma_writeMessage_42 : decode b_Ma_writeMessage 42 = .ok (.aload_n 0, 1) := by decide +kernel
theorem d_Ma_writeMessage_43 : decode b_Ma_writeMessage 43 = .ok (.getfield 54, 3) := by decide +kernel
theorem d_Ma_writeMessage_46 : decode b_Ma_writeMessage 46 = .ok (.getfield 225, 3) := by decide +kernel
theorem d_Ma_writeMessage_49 : decode b_Ma_writeMessage 49 = .ok (.aload_n 0, 1) := by decide +kernel
theorem d_Ma_writeMessage_50 : decode b_Ma_writeMessage 50 = .ok (.getfield 58, 3) := by decide +kernel
theorem d_Ma_writeMessage_53 : decode b_Ma_writeMessage 53 = .ok (.iconst 1, 1) := by decide +kernel
theorem d_Ma_writeMessage_54 : decode b_Ma_writeMessage 54 = .ok (.iadd, 1) := by decide +kernel
theorem d_Ma_writeMessage_55 : decode b_Ma_writeMessage 55 = .ok (.iaload, 1) := by decide +kernel
theorem d_Ma_writeMessage_56 : decode b_Ma_writeMessage 56 = .ok (.if_icmp .ge 94, 3) := by decide +kernel
theorem d_Ma_writeMessage_59 : decode b_Ma_writeMessage 59 = .ok (.aload_n 0, 1) := by decide +kernel
theorem d_Ma_writeMessage_60 : decode b_Ma_writeMessage 60 = .ok (.getfield 36, 3) := by decide +kernel
theorem d_Ma_writeMessage_63 : decode b_Ma_writeMessage 63 = .ok (.aload_n 1, 1) := by decide +kernel
theorem d_Ma_writeMessage_64 : decode b_Ma_writeMessage 64 = .ok (.iload_n 2, 1) := by decide +kernel
theorem d_Ma_writeMessage_65 : decode b_Ma_writeMessage 65 = .ok (.aload_n 0, 1) := by decide +kernel
theorem d_Ma_writeMessage_66 : decode b_Ma_writeMessage 66 = .ok (.getfield 54, 3) := by decide +kernel
theorem d_Ma_writeMessage_69 : decode b_Ma_writeMessage 69 = .ok (.getfield 228, 3) := by decide +kernel
theorem d_Ma_writeMessage_72 : decode b_Ma_writeMessage 72 = .ok (.iload_n 3, 1) := by decide +kernel
theorem d_Ma_writeMessage_73 : decode b_Ma_writeMessage 73 = .ok (.iaload, 1) := by decide +kernel
theorem d_Ma_writeMessage_74 : decode b_Ma_writeMessage 74 = .ok (.bipush 36, 2) := by decide +kernel
theorem d_Ma_writeMessage_76 : decode b_Ma_writeMessage 76 = .ok (.iadd, 1) := by decide +kernel
theorem d_Ma_writeMessage_77 : decode b_Ma_writeMessage 77 = .ok (.invokevirtual 231, 3) := by decide +kernel
theorem d_Ma_writeMessage_80 : decode b_Ma_writeMessage 80 = .ok (.iload_n 3, 1) := by decide +kernel
theorem d_Ma_writeMessage_81 : decode b_Ma_writeMessage 81 = .ok (.aload_n 0, 1) := by decide +kernel
theorem d_Ma_writeMessage_82 : decode b_Ma_writeMessage 82 = .ok (.getfield 62, 3) := by decide +kernel
theorem d_Ma_writeMessage_85 : decode b_Ma_writeMessage 85 = .ok (.if_icmp .ne 37, 3) := by decide +kernel
theorem d_Ma_writeMessage_88 : decode b_Ma_writeMessage 88 = .ok (.aload_n 0, 1) := by decide +kernel
theorem d_Ma_writeMessage_89 : decode b_Ma_writeMessage 89 = .ok (.getfield 36, 3) := by decide +kernel
theorem d_Ma_writeMessage_92 : decode b_Ma_writeMessage 92 = .ok (.aload_n 0, 1) := by decide +kernel
theorem d_Ma_writeMessage_93 : decode b_Ma_writeMessage 93 = .ok (.getfield 65, 3) := by decide +kernel
theorem d_Ma_writeMessage_96 : decode b_Ma_writeMessage 96 = .ok (.getfield 235, 3) := by decide +kernel
theorem d_Ma_writeMessage_99 : decode b_Ma_writeMessage 99 = .ok (.getfield 241, 3) := by decide +kernel
theorem d_Ma_writeMessage_102 : decode b_Ma_writeMessage 102 = .ok (.aload_n 0, 1) := by decide +kernel
theorem d_Ma_writeMessage_103 : decode b_Ma_writeMessage 103 = .ok (.getfield 65, 3) := by decide +kernel
theorem d_Ma_writeMessage_106 : decode b_Ma_writeMessage 106 = .ok (.getfield 244, 3) := by decide +kernel
theorem d_Ma_writeMessage_109 : decode b_Ma_writeMessage 109 = .ok (.aload_n 0, 1) := by decide +kernel
theorem d_Ma_writeMessage_110 : decode b_Ma_writeMessage 110 = .ok (.getfield 65, 3) := by decide +kernel
theorem d_Ma_writeMessage_113 : decode b_Ma_writeMessage 113 = .ok (.getfield 247, 3) := by decide +kernel
theorem d_Ma_writeMessage_116 : decode b_Ma_writeMessage 116 = .ok (.invokevirtual 231, 3) := by decide +kernel
theorem d_Ma_writeMessage_119 : decode b_Ma_writeMessage 119 = .ok (.goto 15, 3) := by decide +kernel
theorem d_Ma_writeMessage_122 : decode b_Ma_writeMessage 122 = .ok (.aload_n 0, 1) := by decide +kernel
theorem d_Ma_writeMessage_123 : decode b_Ma_writeMessage 123 = .ok (.getfield 36, 3) := by decide +kernel
theorem d_Ma_writeMessage_126 : decode b_Ma_writeMessage 126 = .ok (.getstatic 249, 3) := by decide +kernel
theorem d_Ma_writeMessage_129 : decode b_Ma_writeMessage 129 = .ok (.iconst 1, 1) := by decide +kernel
theorem d_Ma_writeMessage_130 : decode b_Ma_writeMessage 130 = .ok (.iconst 2, 1) := by decide +kernel
theorem d_Ma_writeMessage_131 : decode b_Ma_writeMessage 131 = .ok (.invokevirtual 231, 3) := by decide +kernel
theorem d_Ma_writeMessage_134 : decode b_Ma_writeMessage 134 = .ok (.aload_n 0, 1) := by decide +kernel
theorem d_Ma_writeMessage_135 : decode b_Ma_writeMessage 135 = .ok (.getfield 54, 3) := by decide +kernel
theorem d_Ma_writeMessage_138 : decode b_Ma_writeMessage 138 = .ok (.getfield 252, 3) := by decide +kernel
theorem d_Ma_writeMessage_141 : decode b_Ma_writeMessage 141 = .ok (.iload_n 3, 1) := by decide +kernel
theorem d_Ma_writeMessage_142 : decode b_Ma_writeMessage 142 = .ok (.iaload, 1) := by decide +kernel
theorem d_Ma_writeMessage_143 : decode b_Ma_writeMessage 143 = .ok (.istore_n 2, 1) := by decide +kernel
theorem d_Ma_writeMessage_144 : decode b_Ma_writeMessage 144 = .ok (.iinc 3 1, 3) := by decide +kernel
theorem d_Ma_writeMessage_147 : decode b_Ma_writeMessage 147 = .ok (.goto (-106), 3) := by decide +kernel
theorem d_Ma_writeMessage_150 : decode b_Ma_writeMessage 150 = .ok (.aload_n 0, 1) := by decide +kernel
theorem d_Ma_writeMessage_151 : decode b_Ma_writeMessage 151 = .ok (.getfield 36, 3) := by decide +kernel
theorem d_Ma_writeMessage_154 : decode b_Ma_writeMessage 154 = .ok (.aload_n 1, 1) := by decide +kernel
theorem d_Ma_writeMessage_155 : decode b_Ma_writeMessage 155 = .ok (.iload_n 2, 1) := by decide +kernel
theorem d_Ma_writeMessage_156 : decode b_Ma_writeMessage 156 = .ok (.aload_n 0, 1) := by decide +kernel
theorem d_Ma_writeMessage_157 : decode b_Ma_writeMessage 157 = .ok (.getfield 54, 3) := by decide +kernel
theorem d_Ma_writeMessage_160 : decode b_Ma_writeMessage 160 = .ok (.getfield 219, 3) := by decide +kernel
theorem d_Ma_writeMessage_163 : decode b_Ma_writeMessage 163 = .ok (.aload_n 0, 1) := by decide +kernel
theorem d_Ma_writeMessage_164 : decode b_Ma_writeMessage 164 = .ok (.getfield 58, 3) := by decide +kernel
theorem d_Ma_writeMessage_167 : decode b_Ma_writeMessage 167 = .ok (.iconst 1, 1) := by decide +kernel
theorem d_Ma_writeMessage_168 : decode b_Ma_writeMessage 168 = .ok (.iadd, 1) := by decide +kernel
theorem d_Ma_writeMessage_169 : decode b_Ma_writeMessage 169 = .ok (.iaload, 1) := by decide +kernel
theorem d_Ma_writeMessage_170 : decode b_Ma_writeMessage 170 = .ok (.invokevirtual 231, 3) := by decide +kernel
theorem d_Ma_writeMessage_173 : decode b_Ma_writeMessage 173 = .ok (.aload_n 0, 1) := by decide +kernel
theorem d_Ma_writeMessage_174 : decode b_Ma_writeMessage 174 = .ok (.getfield 36, 3) := by decide +kernel
theorem d_Ma_writeMessage_177 : decode b_Ma_writeMessage 177 = .ok (.getstatic 249, 3) := by decide +kernel
theorem d_Ma_writeMessage_180 : decode b_Ma_writeMessage 180 = .ok (.iconst 0, 1) := by decide +kernel
theorem d_Ma_writeMessage_181 : decode b_Ma_writeMessage 181 = .ok (.iconst 4, 1) := by decide +kernel
theorem d_Ma_writeMessage_182 : decode b_Ma_writeMessage 182 = .ok (.invokevirtual 231, 3) := by decide +kernel
theorem d_Ma_writeMessage_185 : decode b_Ma_writeMessage 185 = .ok (.aload_n 0, 1) := by decide +kernel
theorem d_Ma_writeMessage_186 : decode b_Ma_writeMessage 186 = .ok (.getfield 36, 3) := by decide +kernel
theorem d_Ma_writeMessage_189 : decode b_Ma_writeMessage 189 = .ok (.aload_n 0, 1) := by decide +kernel
theorem d_Ma_writeMessage_190 : decode b_Ma_writeMessage 190 = .ok (.getfield 18, 3) := by decide +kernel
theorem d_Ma_writeMessage_193 : decode b_Ma_writeMessage 193 = .ok (.iconst 0, 1) := by decide +kernel
theorem d_Ma_writeMessage_194 : decode b_Ma_writeMessage 194 = .ok (.invokevirtual 255, 3) := by decide +kernel
theorem d_Ma_writeMessage_197 : decode b_Ma_writeMessage 197 = .ok (.aload_n 0, 1) := by decide +kernel
theorem d_Ma_writeMessage_198 : decode b_Ma_writeMessage 198 = .ok (.getfield 36, 3) := by decide +kernel
theorem d_Ma_writeMessage_201 : decode b_Ma_writeMessage 201 = .ok (.invokevirtual 222, 3) := by decide +kernel
theorem d_Ma_writeMessage_204 : decode b_Ma_writeMessage 204 = .ok (.aload_n 0, 1) := by decide +kernel
theorem d_Ma_writeMessage_205 : decode b_Ma_writeMessage 205 = .ok (.getfield 36, 3) := by decide +kernel
theorem d_Ma_writeMessage_208 : decode b_Ma_writeMessage 208 = .ok (.aload_n 0, 1) := by decide +kernel
theorem d_Ma_writeMessage_209 : decode b_Ma_writeMessage 209 = .ok (.getfield 18, 3) := by decide +kernel
theorem d_Ma_writeMessage_212 : decode b_Ma_writeMessage 212 = .ok (.iconst 0, 1) := by decide +kernel
theorem d_Ma_writeMessage_213 : decode b_Ma_writeMessage 213 = .ok (.bipush 32, 2) := by decide +kernel
theorem d_Ma_writeMessage_215 : decode b_Ma_writeMessage 215 = .ok (.invokevirtual 231, 3) := by decide +kernel
theorem d_Ma_writeMessage_218 : decode b_Ma_writeMessage 218 = .ok (.aload_n 0, 1) := by decide +kernel
theorem d_Ma_writeMessage_219 : decode b_Ma_writeMessage 219 = .ok (.getfield 36, 3) := by decide +kernel
theorem d_Ma_writeMessage_222 : decode b_Ma_writeMessage 222 = .ok (.aload_n 0, 1) := by decide +kernel
theorem d_Ma_writeMessage_223 : decode b_Ma_writeMessage 223 = .ok (.getfield 18, 3) := by decide +kernel
theorem d_Ma_writeMessage_226 : decode b_Ma_writeMessage 226 = .ok (.iconst 0, 1) := by decide +kernel
theorem d_Ma_writeMessage_227 : decode b_Ma_writeMessage 227 = .ok (.invokevirtual 255, 3) := by decide +kernel
theorem d_Ma_writeMessage_230 : decode b_Ma_writeMessage 230 = .ok (.return_, 1) := by decide +kernel
abbrev rmw_mMa_writeMessage (MC MS : Nat) : Room := { frames := 2, cells := MC, slots := MS, locals := 57 }
def Iw_mMa_writeMessage_134 (p : Program) (l : Launch) (e : Env) (s : State) (m : MethodId) (args : Array Value) (below : List Frame) (meth : Method) (c : Code) (D : va_G) (cy : Nat → ClassId) (A : Nat → Prop) (ad : Nat → Nat) (mi MC MS : Nat) (Φ : Mm → Prop) (k : Nat → Nat → Mm → Nat → Nat → Int32 → Prop) : Prop :=
  ∀ (κ σ : Nat) (M : Mm) (x0 : Nat) (x1 : Nat) (x3 : Int32), k κ σ M x0 x1 x3 → κ ≤ MC → σ ≤ MS → ∀ (H : Heap) (locs : List Loc) (ls : Array Slot), va_P D classes (mw M) H → va_D A (mw M) → va_S A s.heap H locs → lv_has ls 4 [(0, .ref x0), (1, .ref x1), (3, .int x3)] → W p l e (rmw_mMa_writeMessage MC MS) s m args below meth c H locs κ σ (MQ below (va_Qv Φ (fun u t => Po D cy A (mw u) t) A) args s MC MS A) (F0 m 134 ls [])
def Iw_mMa_writeMessage_41 (p : Program) (l : Launch) (e : Env) (s : State) (m : MethodId) (args : Array Value) (below : List Frame) (meth : Method) (c : Code) (D : va_G) (cy : Nat → ClassId) (A : Nat → Prop) (ad : Nat → Nat) (mi MC MS : Nat) (Φ : Mm → Prop) (k : Nat → Nat → Mm → Nat → Option Nat → Int32 → Int32 → Prop) : Prop :=
  ∀ (κ σ : Nat) (M : Mm) (x0 : Nat) (x1 : Option Nat) (x2 : Int32) (x3 : Int32), k κ σ M x0 x1 x2 x3 → κ ≤ MC → σ ≤ MS → ∀ (H : Heap) (locs : List Loc) (ls : Array Slot), va_P D classes (mw M) H → va_D A (mw M) → va_S A s.heap H locs → lv_has ls 4 [(0, .ref x0), (1, va_rf x1), (2, .int x2), (3, .int x3)] → W p l e (rmw_mMa_writeMessage MC MS) s m args below meth c H locs κ σ (MQ below (va_Qv Φ (fun u t => Po D cy A (mw u) t) A) args s MC MS A) (F0 m 41 ls [])
def Iw_mMa_writeMessage_e (p : Program) (l : Launch) (e : Env) (s : State) (m : MethodId) (args : Array Value) (below : List Frame) (meth : Method) (c : Code) (D : va_G) (cy : Nat → ClassId) (A : Nat → Prop) (ad : Nat → Nat) (mi MC MS : Nat) (Φ : Mm → Prop) (k : Nat → Nat → Mm → Nat → Prop) : Prop :=
  ∀ (κ σ : Nat) (M : Mm) (a0 : Nat), k κ σ M a0 → κ ≤ MC → σ ≤ MS → ∀ (H : Heap) (locs : List Loc) (ls : Array Slot), va_P D classes (mw M) H → va_D A (mw M) → va_S A s.heap H locs → lv_has ls 4 [(0, .ref a0)] → W p l e (rmw_mMa_writeMessage MC MS) s m args below meth c H locs κ σ (MQ below (va_Qv Φ (fun u t => Po D cy A (mw u) t) A) args s MC MS A) (F0 m 0 ls [])
set_option maxHeartbeats 8000000 in
set_option maxRecDepth 100000 in
theorem wv_mMa_writeMessage_134 {p : Program} {l : Launch} {e : Env} {s : State} {m : MethodId} {args : Array Value} {below : List Frame} {meth : Method} {c : Code} {D : va_G} {cy : Nat → ClassId} {A : Nat → Prop} {ad : Nat → Nat} {mi MC MS : Nat} {Φ : Mm → Prop} {fu : Nat} {k_41 : Nat → Nat → Mm → Nat → Option Nat → Int32 → Int32 → Prop} (F : FxM p s m args meth c b_Ma_writeMessage 4 "CoinKeeper$Machine" "writeMessage" none D cy ad mi A) (hk_41 : Iw_mMa_writeMessage_41 p l e s m args below meth c D cy A ad mi MC MS Φ k_41) : Iw_mMa_writeMessage_134 p l e s m args below meth c D cy A ad mi MC MS Φ (xv_mMa_writeMessage_134 fu MC MS cy ad mi Φ k_41) := by
  obtain ⟨⟨hx, hb, hr, hml, hown, hts, hlocks, hK, hA, hSt, hnm, hex⟩, hT, hMi⟩ := id F
  intro κ σ M x0 x1 x3 hf hkc hks H locs ls hP hD hS hl
  unfold xv_mMa_writeMessage_134 at hf
  refine lv_aload_n hx hb d_Ma_writeMessage_134 rfl (lv_at hl 0 rfl) ?_
  obtain ⟨fs_, hm_, r1, hv_, hf⟩ := hf
  obtain ⟨ix_, hi_⟩ := m_ix hm_
  refine va_get (D := D) (ci := 6) (v := va_rf r1) (C := "CoinKeeper$Machine") (T := F_6) (N := 19) hx hb hts i_6 hown hK hP ix_ hi_ rfl 14 (by decide) (hts _ gw_218) (fun _ h9 => h9) hv_ d_Ma_writeMessage_135 ?_
  clear hv_ hi_ hm_
  have hq_ := ospp hf
  clear hf
  rcases hq_ with ⟨rfl, hf⟩ | ⟨q2, rfl, hf⟩
  · refine W.eq (g2 := F0 m 138 ls [.null]) rfl ?_
    exact hf.elim
  · refine W.eq (g2 := F0 m 138 ls [.ref q2]) rfl ?_
    obtain ⟨fs_, hm_, r3, hv_, hf⟩ := hf
    obtain ⟨ix_, hi_⟩ := m_ix hm_
    refine va_get (D := D) (ci := 4) (v := va_rf r3) (C := "CoinKeeper$Layout") (T := F_4) (N := 15) hx hb hts i_4 hown hK hP ix_ hi_ rfl 7 (by decide) (hts _ gw_289) (fun _ h9 => h9) hv_ d_Ma_writeMessage_138 ?_
    clear hv_ hi_ hm_
    obtain ⟨q4, rfl, hf⟩ := hf
    refine W.eq (g2 := F0 m 141 ls [.ref q4]) rfl ?_
    refine lv_iload_n hx hb d_Ma_writeMessage_141 rfl (lv_at hl 2 rfl) ?_
    obtain ⟨n_, f_, hm_, hin_, hf⟩ := hf
    obtain ⟨ix_, hi_⟩ := m_ix hm_
    refine va_iald hx hb hK hP ix_ 1 hi_ rfl (inb_in hin_) d_Ma_writeMessage_142 ?_
    obtain ⟨v5, ev⟩ : ∃ z, z = f_ x3.toNatClampNeg := ⟨_, rfl⟩
    first | rw [← ev] at hf ⊢ | rw [← ev]
    clear ev hi_ hm_ hin_
    refine lv_istore_n (lv' := [(2, .int v5), (0, .ref x0), (1, .ref x1), (3, .int x3)]) hx hb d_Ma_writeMessage_143 rfl hl (by decide) rfl (fun ls hl => ?_)
    obtain ⟨v6, ev, hf⟩ := bnP hf
    refine lv_iinc (v := v6) (lv' := [(3, .int v6), (2, .int v5), (0, .ref x0), (1, .ref x1)]) hx hb d_Ma_writeMessage_144 hl (k := 3) rfl (by rw [ev]; rfl) (by decide) rfl (fun ls hl => ?_)
    clear ev
    refine lv_goto (tgt := 41) hx hb d_Ma_writeMessage_147 (by decide) ?_
    have hl : lv_has ls 4 [(0, .ref x0), (1, va_rf (some x1)), (2, .int v5), (3, .int v6)] := lv_sub hl [2, 3, 1, 0] rfl
    exact hk_41 _ _ _ _ _ _ _ hf hkc hks _ _ _ hP hD hS hl
theorem hds_76 : ({ cls := "CoinKeeper$Sha256", name := "add", desc := "([BII)V" } : Jvm.MethodName).cls ≠ "java/lang/invoke/MethodHandle" ∧ ({ cls := "CoinKeeper$Sha256", name := "add", desc := "([BII)V" } : Jvm.MethodName).cls ≠ "java/lang/invoke/VarHandle" ∧ (parseMethodDescriptor ({ cls := "CoinKeeper$Sha256", name := "add", desc := "([BII)V" } : Jvm.MethodName).desc).map (fun d => d.parameters.length) = some 3 := by decide +kernel
theorem hds_77 : ({ cls := "CoinKeeper$Sha256", name := "finish", desc := "([BI)V" } : Jvm.MethodName).cls ≠ "java/lang/invoke/MethodHandle" ∧ ({ cls := "CoinKeeper$Sha256", name := "finish", desc := "([BI)V" } : Jvm.MethodName).cls ≠ "java/lang/invoke/VarHandle" ∧ (parseMethodDescriptor ({ cls := "CoinKeeper$Sha256", name := "finish", desc := "([BI)V" } : Jvm.MethodName).desc).map (fun d => d.parameters.length) = some 2 := by decide +kernel
theorem hds_78 : ({ cls := "CoinKeeper$Sha256", name := "begin", desc := "()V" } : Jvm.MethodName).cls ≠ "java/lang/invoke/MethodHandle" ∧ ({ cls := "CoinKeeper$Sha256", name := "begin", desc := "()V" } : Jvm.MethodName).cls ≠ "java/lang/invoke/VarHandle" ∧ (parseMethodDescriptor ({ cls := "CoinKeeper$Sha256", name := "begin", desc := "()V" } : Jvm.MethodName).desc).map (fun d => d.parameters.length) = some 0 := by decide +kernel
set_option maxHeartbeats 8000000 in
set_option maxRecDepth 100000 in
theorem wv_mMa_writeMessage_41 {p : Program} {l : Launch} {e : Env} {s : State} {m : MethodId} {args : Array Value} {below : List Frame} {meth : Method} {c : Code} {D : va_G} {cy : Nat → ClassId} {A : Nat → Prop} {ad : Nat → Nat} {mi MC MS : Nat} {Φ : Mm → Prop} {fu : Nat} {k_41 : Nat → Nat → Mm → Nat → Option Nat → Int32 → Int32 → Prop} (F : FxM p s m args meth c b_Ma_writeMessage 4 "CoinKeeper$Machine" "writeMessage" none D cy ad mi A) (hk_41 : Iw_mMa_writeMessage_41 p l e s m args below meth c D cy A ad mi MC MS Φ k_41) : Iw_mMa_writeMessage_41 p l e s m args below meth c D cy A ad mi MC MS Φ (xv_mMa_writeMessage_41 fu MC MS cy ad mi Φ k_41) := by
  obtain ⟨⟨hx, hb, hr, hml, hown, hts, hlocks, hK, hA, hSt, hnm, hex⟩, hT, hMi⟩ := id F
  intro κ σ M x0 x1 x2 x3 hf hkc hks H locs ls hP hD hS hl
  unfold xv_mMa_writeMessage_41 at hf
  have hq_ := ospp hf
  clear hf
  rcases hq_ with ⟨rfl, hf⟩ | ⟨x1a, rfl, hf⟩
  · have hl : lv_has ls 4 [(0, .ref x0), (1, .null), (2, .int x2), (3, .int x3)] := hl
    refine lv_iload_n hx hb d_Ma_writeMessage_41 rfl (lv_at hl 3 rfl) ?_
    refine lv_aload_n hx hb d_Ma_writeMessage_42 rfl (lv_at hl 0 rfl) ?_
    obtain ⟨fs_, hm_, r1, hv_, hf⟩ := hf
    obtain ⟨ix_, hi_⟩ := m_ix hm_
    refine va_get (D := D) (ci := 6) (v := va_rf r1) (C := "CoinKeeper$Machine") (T := F_6) (N := 19) hx hb hts i_6 hown hK hP ix_ hi_ rfl 14 (by decide) (hts _ gw_218) (fun _ h9 => h9) hv_ d_Ma_writeMessage_43 ?_
    clear hv_ hi_ hm_
    have hq_ := ospp hf
    clear hf
    rcases hq_ with ⟨rfl, hf⟩ | ⟨q2, rfl, hf⟩
    · refine W.eq (g2 := F0 m 46 ls [.null, .int x3]) rfl ?_
      exact hf.elim
    · refine W.eq (g2 := F0 m 46 ls [.ref q2, .int x3]) rfl ?_
      obtain ⟨fs_, hm_, r3, hv_, hf⟩ := hf
      obtain ⟨ix_, hi_⟩ := m_ix hm_
      refine va_get (D := D) (ci := 4) (v := va_rf r3) (C := "CoinKeeper$Layout") (T := F_4) (N := 15) hx hb hts i_4 hown hK hP ix_ hi_ rfl 3 (by decide) (hts _ gw_278) (fun _ h9 => h9) hv_ d_Ma_writeMessage_46 ?_
      clear hv_ hi_ hm_
      obtain ⟨q4, rfl, hf⟩ := hf
      refine W.eq (g2 := F0 m 49 ls [.ref q4, .int x3]) rfl ?_
      refine lv_aload_n hx hb d_Ma_writeMessage_49 rfl (lv_at hl 0 rfl) ?_
      obtain ⟨fs_, hm_, v5, hv_, hf⟩ := hf
      obtain ⟨ix_, hi_⟩ := m_ix hm_
      refine va_get (D := D) (ci := 6) (v := .int v5) (C := "CoinKeeper$Machine") (T := F_6) (N := 19) hx hb hts i_6 hown hK hP ix_ hi_ rfl 15 (by decide) (hts _ gw_219) (fun _ h9 => h9) hv_ d_Ma_writeMessage_50 ?_
      clear hv_ hi_ hm_
      refine lv_iconst (v := 1) hx hb d_Ma_writeMessage_53 (by decide) ?_
      refine lv_iadd hx hb d_Ma_writeMessage_54 ?_
      refine lv_topi (fun v6 ev => ?_)
      have hf := bnQ ev hf
      clear ev
      obtain ⟨n_, f_, hm_, hin_, hf⟩ := hf
      obtain ⟨ix_, hi_⟩ := m_ix hm_
      refine va_iald hx hb hK hP ix_ 1 hi_ rfl (inb_in hin_) d_Ma_writeMessage_55 ?_
      obtain ⟨v7, ev⟩ : ∃ z, z = f_ v6.toNatClampNeg := ⟨_, rfl⟩
      first | rw [← ev] at hf ⊢ | rw [← ev]
      clear ev hi_ hm_ hin_
      refine lv_icmp_ge (tgt := 150) hx hb d_Ma_writeMessage_56 (by decide) (fun cx => ?_) (fun cx => ?_)
      · have hf := ifpP cx hf
        refine lv_aload_n hx hb d_Ma_writeMessage_150 rfl (lv_at hl 0 rfl) ?_
        obtain ⟨fs_, hm_, r8, hv_, hf⟩ := hf
        obtain ⟨ix_, hi_⟩ := m_ix hm_
        refine va_get (D := D) (ci := 6) (v := va_rf r8) (C := "CoinKeeper$Machine") (T := F_6) (N := 19) hx hb hts i_6 hown hK hP ix_ hi_ rfl 0 (by decide) (hts _ gw_204) (fun _ h9 => h9) hv_ d_Ma_writeMessage_151 ?_
        clear hv_ hi_ hm_
        obtain ⟨q9, rfl, hf⟩ := hf
        refine W.eq (g2 := F0 m 154 ls [.ref q9]) rfl ?_
        refine lv_aload_nN hx hb d_Ma_writeMessage_154 rfl (lv_at hl 1 rfl) ?_
        refine lv_iload_n hx hb d_Ma_writeMessage_155 rfl (lv_at hl 2 rfl) ?_
        refine lv_aload_n hx hb d_Ma_writeMessage_156 rfl (lv_at hl 0 rfl) ?_
        obtain ⟨fs_, hm_, r10, hv_, hf⟩ := hf
        obtain ⟨ix_, hi_⟩ := m_ix hm_
        refine va_get (D := D) (ci := 6) (v := va_rf r10) (C := "CoinKeeper$Machine") (T := F_6) (N := 19) hx hb hts i_6 hown hK hP ix_ hi_ rfl 14 (by decide) (hts _ gw_218) (fun _ h9 => h9) hv_ d_Ma_writeMessage_157 ?_
        clear hv_ hi_ hm_
        have hq_ := ospp hf
        clear hf
        rcases hq_ with ⟨rfl, hf⟩ | ⟨q11, rfl, hf⟩
        · refine W.eq (g2 := F0 m 160 ls [.null, .int x2, .null, .ref q9]) rfl ?_
          exact hf.elim
        · refine W.eq (g2 := F0 m 160 ls [.ref q11, .int x2, .null, .ref q9]) rfl ?_
          obtain ⟨fs_, hm_, r12, hv_, hf⟩ := hf
          obtain ⟨ix_, hi_⟩ := m_ix hm_
          refine va_get (D := D) (ci := 4) (v := va_rf r12) (C := "CoinKeeper$Layout") (T := F_4) (N := 15) hx hb hts i_4 hown hK hP ix_ hi_ rfl 2 (by decide) (hts _ gw_275) (fun _ h9 => h9) hv_ d_Ma_writeMessage_160 ?_
          clear hv_ hi_ hm_
          obtain ⟨q13, rfl, hf⟩ := hf
          refine W.eq (g2 := F0 m 163 ls [.ref q13, .int x2, .null, .ref q9]) rfl ?_
          refine lv_aload_n hx hb d_Ma_writeMessage_163 rfl (lv_at hl 0 rfl) ?_
          obtain ⟨fs_, hm_, v14, hv_, hf⟩ := hf
          obtain ⟨ix_, hi_⟩ := m_ix hm_
          refine va_get (D := D) (ci := 6) (v := .int v14) (C := "CoinKeeper$Machine") (T := F_6) (N := 19) hx hb hts i_6 hown hK hP ix_ hi_ rfl 15 (by decide) (hts _ gw_219) (fun _ h9 => h9) hv_ d_Ma_writeMessage_164 ?_
          clear hv_ hi_ hm_
          refine lv_iconst (v := 1) hx hb d_Ma_writeMessage_167 (by decide) ?_
          refine lv_iadd hx hb d_Ma_writeMessage_168 ?_
          refine lv_topi (fun v15 ev => ?_)
          have hf := bnQ ev hf
          clear ev
          obtain ⟨n_, f_, hm_, hin_, hf⟩ := hf
          obtain ⟨ix_, hi_⟩ := m_ix hm_
          refine va_iald hx hb hK hP ix_ 1 hi_ rfl (inb_in hin_) d_Ma_writeMessage_169 ?_
          obtain ⟨v16, ev⟩ : ∃ z, z = f_ v15.toNatClampNeg := ⟨_, rfl⟩
          first | rw [← ev] at hf ⊢ | rw [← ev]
          clear ev hi_ hm_ hin_
          exact hf.elim
      · have hf := ifnP cx hf
        refine lv_aload_n hx hb d_Ma_writeMessage_59 rfl (lv_at hl 0 rfl) ?_
        obtain ⟨fs_, hm_, r17, hv_, hf⟩ := hf
        obtain ⟨ix_, hi_⟩ := m_ix hm_
        refine va_get (D := D) (ci := 6) (v := va_rf r17) (C := "CoinKeeper$Machine") (T := F_6) (N := 19) hx hb hts i_6 hown hK hP ix_ hi_ rfl 0 (by decide) (hts _ gw_204) (fun _ h9 => h9) hv_ d_Ma_writeMessage_60 ?_
        clear hv_ hi_ hm_
        obtain ⟨q18, rfl, hf⟩ := hf
        refine W.eq (g2 := F0 m 63 ls [.ref q18]) rfl ?_
        refine lv_aload_nN hx hb d_Ma_writeMessage_63 rfl (lv_at hl 1 rfl) ?_
        refine lv_iload_n hx hb d_Ma_writeMessage_64 rfl (lv_at hl 2 rfl) ?_
        refine lv_aload_n hx hb d_Ma_writeMessage_65 rfl (lv_at hl 0 rfl) ?_
        obtain ⟨fs_, hm_, r19, hv_, hf⟩ := hf
        obtain ⟨ix_, hi_⟩ := m_ix hm_
        refine va_get (D := D) (ci := 6) (v := va_rf r19) (C := "CoinKeeper$Machine") (T := F_6) (N := 19) hx hb hts i_6 hown hK hP ix_ hi_ rfl 14 (by decide) (hts _ gw_218) (fun _ h9 => h9) hv_ d_Ma_writeMessage_66 ?_
        clear hv_ hi_ hm_
        have hq_ := ospp hf
        clear hf
        rcases hq_ with ⟨rfl, hf⟩ | ⟨q20, rfl, hf⟩
        · refine W.eq (g2 := F0 m 69 ls [.null, .int x2, .null, .ref q18]) rfl ?_
          exact hf.elim
        · refine W.eq (g2 := F0 m 69 ls [.ref q20, .int x2, .null, .ref q18]) rfl ?_
          obtain ⟨fs_, hm_, r21, hv_, hf⟩ := hf
          obtain ⟨ix_, hi_⟩ := m_ix hm_
          refine va_get (D := D) (ci := 4) (v := va_rf r21) (C := "CoinKeeper$Layout") (T := F_4) (N := 15) hx hb hts i_4 hown hK hP ix_ hi_ rfl 5 (by decide) (hts _ gw_284) (fun _ h9 => h9) hv_ d_Ma_writeMessage_69 ?_
          clear hv_ hi_ hm_
          obtain ⟨q22, rfl, hf⟩ := hf
          refine W.eq (g2 := F0 m 72 ls [.ref q22, .int x2, .null, .ref q18]) rfl ?_
          refine lv_iload_n hx hb d_Ma_writeMessage_72 rfl (lv_at hl 3 rfl) ?_
          obtain ⟨n_, f_, hm_, hin_, hf⟩ := hf
          obtain ⟨ix_, hi_⟩ := m_ix hm_
          refine va_iald hx hb hK hP ix_ 1 hi_ rfl (inb_in hin_) d_Ma_writeMessage_73 ?_
          obtain ⟨v23, ev⟩ : ∃ z, z = f_ x3.toNatClampNeg := ⟨_, rfl⟩
          first | rw [← ev] at hf ⊢ | rw [← ev]
          clear ev hi_ hm_ hin_
          refine lv_bipush (v := 36) hx hb d_Ma_writeMessage_74 (by decide) ?_
          refine lv_iadd hx hb d_Ma_writeMessage_76 ?_
          refine lv_topi (fun v24 ev => ?_)
          have hf := bnQ ev hf
          clear ev
          exact hf.elim
  · have hl : lv_has ls 4 [(0, .ref x0), (1, .ref x1a), (2, .int x2), (3, .int x3)] := hl
    refine lv_iload_n hx hb d_Ma_writeMessage_41 rfl (lv_at hl 3 rfl) ?_
    refine lv_aload_n hx hb d_Ma_writeMessage_42 rfl (lv_at hl 0 rfl) ?_
    obtain ⟨fs_, hm_, r25, hv_, hf⟩ := hf
    obtain ⟨ix_, hi_⟩ := m_ix hm_
    refine va_get (D := D) (ci := 6) (v := va_rf r25) (C := "CoinKeeper$Machine") (T := F_6) (N := 19) hx hb hts i_6 hown hK hP ix_ hi_ rfl 14 (by decide) (hts _ gw_218) (fun _ h9 => h9) hv_ d_Ma_writeMessage_43 ?_
    clear hv_ hi_ hm_
    have hq_ := ospp hf
    clear hf
    rcases hq_ with ⟨rfl, hf⟩ | ⟨q26, rfl, hf⟩
    · refine W.eq (g2 := F0 m 46 ls [.null, .int x3]) rfl ?_
      exact hf.elim
    · refine W.eq (g2 := F0 m 46 ls [.ref q26, .int x3]) rfl ?_
      obtain ⟨fs_, hm_, r27, hv_, hf⟩ := hf
      obtain ⟨ix_, hi_⟩ := m_ix hm_
      refine va_get (D := D) (ci := 4) (v := va_rf r27) (C := "CoinKeeper$Layout") (T := F_4) (N := 15) hx hb hts i_4 hown hK hP ix_ hi_ rfl 3 (by decide) (hts _ gw_278) (fun _ h9 => h9) hv_ d_Ma_writeMessage_46 ?_
      clear hv_ hi_ hm_
      obtain ⟨q28, rfl, hf⟩ := hf
      refine W.eq (g2 := F0 m 49 ls [.ref q28, .int x3]) rfl ?_
      refine lv_aload_n hx hb d_Ma_writeMessage_49 rfl (lv_at hl 0 rfl) ?_
      obtain ⟨fs_, hm_, v29, hv_, hf⟩ := hf
      obtain ⟨ix_, hi_⟩ := m_ix hm_
      refine va_get (D := D) (ci := 6) (v := .int v29) (C := "CoinKeeper$Machine") (T := F_6) (N := 19) hx hb hts i_6 hown hK hP ix_ hi_ rfl 15 (by decide) (hts _ gw_219) (fun _ h9 => h9) hv_ d_Ma_writeMessage_50 ?_
      clear hv_ hi_ hm_
      refine lv_iconst (v := 1) hx hb d_Ma_writeMessage_53 (by decide) ?_
      refine lv_iadd hx hb d_Ma_writeMessage_54 ?_
      refine lv_topi (fun v30 ev => ?_)
      have hf := bnQ ev hf
      clear ev
      obtain ⟨n_, f_, hm_, hin_, hf⟩ := hf
      obtain ⟨ix_, hi_⟩ := m_ix hm_
      refine va_iald hx hb hK hP ix_ 1 hi_ rfl (inb_in hin_) d_Ma_writeMessage_55 ?_
      obtain ⟨v31, ev⟩ : ∃ z, z = f_ v30.toNatClampNeg := ⟨_, rfl⟩
      first | rw [← ev] at hf ⊢ | rw [← ev]
      clear ev hi_ hm_ hin_
      refine lv_icmp_ge (tgt := 150) hx hb d_Ma_writeMessage_56 (by decide) (fun cx => ?_) (fun cx => ?_)
      · have hf := ifpP cx hf
        refine lv_aload_n hx hb d_Ma_writeMessage_150 rfl (lv_at hl 0 rfl) ?_
        obtain ⟨fs_, hm_, r32, hv_, hf⟩ := hf
        obtain ⟨ix_, hi_⟩ := m_ix hm_
        refine va_get (D := D) (ci := 6) (v := va_rf r32) (C := "CoinKeeper$Machine") (T := F_6) (N := 19) hx hb hts i_6 hown hK hP ix_ hi_ rfl 0 (by decide) (hts _ gw_204) (fun _ h9 => h9) hv_ d_Ma_writeMessage_151 ?_
        clear hv_ hi_ hm_
        obtain ⟨q33, rfl, hf⟩ := hf
        refine W.eq (g2 := F0 m 154 ls [.ref q33]) rfl ?_
        refine lv_aload_n hx hb d_Ma_writeMessage_154 rfl (lv_at hl 1 rfl) ?_
        refine lv_iload_n hx hb d_Ma_writeMessage_155 rfl (lv_at hl 2 rfl) ?_
        refine lv_aload_n hx hb d_Ma_writeMessage_156 rfl (lv_at hl 0 rfl) ?_
        obtain ⟨fs_, hm_, r34, hv_, hf⟩ := hf
        obtain ⟨ix_, hi_⟩ := m_ix hm_
        refine va_get (D := D) (ci := 6) (v := va_rf r34) (C := "CoinKeeper$Machine") (T := F_6) (N := 19) hx hb hts i_6 hown hK hP ix_ hi_ rfl 14 (by decide) (hts _ gw_218) (fun _ h9 => h9) hv_ d_Ma_writeMessage_157 ?_
        clear hv_ hi_ hm_
        have hq_ := ospp hf
        clear hf
        rcases hq_ with ⟨rfl, hf⟩ | ⟨q35, rfl, hf⟩
        · refine W.eq (g2 := F0 m 160 ls [.null, .int x2, .ref x1a, .ref q33]) rfl ?_
          exact hf.elim
        · refine W.eq (g2 := F0 m 160 ls [.ref q35, .int x2, .ref x1a, .ref q33]) rfl ?_
          obtain ⟨fs_, hm_, r36, hv_, hf⟩ := hf
          obtain ⟨ix_, hi_⟩ := m_ix hm_
          refine va_get (D := D) (ci := 4) (v := va_rf r36) (C := "CoinKeeper$Layout") (T := F_4) (N := 15) hx hb hts i_4 hown hK hP ix_ hi_ rfl 2 (by decide) (hts _ gw_275) (fun _ h9 => h9) hv_ d_Ma_writeMessage_160 ?_
          clear hv_ hi_ hm_
          obtain ⟨q37, rfl, hf⟩ := hf
          refine W.eq (g2 := F0 m 163 ls [.ref q37, .int x2, .ref x1a, .ref q33]) rfl ?_
          refine lv_aload_n hx hb d_Ma_writeMessage_163 rfl (lv_at hl 0 rfl) ?_
          obtain ⟨fs_, hm_, v38, hv_, hf⟩ := hf
          obtain ⟨ix_, hi_⟩ := m_ix hm_
          refine va_get (D := D) (ci := 6) (v := .int v38) (C := "CoinKeeper$Machine") (T := F_6) (N := 19) hx hb hts i_6 hown hK hP ix_ hi_ rfl 15 (by decide) (hts _ gw_219) (fun _ h9 => h9) hv_ d_Ma_writeMessage_164 ?_
          clear hv_ hi_ hm_
          refine lv_iconst (v := 1) hx hb d_Ma_writeMessage_167 (by decide) ?_
          refine lv_iadd hx hb d_Ma_writeMessage_168 ?_
          refine lv_topi (fun v39 ev => ?_)
          have hf := bnQ ev hf
          clear ev
          obtain ⟨n_, f_, hm_, hin_, hf⟩ := hf
          obtain ⟨ix_, hi_⟩ := m_ix hm_
          refine va_iald hx hb hK hP ix_ 1 hi_ rfl (inb_in hin_) d_Ma_writeMessage_169 ?_
          obtain ⟨v40, ev⟩ : ∃ z, z = f_ v39.toNatClampNeg := ⟨_, rfl⟩
          first | rw [← ev] at hf ⊢ | rw [← ev]
          clear ev hi_ hm_ hin_
          obtain ⟨b41, b42, b43, c44, c45, c46, c47, c48, c49, c50, hal_, hnd_, c51, c52, c53, c54, c55, hc, hf⟩ := hf
          refine m_lv (va_runV (C := "CoinKeeper$Sha256") (As := [.ref x1a, .int x2, .int v40]) (rest := []) ⟨hx, hb, hml, hown, hts⟩ (c_Sh_add l D cy ad fu q33 b41 b42 b43 x1a c44 c45 x2 v40 c46 c47 c48 c49 c50 _ hc H.size) ⟨q_cB hts gw_722 gw_2 gw_1030 hds_76 ⟨Nat.le_of_ble_eq_true rfl, Nat.le_of_ble_eq_true rfl⟩, hts _ gw_720, hts _ gw_721⟩ (q_preV (q_pre (m_subP hP hal_) (m_subD hD hal_ hnd_) hK hSt hS (m_lF hD hS hA hal_) _) (va_recv hK (m_subP hP hal_) (ci := 9) (q0 := 0) rfl rfl)) rfl rfl hl.1 rfl (lv_room (Nat.le_of_ble_eq_true rfl)) d_Ma_writeMessage_170 ⟨hkc, hks⟩) hP hD hS hA hal_ rfl (fun H locs hP hD hS => ?_)
          refine W.widen (k := κ) (n := σ) (Nat.le_refl _) (Nat.le_refl _) ?_
          obtain ⟨M56, eM_, hf⟩ := bnP hf
          have hP : va_P D classes (mw M56) H := by rw [eM_]; exact hP
          have hD : va_D A (mw M56) := by rw [eM_]; exact hD
          clear eM_ hal_ hnd_ hc
          refine lv_aload_n hx hb d_Ma_writeMessage_173 rfl (lv_at hl 0 rfl) ?_
          obtain ⟨fs_, hm_, r57, hv_, hf⟩ := hf
          obtain ⟨ix_, hi_⟩ := m_ix hm_
          refine va_get (D := D) (ci := 6) (v := va_rf r57) (C := "CoinKeeper$Machine") (T := F_6) (N := 19) hx hb hts i_6 hown hK hP ix_ hi_ rfl 0 (by decide) (hts _ gw_204) (fun _ h9 => h9) hv_ d_Ma_writeMessage_174 ?_
          clear hv_ hi_ hm_
          obtain ⟨q58, rfl, hf⟩ := hf
          refine W.eq (g2 := F0 m 177 ls [.ref q58]) rfl ?_
          refine va_gets hx hb (hSt.1 3 _ rfl).1 hS hown (hts _ gw_1031) (fun _ h9 => h9) d_Ma_writeMessage_177 ?_
          refine lv_iconst (v := 0) hx hb d_Ma_writeMessage_180 (by decide) ?_
          refine lv_iconst (v := 4) hx hb d_Ma_writeMessage_181 (by decide) ?_
          obtain ⟨b59, b60, b61, c62, c63, c64, c65, c66, hal_, hnd_, c67, c68, c69, c70, c71, hc, hf⟩ := hf
          refine m_lv (va_runV (C := "CoinKeeper$Sha256") (As := [.ref (ad 3), .int (0 : Int32), .int (4 : Int32)]) (rest := []) ⟨hx, hb, hml, hown, hts⟩ (c_Sh_add_s1x3 l D cy ad fu q58 b59 b60 b61 (0 : Int32) (4 : Int32) c62 c63 c64 c65 c66 _ hc H.size) ⟨q_cB hts gw_722 gw_2 gw_1030 hds_76 ⟨Nat.le_of_ble_eq_true rfl, Nat.le_of_ble_eq_true rfl⟩, hts _ gw_720, hts _ gw_721⟩ (q_preV (q_pre (m_subP hP hal_) (m_subD hD hal_ hnd_) hK hSt hS (m_lF hD hS hA hal_) _) (va_recv hK (m_subP hP hal_) (ci := 9) (q0 := 0) rfl rfl)) rfl rfl hl.1 rfl (lv_room (Nat.le_of_ble_eq_true rfl)) d_Ma_writeMessage_182 ⟨hkc, hks⟩) hP hD hS hA hal_ rfl (fun H locs hP hD hS => ?_)
          refine W.widen (k := κ) (n := σ) (Nat.le_refl _) (Nat.le_refl _) ?_
          obtain ⟨M72, eM_, hf⟩ := bnP hf
          have hP : va_P D classes (mw M72) H := by rw [eM_]; exact hP
          have hD : va_D A (mw M72) := by rw [eM_]; exact hD
          clear eM_ hal_ hnd_ hc
          refine lv_aload_n hx hb d_Ma_writeMessage_185 rfl (lv_at hl 0 rfl) ?_
          obtain ⟨fs_, hm_, r73, hv_, hf⟩ := hf
          obtain ⟨ix_, hi_⟩ := m_ix hm_
          refine va_get (D := D) (ci := 6) (v := va_rf r73) (C := "CoinKeeper$Machine") (T := F_6) (N := 19) hx hb hts i_6 hown hK hP ix_ hi_ rfl 0 (by decide) (hts _ gw_204) (fun _ h9 => h9) hv_ d_Ma_writeMessage_186 ?_
          clear hv_ hi_ hm_
          obtain ⟨q74, rfl, hf⟩ := hf
          refine W.eq (g2 := F0 m 189 ls [.ref q74]) rfl ?_
          refine lv_aload_n hx hb d_Ma_writeMessage_189 rfl (lv_at hl 0 rfl) ?_
          obtain ⟨fs_, hm_, r75, hv_, hf⟩ := hf
          obtain ⟨ix_, hi_⟩ := m_ix hm_
          refine va_get (D := D) (ci := 6) (v := va_rf r75) (C := "CoinKeeper$Machine") (T := F_6) (N := 19) hx hb hts i_6 hown hK hP ix_ hi_ rfl 3 (by decide) (hts _ gw_207) (fun _ h9 => h9) hv_ d_Ma_writeMessage_190 ?_
          clear hv_ hi_ hm_
          obtain ⟨q76, rfl, hf⟩ := hf
          refine W.eq (g2 := F0 m 193 ls [.ref q76, .ref q74]) rfl ?_
          refine lv_iconst (v := 0) hx hb d_Ma_writeMessage_193 (by decide) ?_
          obtain ⟨b77, b78, b79, c80, c81, c82, c83, c84, c85, c86, hal_, hnd_, c87, c88, c89, c90, c91, hc, hf⟩ := hf
          refine m_lv (va_runV (C := "CoinKeeper$Sha256") (As := [.ref q76, .int (0 : Int32)]) (rest := []) ⟨hx, hb, hml, hown, hts⟩ (c_Sh_finish l D cy ad fu q74 b77 b78 b79 q76 c80 c81 (0 : Int32) c82 c83 c84 c85 c86 _ hc H.size) ⟨q_cB hts gw_733 gw_2 gw_1033 hds_77 ⟨Nat.le_of_ble_eq_true rfl, Nat.le_of_ble_eq_true rfl⟩, hts _ gw_731, hts _ gw_732⟩ (q_preV (q_pre (m_subP hP hal_) (m_subD hD hal_ hnd_) hK hSt hS (m_lF hD hS hA hal_) _) (va_recv hK (m_subP hP hal_) (ci := 9) (q0 := 0) rfl rfl)) rfl rfl hl.1 rfl (lv_room (Nat.le_of_ble_eq_true rfl)) d_Ma_writeMessage_194 ⟨hkc, hks⟩) hP hD hS hA hal_ rfl (fun H locs hP hD hS => ?_)
          refine W.widen (k := κ) (n := σ) (Nat.le_refl _) (Nat.le_refl _) ?_
          obtain ⟨M92, eM_, hf⟩ := bnP hf
          have hP : va_P D classes (mw M92) H := by rw [eM_]; exact hP
          have hD : va_D A (mw M92) := by rw [eM_]; exact hD
          clear eM_ hal_ hnd_ hc
          refine lv_aload_n hx hb d_Ma_writeMessage_197 rfl (lv_at hl 0 rfl) ?_
          obtain ⟨fs_, hm_, r93, hv_, hf⟩ := hf
          obtain ⟨ix_, hi_⟩ := m_ix hm_
          refine va_get (D := D) (ci := 6) (v := va_rf r93) (C := "CoinKeeper$Machine") (T := F_6) (N := 19) hx hb hts i_6 hown hK hP ix_ hi_ rfl 0 (by decide) (hts _ gw_204) (fun _ h9 => h9) hv_ d_Ma_writeMessage_198 ?_
          clear hv_ hi_ hm_
          obtain ⟨q94, rfl, hf⟩ := hf
          refine W.eq (g2 := F0 m 201 ls [.ref q94]) rfl ?_
          obtain ⟨b95, b96, b97, c98, c99, c100, hal_, hnd_, c101, c102, c103, hc, hf⟩ := hf
          refine m_lv (va_runV (C := "CoinKeeper$Sha256") (As := []) (rest := []) ⟨hx, hb, hml, hown, hts⟩ (c_Sh_begin l D cy ad fu q94 b95 b96 b97 c98 c99 c100 _ hc H.size) ⟨q_cB hts gw_715 gw_2 gw_1029 hds_78 ⟨Nat.le_of_ble_eq_true rfl, Nat.le_of_ble_eq_true rfl⟩, hts _ gw_713, hts _ gw_714⟩ (q_preV (q_pre (m_subP hP hal_) (m_subD hD hal_ hnd_) hK hSt hS (m_lF hD hS hA hal_) _) (va_recv hK (m_subP hP hal_) (ci := 9) (q0 := 0) rfl rfl)) rfl rfl hl.1 rfl (lv_room (Nat.le_of_ble_eq_true rfl)) d_Ma_writeMessage_201 ⟨hkc, hks⟩) hP hD hS hA hal_ rfl (fun H locs hP hD hS => ?_)
          refine W.widen (k := κ) (n := σ) (Nat.le_refl _) (Nat.le_refl _) ?_
          obtain ⟨M104, eM_, hf⟩ := bnP hf
          have hP : va_P D classes (mw M104) H := by rw [eM_]; exact hP
          have hD : va_D A (mw M104) := by rw [eM_]; exact hD
          clear eM_ hal_ hnd_ hc
          refine lv_aload_n hx hb d_Ma_writeMessage_204 rfl (lv_at hl 0 rfl) ?_
          obtain ⟨fs_, hm_, r105, hv_, hf⟩ := hf
          obtain ⟨ix_, hi_⟩ := m_ix hm_
          refine va_get (D := D) (ci := 6) (v := va_rf r105) (C := "CoinKeeper$Machine") (T := F_6) (N := 19) hx hb hts i_6 hown hK hP ix_ hi_ rfl 0 (by decide) (hts _ gw_204) (fun _ h9 => h9) hv_ d_Ma_writeMessage_205 ?_
          clear hv_ hi_ hm_
          obtain ⟨q106, rfl, hf⟩ := hf
          refine W.eq (g2 := F0 m 208 ls [.ref q106]) rfl ?_
          refine lv_aload_n hx hb d_Ma_writeMessage_208 rfl (lv_at hl 0 rfl) ?_
          obtain ⟨fs_, hm_, r107, hv_, hf⟩ := hf
          obtain ⟨ix_, hi_⟩ := m_ix hm_
          refine va_get (D := D) (ci := 6) (v := va_rf r107) (C := "CoinKeeper$Machine") (T := F_6) (N := 19) hx hb hts i_6 hown hK hP ix_ hi_ rfl 3 (by decide) (hts _ gw_207) (fun _ h9 => h9) hv_ d_Ma_writeMessage_209 ?_
          clear hv_ hi_ hm_
          obtain ⟨q108, rfl, hf⟩ := hf
          refine W.eq (g2 := F0 m 212 ls [.ref q108, .ref q106]) rfl ?_
          refine lv_iconst (v := 0) hx hb d_Ma_writeMessage_212 (by decide) ?_
          refine lv_bipush (v := 32) hx hb d_Ma_writeMessage_213 (by decide) ?_
          obtain ⟨b109, b110, b111, c112, c113, c114, c115, c116, c117, c118, hal_, hnd_, c119, c120, c121, c122, c123, hc, hf⟩ := hf
          refine m_lv (va_runV (C := "CoinKeeper$Sha256") (As := [.ref q108, .int (0 : Int32), .int (32 : Int32)]) (rest := []) ⟨hx, hb, hml, hown, hts⟩ (c_Sh_add l D cy ad fu q106 b109 b110 b111 q108 c112 c113 (0 : Int32) (32 : Int32) c114 c115 c116 c117 c118 _ hc H.size) ⟨q_cB hts gw_722 gw_2 gw_1030 hds_76 ⟨Nat.le_of_ble_eq_true rfl, Nat.le_of_ble_eq_true rfl⟩, hts _ gw_720, hts _ gw_721⟩ (q_preV (q_pre (m_subP hP hal_) (m_subD hD hal_ hnd_) hK hSt hS (m_lF hD hS hA hal_) _) (va_recv hK (m_subP hP hal_) (ci := 9) (q0 := 0) rfl rfl)) rfl rfl hl.1 rfl (lv_room (Nat.le_of_ble_eq_true rfl)) d_Ma_writeMessage_215 ⟨hkc, hks⟩) hP hD hS hA hal_ rfl (fun H locs hP hD hS => ?_)
          refine W.widen (k := κ) (n := σ) (Nat.le_refl _) (Nat.le_refl _) ?_
          obtain ⟨M124, eM_, hf⟩ := bnP hf
          have hP : va_P D classes (mw M124) H := by rw [eM_]; exact hP
          have hD : va_D A (mw M124) := by rw [eM_]; exact hD
          clear eM_ hal_ hnd_ hc
          refine lv_aload_n hx hb d_Ma_writeMessage_218 rfl (lv_at hl 0 rfl) ?_
          obtain ⟨fs_, hm_, r125, hv_, hf⟩ := hf
          obtain ⟨ix_, hi_⟩ := m_ix hm_
          refine va_get (D := D) (ci := 6) (v := va_rf r125) (C := "CoinKeeper$Machine") (T := F_6) (N := 19) hx hb hts i_6 hown hK hP ix_ hi_ rfl 0 (by decide) (hts _ gw_204) (fun _ h9 => h9) hv_ d_Ma_writeMessage_219 ?_
          clear hv_ hi_ hm_
          obtain ⟨q126, rfl, hf⟩ := hf
          refine W.eq (g2 := F0 m 222 ls [.ref q126]) rfl ?_
          refine lv_aload_n hx hb d_Ma_writeMessage_222 rfl (lv_at hl 0 rfl) ?_
          obtain ⟨fs_, hm_, r127, hv_, hf⟩ := hf
          obtain ⟨ix_, hi_⟩ := m_ix hm_
          refine va_get (D := D) (ci := 6) (v := va_rf r127) (C := "CoinKeeper$Machine") (T := F_6) (N := 19) hx hb hts i_6 hown hK hP ix_ hi_ rfl 3 (by decide) (hts _ gw_207) (fun _ h9 => h9) hv_ d_Ma_writeMessage_223 ?_
          clear hv_ hi_ hm_
          obtain ⟨q128, rfl, hf⟩ := hf
          refine W.eq (g2 := F0 m 226 ls [.ref q128, .ref q126]) rfl ?_
          refine lv_iconst (v := 0) hx hb d_Ma_writeMessage_226 (by decide) ?_
          obtain ⟨b129, b130, b131, c132, c133, c134, c135, c136, c137, c138, hal_, hnd_, c139, c140, c141, c142, c143, hc, hf⟩ := hf
          refine m_lv (va_runV (C := "CoinKeeper$Sha256") (As := [.ref q128, .int (0 : Int32)]) (rest := []) ⟨hx, hb, hml, hown, hts⟩ (c_Sh_finish l D cy ad fu q126 b129 b130 b131 q128 c132 c133 (0 : Int32) c134 c135 c136 c137 c138 _ hc H.size) ⟨q_cB hts gw_733 gw_2 gw_1033 hds_77 ⟨Nat.le_of_ble_eq_true rfl, Nat.le_of_ble_eq_true rfl⟩, hts _ gw_731, hts _ gw_732⟩ (q_preV (q_pre (m_subP hP hal_) (m_subD hD hal_ hnd_) hK hSt hS (m_lF hD hS hA hal_) _) (va_recv hK (m_subP hP hal_) (ci := 9) (q0 := 0) rfl rfl)) rfl rfl hl.1 rfl (lv_room (Nat.le_of_ble_eq_true rfl)) d_Ma_writeMessage_227 ⟨hkc, hks⟩) hP hD hS hA hal_ rfl (fun H locs hP hD hS => ?_)
          refine W.widen (k := κ) (n := σ) (Nat.le_refl _) (Nat.le_refl _) ?_
          obtain ⟨M144, eM_, hf⟩ := bnP hf
          have hP : va_P D classes (mw M144) H := by rw [eM_]; exact hP
          have hD : va_D A (mw M144) := by rw [eM_]; exact hD
          clear eM_ hal_ hnd_ hc
          refine W.widen (k := MC) (n := MS) hkc hks ?_
          exact m_rv hf hx hb hr hlocks hK hP hD hS d_Ma_writeMessage_230
      · have hf := ifnP cx hf
        refine lv_aload_n hx hb d_Ma_writeMessage_59 rfl (lv_at hl 0 rfl) ?_
        obtain ⟨fs_, hm_, r145, hv_, hf⟩ := hf
        obtain ⟨ix_, hi_⟩ := m_ix hm_
        refine va_get (D := D) (ci := 6) (v := va_rf r145) (C := "CoinKeeper$Machine") (T := F_6) (N := 19) hx hb hts i_6 hown hK hP ix_ hi_ rfl 0 (by decide) (hts _ gw_204) (fun _ h9 => h9) hv_ d_Ma_writeMessage_60 ?_
        clear hv_ hi_ hm_
        obtain ⟨q146, rfl, hf⟩ := hf
        refine W.eq (g2 := F0 m 63 ls [.ref q146]) rfl ?_
        refine lv_aload_n hx hb d_Ma_writeMessage_63 rfl (lv_at hl 1 rfl) ?_
        refine lv_iload_n hx hb d_Ma_writeMessage_64 rfl (lv_at hl 2 rfl) ?_
        refine lv_aload_n hx hb d_Ma_writeMessage_65 rfl (lv_at hl 0 rfl) ?_
        obtain ⟨fs_, hm_, r147, hv_, hf⟩ := hf
        obtain ⟨ix_, hi_⟩ := m_ix hm_
        refine va_get (D := D) (ci := 6) (v := va_rf r147) (C := "CoinKeeper$Machine") (T := F_6) (N := 19) hx hb hts i_6 hown hK hP ix_ hi_ rfl 14 (by decide) (hts _ gw_218) (fun _ h9 => h9) hv_ d_Ma_writeMessage_66 ?_
        clear hv_ hi_ hm_
        have hq_ := ospp hf
        clear hf
        rcases hq_ with ⟨rfl, hf⟩ | ⟨q148, rfl, hf⟩
        · refine W.eq (g2 := F0 m 69 ls [.null, .int x2, .ref x1a, .ref q146]) rfl ?_
          exact hf.elim
        · refine W.eq (g2 := F0 m 69 ls [.ref q148, .int x2, .ref x1a, .ref q146]) rfl ?_
          obtain ⟨fs_, hm_, r149, hv_, hf⟩ := hf
          obtain ⟨ix_, hi_⟩ := m_ix hm_
          refine va_get (D := D) (ci := 4) (v := va_rf r149) (C := "CoinKeeper$Layout") (T := F_4) (N := 15) hx hb hts i_4 hown hK hP ix_ hi_ rfl 5 (by decide) (hts _ gw_284) (fun _ h9 => h9) hv_ d_Ma_writeMessage_69 ?_
          clear hv_ hi_ hm_
          obtain ⟨q150, rfl, hf⟩ := hf
          refine W.eq (g2 := F0 m 72 ls [.ref q150, .int x2, .ref x1a, .ref q146]) rfl ?_
          refine lv_iload_n hx hb d_Ma_writeMessage_72 rfl (lv_at hl 3 rfl) ?_
          obtain ⟨n_, f_, hm_, hin_, hf⟩ := hf
          obtain ⟨ix_, hi_⟩ := m_ix hm_
          refine va_iald hx hb hK hP ix_ 1 hi_ rfl (inb_in hin_) d_Ma_writeMessage_73 ?_
          obtain ⟨v151, ev⟩ : ∃ z, z = f_ x3.toNatClampNeg := ⟨_, rfl⟩
          first | rw [← ev] at hf ⊢ | rw [← ev]
          clear ev hi_ hm_ hin_
          refine lv_bipush (v := 36) hx hb d_Ma_writeMessage_74 (by decide) ?_
          refine lv_iadd hx hb d_Ma_writeMessage_76 ?_
          refine lv_topi (fun v152 ev => ?_)
          have hf := bnQ ev hf
          clear ev
          obtain ⟨b153, b154, b155, c156, c157, c158, c159, c160, c161, c162, hal_, hnd_, c163, c164, c165, c166, c167, hc, hf⟩ := hf
          refine m_lv (va_runV (C := "CoinKeeper$Sha256") (As := [.ref x1a, .int x2, .int v152]) (rest := []) ⟨hx, hb, hml, hown, hts⟩ (c_Sh_add l D cy ad fu q146 b153 b154 b155 x1a c156 c157 x2 v152 c158 c159 c160 c161 c162 _ hc H.size) ⟨q_cB hts gw_722 gw_2 gw_1030 hds_76 ⟨Nat.le_of_ble_eq_true rfl, Nat.le_of_ble_eq_true rfl⟩, hts _ gw_720, hts _ gw_721⟩ (q_preV (q_pre (m_subP hP hal_) (m_subD hD hal_ hnd_) hK hSt hS (m_lF hD hS hA hal_) _) (va_recv hK (m_subP hP hal_) (ci := 9) (q0 := 0) rfl rfl)) rfl rfl hl.1 rfl (lv_room (Nat.le_of_ble_eq_true rfl)) d_Ma_writeMessage_77 ⟨hkc, hks⟩) hP hD hS hA hal_ rfl (fun H locs hP hD hS => ?_)
          refine W.widen (k := κ) (n := σ) (Nat.le_refl _) (Nat.le_refl _) ?_
          obtain ⟨M168, eM_, hf⟩ := bnP hf
          have hP : va_P D classes (mw M168) H := by rw [eM_]; exact hP
          have hD : va_D A (mw M168) := by rw [eM_]; exact hD
          clear eM_ hal_ hnd_ hc
          refine lv_iload_n hx hb d_Ma_writeMessage_80 rfl (lv_at hl 3 rfl) ?_
          refine lv_aload_n hx hb d_Ma_writeMessage_81 rfl (lv_at hl 0 rfl) ?_
          obtain ⟨fs_, hm_, v169, hv_, hf⟩ := hf
          obtain ⟨ix_, hi_⟩ := m_ix hm_
          refine va_get (D := D) (ci := 6) (v := .int v169) (C := "CoinKeeper$Machine") (T := F_6) (N := 19) hx hb hts i_6 hown hK hP ix_ hi_ rfl 16 (by decide) (hts _ gw_220) (fun _ h9 => h9) hv_ d_Ma_writeMessage_82 ?_
          clear hv_ hi_ hm_
          refine lv_icmp_ne (tgt := 122) hx hb d_Ma_writeMessage_85 (by decide) (fun cx => ?_) (fun cx => ?_)
          · have hf := ifnP cx hf
            refine lv_aload_n hx hb d_Ma_writeMessage_122 rfl (lv_at hl 0 rfl) ?_
            obtain ⟨fs_, hm_, r170, hv_, hf⟩ := hf
            obtain ⟨ix_, hi_⟩ := m_ix hm_
            refine va_get (D := D) (ci := 6) (v := va_rf r170) (C := "CoinKeeper$Machine") (T := F_6) (N := 19) hx hb hts i_6 hown hK hP ix_ hi_ rfl 0 (by decide) (hts _ gw_204) (fun _ h9 => h9) hv_ d_Ma_writeMessage_123 ?_
            clear hv_ hi_ hm_
            obtain ⟨q171, rfl, hf⟩ := hf
            refine W.eq (g2 := F0 m 126 ls [.ref q171]) rfl ?_
            refine va_gets hx hb (hSt.1 3 _ rfl).1 hS hown (hts _ gw_1031) (fun _ h9 => h9) d_Ma_writeMessage_126 ?_
            refine lv_iconst (v := 1) hx hb d_Ma_writeMessage_129 (by decide) ?_
            refine lv_iconst (v := 2) hx hb d_Ma_writeMessage_130 (by decide) ?_
            obtain ⟨b172, b173, b174, c175, c176, c177, c178, c179, hal_, hnd_, c180, c181, c182, c183, c184, hc, hf⟩ := hf
            refine m_lv (va_runV (C := "CoinKeeper$Sha256") (As := [.ref (ad 3), .int (1 : Int32), .int (2 : Int32)]) (rest := []) ⟨hx, hb, hml, hown, hts⟩ (c_Sh_add_s1x3 l D cy ad fu q171 b172 b173 b174 (1 : Int32) (2 : Int32) c175 c176 c177 c178 c179 _ hc H.size) ⟨q_cB hts gw_722 gw_2 gw_1030 hds_76 ⟨Nat.le_of_ble_eq_true rfl, Nat.le_of_ble_eq_true rfl⟩, hts _ gw_720, hts _ gw_721⟩ (q_preV (q_pre (m_subP hP hal_) (m_subD hD hal_ hnd_) hK hSt hS (m_lF hD hS hA hal_) _) (va_recv hK (m_subP hP hal_) (ci := 9) (q0 := 0) rfl rfl)) rfl rfl hl.1 rfl (lv_room (Nat.le_of_ble_eq_true rfl)) d_Ma_writeMessage_131 ⟨hkc, hks⟩) hP hD hS hA hal_ rfl (fun H locs hP hD hS => ?_)
            refine W.widen (k := κ) (n := σ) (Nat.le_refl _) (Nat.le_refl _) ?_
            obtain ⟨M185, eM_, hf⟩ := bnP hf
            have hP : va_P D classes (mw M185) H := by rw [eM_]; exact hP
            have hD : va_D A (mw M185) := by rw [eM_]; exact hD
            clear eM_ hal_ hnd_ hc
            exact wv_mMa_writeMessage_134 (fu := fu) F hk_41 _ _ _ _ _ _ hf hkc hks _ _ _ hP hD hS (lv_sub hl [0, 1, 3] rfl)
          · have hf := ifpP cx hf
            refine lv_aload_n hx hb d_Ma_writeMessage_88 rfl (lv_at hl 0 rfl) ?_
            obtain ⟨fs_, hm_, r186, hv_, hf⟩ := hf
            obtain ⟨ix_, hi_⟩ := m_ix hm_
            refine va_get (D := D) (ci := 6) (v := va_rf r186) (C := "CoinKeeper$Machine") (T := F_6) (N := 19) hx hb hts i_6 hown hK hP ix_ hi_ rfl 0 (by decide) (hts _ gw_204) (fun _ h9 => h9) hv_ d_Ma_writeMessage_89 ?_
            clear hv_ hi_ hm_
            obtain ⟨q187, rfl, hf⟩ := hf
            refine W.eq (g2 := F0 m 92 ls [.ref q187]) rfl ?_
            refine lv_aload_n hx hb d_Ma_writeMessage_92 rfl (lv_at hl 0 rfl) ?_
            obtain ⟨fs_, hm_, r188, hv_, hf⟩ := hf
            obtain ⟨ix_, hi_⟩ := m_ix hm_
            refine va_get (D := D) (ci := 6) (v := va_rf r188) (C := "CoinKeeper$Machine") (T := F_6) (N := 19) hx hb hts i_6 hown hK hP ix_ hi_ rfl 17 (by decide) (hts _ gw_221) (fun _ h9 => h9) hv_ d_Ma_writeMessage_93 ?_
            clear hv_ hi_ hm_
            have hq_ := ospp hf
            clear hf
            rcases hq_ with ⟨rfl, hf⟩ | ⟨q189, rfl, hf⟩
            · refine W.eq (g2 := F0 m 96 ls [.null, .ref q187]) rfl ?_
              exact hf.elim
            · refine W.eq (g2 := F0 m 96 ls [.ref q189, .ref q187]) rfl ?_
              obtain ⟨fs_, hm_, r190, hv_, hf⟩ := hf
              obtain ⟨ix_, hi_⟩ := m_ix hm_
              refine va_get (D := D) (ci := 2) (v := va_rf r190) (C := "CoinKeeper$Coin") (T := F_2) (N := 10) hx hb hts i_2 hown hK hP ix_ hi_ rfl 0 (by decide) (hts _ gw_853) (fun _ h9 => h9) hv_ d_Ma_writeMessage_96 ?_
              clear hv_ hi_ hm_
              obtain ⟨q191, rfl, hf⟩ := hf
              refine W.eq (g2 := F0 m 99 ls [.ref q191, .ref q187]) rfl ?_
              obtain ⟨fs_, hm_, r192, hv_, hf⟩ := hf
              obtain ⟨ix_, hi_⟩ := m_ix hm_
              refine va_get (D := D) (ci := 1) (v := va_rf r192) (C := "CoinKeeper$Block") (T := F_1) (N := 12) hx hb hts i_1 hown hK hP ix_ hi_ rfl 1 (by decide) (hts _ gw_394) (fun _ h9 => h9) hv_ d_Ma_writeMessage_99 ?_
              clear hv_ hi_ hm_
              obtain ⟨q193, rfl, hf⟩ := hf
              refine W.eq (g2 := F0 m 102 ls [.ref q193, .ref q187]) rfl ?_
              refine lv_aload_n hx hb d_Ma_writeMessage_102 rfl (lv_at hl 0 rfl) ?_
              obtain ⟨fs_, hm_, r194, hv_, hf⟩ := hf
              obtain ⟨ix_, hi_⟩ := m_ix hm_
              refine va_get (D := D) (ci := 6) (v := va_rf r194) (C := "CoinKeeper$Machine") (T := F_6) (N := 19) hx hb hts i_6 hown hK hP ix_ hi_ rfl 17 (by decide) (hts _ gw_221) (fun _ h9 => h9) hv_ d_Ma_writeMessage_103 ?_
              clear hv_ hi_ hm_
              have hq_ := ospp hf
              clear hf
              rcases hq_ with ⟨rfl, hf⟩ | ⟨q195, rfl, hf⟩
              · refine W.eq (g2 := F0 m 106 ls [.null, .ref q193, .ref q187]) rfl ?_
                exact hf.elim
              · refine W.eq (g2 := F0 m 106 ls [.ref q195, .ref q193, .ref q187]) rfl ?_
                obtain ⟨fs_, hm_, v196, hv_, hf⟩ := hf
                obtain ⟨ix_, hi_⟩ := m_ix hm_
                refine va_get (D := D) (ci := 2) (v := .int v196) (C := "CoinKeeper$Coin") (T := F_2) (N := 10) hx hb hts i_2 hown hK hP ix_ hi_ rfl 6 (by decide) (hts _ gw_866) (fun _ h9 => h9) hv_ d_Ma_writeMessage_106 ?_
                clear hv_ hi_ hm_
                refine lv_aload_n hx hb d_Ma_writeMessage_109 rfl (lv_at hl 0 rfl) ?_
                obtain ⟨fs_, hm_, r197, hv_, hf⟩ := hf
                obtain ⟨ix_, hi_⟩ := m_ix hm_
                refine va_get (D := D) (ci := 6) (v := va_rf r197) (C := "CoinKeeper$Machine") (T := F_6) (N := 19) hx hb hts i_6 hown hK hP ix_ hi_ rfl 17 (by decide) (hts _ gw_221) (fun _ h9 => h9) hv_ d_Ma_writeMessage_110 ?_
                clear hv_ hi_ hm_
                have hq_ := ospp hf
                clear hf
                rcases hq_ with ⟨rfl, hf⟩ | ⟨q198, rfl, hf⟩
                · refine W.eq (g2 := F0 m 113 ls [.null, .int v196, .ref q193, .ref q187]) rfl ?_
                  exact hf.elim
                · refine W.eq (g2 := F0 m 113 ls [.ref q198, .int v196, .ref q193, .ref q187]) rfl ?_
                  obtain ⟨fs_, hm_, v199, hv_, hf⟩ := hf
                  obtain ⟨ix_, hi_⟩ := m_ix hm_
                  refine va_get (D := D) (ci := 2) (v := .int v199) (C := "CoinKeeper$Coin") (T := F_2) (N := 10) hx hb hts i_2 hown hK hP ix_ hi_ rfl 8 (by decide) (hts _ gw_871) (fun _ h9 => h9) hv_ d_Ma_writeMessage_113 ?_
                  clear hv_ hi_ hm_
                  obtain ⟨b200, b201, b202, c203, c204, c205, c206, c207, c208, c209, hal_, hnd_, c210, c211, c212, c213, c214, hc, hf⟩ := hf
                  refine m_lv (va_runV (C := "CoinKeeper$Sha256") (As := [.ref q193, .int v196, .int v199]) (rest := []) ⟨hx, hb, hml, hown, hts⟩ (c_Sh_add l D cy ad fu q187 b200 b201 b202 q193 c203 c204 v196 v199 c205 c206 c207 c208 c209 _ hc H.size) ⟨q_cB hts gw_722 gw_2 gw_1030 hds_76 ⟨Nat.le_of_ble_eq_true rfl, Nat.le_of_ble_eq_true rfl⟩, hts _ gw_720, hts _ gw_721⟩ (q_preV (q_pre (m_subP hP hal_) (m_subD hD hal_ hnd_) hK hSt hS (m_lF hD hS hA hal_) _) (va_recv hK (m_subP hP hal_) (ci := 9) (q0 := 0) rfl rfl)) rfl rfl hl.1 rfl (lv_room (Nat.le_of_ble_eq_true rfl)) d_Ma_writeMessage_116 ⟨hkc, hks⟩) hP hD hS hA hal_ rfl (fun H locs hP hD hS => ?_)
                  refine W.widen (k := κ) (n := σ) (Nat.le_refl _) (Nat.le_refl _) ?_
                  obtain ⟨M215, eM_, hf⟩ := bnP hf
                  have hP : va_P D classes (mw M215) H := by rw [eM_]; exact hP
                  have hD : va_D A (mw M215) := by rw [eM_]; exact hD
                  clear eM_ hal_ hnd_ hc
                  refine lv_goto (tgt := 134) hx hb d_Ma_writeMessage_119 (by decide) ?_
                  exact wv_mMa_writeMessage_134 (fu := fu) F hk_41 _ _ _ _ _ _ hf hkc hks _ _ _ hP hD hS (lv_sub hl [0, 1, 3] rfl)
theorem ww_mMa_writeMessage_41 {p : Program} {l : Launch} {e : Env} {s : State} {m : MethodId} {args : Array Value} {below : List Frame} {meth : Method} {c : Code} {D : va_G} {cy : Nat → ClassId} {A : Nat → Prop} {ad : Nat → Nat} {mi MC MS : Nat} {Φ : Mm → Prop} {fu : Nat} (F : FxM p s m args meth c b_Ma_writeMessage 4 "CoinKeeper$Machine" "writeMessage" none D cy ad mi A) : ∀ n : Nat, Iw_mMa_writeMessage_41 p l e s m args below meth c D cy A ad mi MC MS Φ (xw_mMa_writeMessage_41 fu MC MS cy ad mi Φ n)
  | 0 => fun _ _ _ _ _ _ _ hf => False.elim hf
  | n + 1 => wv_mMa_writeMessage_41 F (ww_mMa_writeMessage_41 F n)
set_option maxHeartbeats 8000000 in
set_option maxRecDepth 100000 in
theorem wew_mMa_writeMessage {p : Program} {l : Launch} {e : Env} {s : State} {m : MethodId} {args : Array Value} {below : List Frame} {meth : Method} {c : Code} {D : va_G} {cy : Nat → ClassId} {A : Nat → Prop} {ad : Nat → Nat} {mi MC MS : Nat} {Φ : Mm → Prop} {fu : Nat} (F : FxM p s m args meth c b_Ma_writeMessage 4 "CoinKeeper$Machine" "writeMessage" none D cy ad mi A) : Iw_mMa_writeMessage_e p l e s m args below meth c D cy A ad mi MC MS Φ (xw_mMa_writeMessage fu MC MS cy ad mi Φ) := by
  obtain ⟨⟨hx, hb, hr, hml, hown, hts, hlocks, hK, hA, hSt, hnm, hex⟩, hT, hMi⟩ := id F
  intro κ σ M a0 hf hkc hks H locs ls hP hD hS hl
  unfold xw_mMa_writeMessage at hf
  refine lv_aload_n hx hb d_Ma_writeMessage_0 rfl (lv_at hl 0 rfl) ?_
  obtain ⟨fs_, hm_, r1, hv_, hf⟩ := hf
  obtain ⟨ix_, hi_⟩ := m_ix hm_
  refine va_get (D := D) (ci := 6) (v := va_rf r1) (C := "CoinKeeper$Machine") (T := F_6) (N := 19) hx hb hts i_6 hown hK hP ix_ hi_ rfl 14 (by decide) (hts _ gw_218) (fun _ h9 => h9) hv_ d_Ma_writeMessage_1 ?_
  clear hv_ hi_ hm_
  have hq_ := ospp hf
  clear hf
  rcases hq_ with ⟨rfl, hf⟩ | ⟨q2, rfl, hf⟩
  · refine W.eq (g2 := F0 m 4 ls [.null]) rfl ?_
    exact hf.elim
  · refine W.eq (g2 := F0 m 4 ls [.ref q2]) rfl ?_
    obtain ⟨fs_, hm_, r3, hv_, hf⟩ := hf
    obtain ⟨ix_, hi_⟩ := m_ix hm_
    refine va_get (D := D) (ci := 4) (v := va_rf r3) (C := "CoinKeeper$Layout") (T := F_4) (N := 15) hx hb hts i_4 hown hK hP ix_ hi_ rfl 0 (by decide) (hts _ gw_271) (fun _ h9 => h9) hv_ d_Ma_writeMessage_4 ?_
    clear hv_ hi_ hm_
    have hq_ := ospp hf
    clear hf
    rcases hq_ with ⟨rfl, hf⟩ | ⟨q4, rfl, hf⟩
    · refine W.eq (g2 := F0 m 7 ls [.null]) rfl ?_
      refine lv_astore_nN (lv' := [(1, .null), (0, .ref a0)]) hx hb d_Ma_writeMessage_7 rfl hl (by decide) rfl (fun ls hl => ?_)
      refine lv_aload_n hx hb d_Ma_writeMessage_8 rfl (lv_at hl 1 rfl) ?_
      obtain ⟨fs_, hm_, r5, hv_, hf⟩ := hf
      obtain ⟨ix_, hi_⟩ := m_ix hm_
      refine va_get (D := D) (ci := 6) (v := va_rf r5) (C := "CoinKeeper$Machine") (T := F_6) (N := 19) hx hb hts i_6 hown hK hP ix_ hi_ rfl 14 (by decide) (hts _ gw_218) (fun _ h9 => h9) hv_ d_Ma_writeMessage_9 ?_
      clear hv_ hi_ hm_
      have hq_ := ospp hf
      clear hf
      rcases hq_ with ⟨rfl, hf⟩ | ⟨q6, rfl, hf⟩
      · refine W.eq (g2 := F0 m 12 ls [.null]) rfl ?_
        exact hf.elim
      · refine W.eq (g2 := F0 m 12 ls [.ref q6]) rfl ?_
        obtain ⟨fs_, hm_, r7, hv_, hf⟩ := hf
        obtain ⟨ix_, hi_⟩ := m_ix hm_
        refine va_get (D := D) (ci := 4) (v := va_rf r7) (C := "CoinKeeper$Layout") (T := F_4) (N := 15) hx hb hts i_4 hown hK hP ix_ hi_ rfl 2 (by decide) (hts _ gw_275) (fun _ h9 => h9) hv_ d_Ma_writeMessage_12 ?_
        clear hv_ hi_ hm_
        obtain ⟨q8, rfl, hf⟩ := hf
        refine W.eq (g2 := F0 m 15 ls [.ref q8]) rfl ?_
        refine lv_aload_n hx hb d_Ma_writeMessage_15 rfl (lv_at hl 1 rfl) ?_
        obtain ⟨fs_, hm_, v9, hv_, hf⟩ := hf
        obtain ⟨ix_, hi_⟩ := m_ix hm_
        refine va_get (D := D) (ci := 6) (v := .int v9) (C := "CoinKeeper$Machine") (T := F_6) (N := 19) hx hb hts i_6 hown hK hP ix_ hi_ rfl 15 (by decide) (hts _ gw_219) (fun _ h9 => h9) hv_ d_Ma_writeMessage_16 ?_
        clear hv_ hi_ hm_
        obtain ⟨n_, f_, hm_, hin_, hf⟩ := hf
        obtain ⟨ix_, hi_⟩ := m_ix hm_
        refine va_iald hx hb hK hP ix_ 1 hi_ rfl (inb_in hin_) d_Ma_writeMessage_19 ?_
        obtain ⟨v10, ev⟩ : ∃ z, z = f_ v9.toNatClampNeg := ⟨_, rfl⟩
        first | rw [← ev] at hf ⊢ | rw [← ev]
        clear ev hi_ hm_ hin_
        refine lv_istore_n (lv' := [(2, .int v10), (1, .null), (0, .ref a0)]) hx hb d_Ma_writeMessage_20 rfl hl (by decide) rfl (fun ls hl => ?_)
        refine lv_aload_n hx hb d_Ma_writeMessage_21 rfl (lv_at hl 2 rfl) ?_
        obtain ⟨fs_, hm_, r11, hv_, hf⟩ := hf
        obtain ⟨ix_, hi_⟩ := m_ix hm_
        refine va_get (D := D) (ci := 6) (v := va_rf r11) (C := "CoinKeeper$Machine") (T := F_6) (N := 19) hx hb hts i_6 hown hK hP ix_ hi_ rfl 0 (by decide) (hts _ gw_204) (fun _ h9 => h9) hv_ d_Ma_writeMessage_22 ?_
        clear hv_ hi_ hm_
        obtain ⟨q12, rfl, hf⟩ := hf
        refine W.eq (g2 := F0 m 25 ls [.ref q12]) rfl ?_
        obtain ⟨b13, b14, b15, c16, c17, c18, hal_, hnd_, c19, c20, c21, hc, hf⟩ := hf
        refine m_lv (va_runV (C := "CoinKeeper$Sha256") (As := []) (rest := []) ⟨hx, hb, hml, hown, hts⟩ (c_Sh_begin l D cy ad fu q12 b13 b14 b15 c16 c17 c18 _ hc H.size) ⟨q_cB hts gw_715 gw_2 gw_1029 hds_78 ⟨Nat.le_of_ble_eq_true rfl, Nat.le_of_ble_eq_true rfl⟩, hts _ gw_713, hts _ gw_714⟩ (q_preV (q_pre (m_subP hP hal_) (m_subD hD hal_ hnd_) hK hSt hS (m_lF hD hS hA hal_) _) (va_recv hK (m_subP hP hal_) (ci := 9) (q0 := 0) rfl rfl)) rfl rfl hl.1 rfl (lv_room (Nat.le_of_ble_eq_true rfl)) d_Ma_writeMessage_25 ⟨hkc, hks⟩) hP hD hS hA hal_ rfl (fun H locs hP hD hS => ?_)
        refine W.widen (k := κ) (n := σ) (Nat.le_refl _) (Nat.le_refl _) ?_
        obtain ⟨M22, eM_, hf⟩ := bnP hf
        have hP : va_P D classes (mw M22) H := by rw [eM_]; exact hP
        have hD : va_D A (mw M22) := by rw [eM_]; exact hD
        clear eM_ hal_ hnd_ hc
        refine lv_aload_n hx hb d_Ma_writeMessage_28 rfl (lv_at hl 2 rfl) ?_
        obtain ⟨fs_, hm_, r23, hv_, hf⟩ := hf
        obtain ⟨ix_, hi_⟩ := m_ix hm_
        refine va_get (D := D) (ci := 6) (v := va_rf r23) (C := "CoinKeeper$Machine") (T := F_6) (N := 19) hx hb hts i_6 hown hK hP ix_ hi_ rfl 14 (by decide) (hts _ gw_218) (fun _ h9 => h9) hv_ d_Ma_writeMessage_29 ?_
        clear hv_ hi_ hm_
        have hq_ := ospp hf
        clear hf
        rcases hq_ with ⟨rfl, hf⟩ | ⟨q24, rfl, hf⟩
        · refine W.eq (g2 := F0 m 32 ls [.null]) rfl ?_
          exact hf.elim
        · refine W.eq (g2 := F0 m 32 ls [.ref q24]) rfl ?_
          obtain ⟨fs_, hm_, r25, hv_, hf⟩ := hf
          obtain ⟨ix_, hi_⟩ := m_ix hm_
          refine va_get (D := D) (ci := 4) (v := va_rf r25) (C := "CoinKeeper$Layout") (T := F_4) (N := 15) hx hb hts i_4 hown hK hP ix_ hi_ rfl 3 (by decide) (hts _ gw_278) (fun _ h9 => h9) hv_ d_Ma_writeMessage_32 ?_
          clear hv_ hi_ hm_
          obtain ⟨q26, rfl, hf⟩ := hf
          refine W.eq (g2 := F0 m 35 ls [.ref q26]) rfl ?_
          refine lv_aload_n hx hb d_Ma_writeMessage_35 rfl (lv_at hl 2 rfl) ?_
          obtain ⟨fs_, hm_, v27, hv_, hf⟩ := hf
          obtain ⟨ix_, hi_⟩ := m_ix hm_
          refine va_get (D := D) (ci := 6) (v := .int v27) (C := "CoinKeeper$Machine") (T := F_6) (N := 19) hx hb hts i_6 hown hK hP ix_ hi_ rfl 15 (by decide) (hts _ gw_219) (fun _ h9 => h9) hv_ d_Ma_writeMessage_36 ?_
          clear hv_ hi_ hm_
          obtain ⟨n_, f_, hm_, hin_, hf⟩ := hf
          obtain ⟨ix_, hi_⟩ := m_ix hm_
          refine va_iald hx hb hK hP ix_ 1 hi_ rfl (inb_in hin_) d_Ma_writeMessage_39 ?_
          obtain ⟨v28, ev⟩ : ∃ z, z = f_ v27.toNatClampNeg := ⟨_, rfl⟩
          first | rw [← ev] at hf ⊢ | rw [← ev]
          clear ev hi_ hm_ hin_
          refine lv_istore_n (lv' := [(3, .int v28), (2, .int v10), (1, .null), (0, .ref a0)]) hx hb d_Ma_writeMessage_40 rfl hl (by decide) rfl (fun ls hl => ?_)
          have hl : lv_has ls 4 [(0, .ref a0), (1, va_rf Option.none), (2, .int v10), (3, .int v28)] := lv_sub hl [3, 2, 1, 0] rfl
          exact ww_mMa_writeMessage_41 F fu _ _ _ _ _ _ _ hf hkc hks _ _ _ hP hD hS hl
    · refine W.eq (g2 := F0 m 7 ls [.ref q4]) rfl ?_
      refine lv_astore_n (lv' := [(1, .ref q4), (0, .ref a0)]) hx hb d_Ma_writeMessage_7 rfl hl (by decide) rfl (fun ls hl => ?_)
      refine lv_aload_n hx hb d_Ma_writeMessage_8 rfl (lv_at hl 1 rfl) ?_
      obtain ⟨fs_, hm_, r29, hv_, hf⟩ := hf
      obtain ⟨ix_, hi_⟩ := m_ix hm_
      refine va_get (D := D) (ci := 6) (v := va_rf r29) (C := "CoinKeeper$Machine") (T := F_6) (N := 19) hx hb hts i_6 hown hK hP ix_ hi_ rfl 14 (by decide) (hts _ gw_218) (fun _ h9 => h9) hv_ d_Ma_writeMessage_9 ?_
      clear hv_ hi_ hm_
      have hq_ := ospp hf
      clear hf
      rcases hq_ with ⟨rfl, hf⟩ | ⟨q30, rfl, hf⟩
      · refine W.eq (g2 := F0 m 12 ls [.null]) rfl ?_
        exact hf.elim
      · refine W.eq (g2 := F0 m 12 ls [.ref q30]) rfl ?_
        obtain ⟨fs_, hm_, r31, hv_, hf⟩ := hf
        obtain ⟨ix_, hi_⟩ := m_ix hm_
        refine va_get (D := D) (ci := 4) (v := va_rf r31) (C := "CoinKeeper$Layout") (T := F_4) (N := 15) hx hb hts i_4 hown hK hP ix_ hi_ rfl 2 (by decide) (hts _ gw_275) (fun _ h9 => h9) hv_ d_Ma_writeMessage_12 ?_
        clear hv_ hi_ hm_
        obtain ⟨q32, rfl, hf⟩ := hf
        refine W.eq (g2 := F0 m 15 ls [.ref q32]) rfl ?_
        refine lv_aload_n hx hb d_Ma_writeMessage_15 rfl (lv_at hl 1 rfl) ?_
        obtain ⟨fs_, hm_, v33, hv_, hf⟩ := hf
        obtain ⟨ix_, hi_⟩ := m_ix hm_
        refine va_get (D := D) (ci := 6) (v := .int v33) (C := "CoinKeeper$Machine") (T := F_6) (N := 19) hx hb hts i_6 hown hK hP ix_ hi_ rfl 15 (by decide) (hts _ gw_219) (fun _ h9 => h9) hv_ d_Ma_writeMessage_16 ?_
        clear hv_ hi_ hm_
        obtain ⟨n_, f_, hm_, hin_, hf⟩ := hf
        obtain ⟨ix_, hi_⟩ := m_ix hm_
        refine va_iald hx hb hK hP ix_ 1 hi_ rfl (inb_in hin_) d_Ma_writeMessage_19 ?_
        obtain ⟨v34, ev⟩ : ∃ z, z = f_ v33.toNatClampNeg := ⟨_, rfl⟩
        first | rw [← ev] at hf ⊢ | rw [← ev]
        clear ev hi_ hm_ hin_
        refine lv_istore_n (lv' := [(2, .int v34), (1, .ref q4), (0, .ref a0)]) hx hb d_Ma_writeMessage_20 rfl hl (by decide) rfl (fun ls hl => ?_)
        refine lv_aload_n hx hb d_Ma_writeMessage_21 rfl (lv_at hl 2 rfl) ?_
        obtain ⟨fs_, hm_, r35, hv_, hf⟩ := hf
        obtain ⟨ix_, hi_⟩ := m_ix hm_
        refine va_get (D := D) (ci := 6) (v := va_rf r35) (C := "CoinKeeper$Machine") (T := F_6) (N := 19) hx hb hts i_6 hown hK hP ix_ hi_ rfl 0 (by decide) (hts _ gw_204) (fun _ h9 => h9) hv_ d_Ma_writeMessage_22 ?_
        clear hv_ hi_ hm_
        obtain ⟨q36, rfl, hf⟩ := hf
        refine W.eq (g2 := F0 m 25 ls [.ref q36]) rfl ?_
        obtain ⟨b37, b38, b39, c40, c41, c42, hal_, hnd_, c43, c44, c45, hc, hf⟩ := hf
        refine m_lv (va_runV (C := "CoinKeeper$Sha256") (As := []) (rest := []) ⟨hx, hb, hml, hown, hts⟩ (c_Sh_begin l D cy ad fu q36 b37 b38 b39 c40 c41 c42 _ hc H.size) ⟨q_cB hts gw_715 gw_2 gw_1029 hds_78 ⟨Nat.le_of_ble_eq_true rfl, Nat.le_of_ble_eq_true rfl⟩, hts _ gw_713, hts _ gw_714⟩ (q_preV (q_pre (m_subP hP hal_) (m_subD hD hal_ hnd_) hK hSt hS (m_lF hD hS hA hal_) _) (va_recv hK (m_subP hP hal_) (ci := 9) (q0 := 0) rfl rfl)) rfl rfl hl.1 rfl (lv_room (Nat.le_of_ble_eq_true rfl)) d_Ma_writeMessage_25 ⟨hkc, hks⟩) hP hD hS hA hal_ rfl (fun H locs hP hD hS => ?_)
        refine W.widen (k := κ) (n := σ) (Nat.le_refl _) (Nat.le_refl _) ?_
        obtain ⟨M46, eM_, hf⟩ := bnP hf
        have hP : va_P D classes (mw M46) H := by rw [eM_]; exact hP
        have hD : va_D A (mw M46) := by rw [eM_]; exact hD
        clear eM_ hal_ hnd_ hc
        refine lv_aload_n hx hb d_Ma_writeMessage_28 rfl (lv_at hl 2 rfl) ?_
        obtain ⟨fs_, hm_, r47, hv_, hf⟩ := hf
        obtain ⟨ix_, hi_⟩ := m_ix hm_
        refine va_get (D := D) (ci := 6) (v := va_rf r47) (C := "CoinKeeper$Machine") (T := F_6) (N := 19) hx hb hts i_6 hown hK hP ix_ hi_ rfl 14 (by decide) (hts _ gw_218) (fun _ h9 => h9) hv_ d_Ma_writeMessage_29 ?_
        clear hv_ hi_ hm_
        have hq_ := ospp hf
        clear hf
        rcases hq_ with ⟨rfl, hf⟩ | ⟨q48, rfl, hf⟩
        · refine W.eq (g2 := F0 m 32 ls [.null]) rfl ?_
          exact hf.elim
        · refine W.eq (g2 := F0 m 32 ls [.ref q48]) rfl ?_
          obtain ⟨fs_, hm_, r49, hv_, hf⟩ := hf
          obtain ⟨ix_, hi_⟩ := m_ix hm_
          refine va_get (D := D) (ci := 4) (v := va_rf r49) (C := "CoinKeeper$Layout") (T := F_4) (N := 15) hx hb hts i_4 hown hK hP ix_ hi_ rfl 3 (by decide) (hts _ gw_278) (fun _ h9 => h9) hv_ d_Ma_writeMessage_32 ?_
          clear hv_ hi_ hm_
          obtain ⟨q50, rfl, hf⟩ := hf
          refine W.eq (g2 := F0 m 35 ls [.ref q50]) rfl ?_
          refine lv_aload_n hx hb d_Ma_writeMessage_35 rfl (lv_at hl 2 rfl) ?_
          obtain ⟨fs_, hm_, v51, hv_, hf⟩ := hf
          obtain ⟨ix_, hi_⟩ := m_ix hm_
          refine va_get (D := D) (ci := 6) (v := .int v51) (C := "CoinKeeper$Machine") (T := F_6) (N := 19) hx hb hts i_6 hown hK hP ix_ hi_ rfl 15 (by decide) (hts _ gw_219) (fun _ h9 => h9) hv_ d_Ma_writeMessage_36 ?_
          clear hv_ hi_ hm_
          obtain ⟨n_, f_, hm_, hin_, hf⟩ := hf
          obtain ⟨ix_, hi_⟩ := m_ix hm_
          refine va_iald hx hb hK hP ix_ 1 hi_ rfl (inb_in hin_) d_Ma_writeMessage_39 ?_
          obtain ⟨v52, ev⟩ : ∃ z, z = f_ v51.toNatClampNeg := ⟨_, rfl⟩
          first | rw [← ev] at hf ⊢ | rw [← ev]
          clear ev hi_ hm_ hin_
          refine lv_istore_n (lv' := [(3, .int v52), (2, .int v34), (1, .ref q4), (0, .ref a0)]) hx hb d_Ma_writeMessage_40 rfl hl (by decide) rfl (fun ls hl => ?_)
          have hl : lv_has ls 4 [(0, .ref a0), (1, va_rf (some q4)), (2, .int v34), (3, .int v52)] := lv_sub hl [3, 2, 1, 0] rfl
          exact ww_mMa_writeMessage_41 F fu _ _ _ _ _ _ _ hf hkc hks _ _ _ hP hD hS hl
theorem cw_mMa_writeMessage (l : Launch) (D : va_G) (cy : Nat → ClassId) (ad : Nat → Nat) (mi fu MC MS : Nat) (a0 : Nat) (M : Mm) (Φ : Mm → Prop) (hf : xw_mMa_writeMessage fu MC MS cy ad mi Φ 0 0 M a0) (sz : Nat) : Met l ({ cls := "CoinKeeper$Machine", name := "writeMessage", desc := "()V" } : Jvm.MethodName) (.code ({ cls := "CoinKeeper$Machine", name := "writeMessage", desc := "()V" } : Jvm.MethodName) b_Ma_writeMessage 4 none :: gw) (rmw_mMa_writeMessage MC MS) (va_Pc [.ref a0] (PrM D cy ad mi (mw M) sz)) (va_Qv Φ (fun u t => Po D cy (va_A (mw M) sz) (mw u) t) (va_A (mw M) sz)) MC MS (va_A (mw M) sz) :=
  q_metM (Qc := fun A => va_Qv Φ (fun u t => Po D cy A (mw u) t) A) (by decide) rfl rfl (Nat.le_of_ble_eq_true rfl) (fun p e s m below meth c ls F hP hD hS hl => wew_mMa_writeMessage (fu := fu) F 0 0 M a0 hf (Nat.zero_le _) (Nat.zero_le _) _ _ _ hP hD hS hl) sz
abbrev b_Ma_hasMessage : ByteArray := prog_7_method_32_code
theorem d_Ma_hasMessage_0 : decode b_Ma_hasMessage 0 = .ok (.aload_n 0, 1) := by decide +kernel
theorem d_Ma_hasMessage_1 : decode b_Ma_hasMessage 1 = .ok (.getfield 54, 3) := by decide +kernel
theorem d_Ma_hasMessage_4 : decode b_Ma_hasMessage 4 = .ok (.ifnull 10, 3) := by decide +kernel
theorem d_Ma_hasMessage_7 : decode b_Ma_hasMessage 7 = .ok (.aload_n 0, 1) := by decide +kernel
theorem d_Ma_hasMessage_8 : decode b_Ma_hasMessage 8 = .ok (.getfield 65, 3) := by decide +kernel
theorem d_Ma_hasMessage_11 : decode b_Ma_hasMessage 11 = .ok (.ifnonnull 5, 3) := by decide +kernel
theorem d_Ma_hasMessage_14 : decode b_Ma_hasMessage 14 = .ok (.iconst 0, 1) := by decide +kernel
theorem d_Ma_hasMessage_15 : decode b_Ma_hasMessage 15 = .ok (.ireturn, 1) := by decide +kernel
theorem d_Ma_hasMessage_16 : decode b_Ma_hasMessage 16 = .ok (.aload_n 0, 1) := by decide +kernel
theorem d_Ma_hasMessage_17 : decode b_Ma_hasMessage 17 = .ok (.getfield 69, 3) := by decide +kernel
theorem d_Ma_hasMessage_20 : decode b_Ma_hasMessage 20 = .ok (.ifCond .ne 12, 3) := by decide +kernel
theorem d_Ma_hasMessage_23 : decode b_Ma_hasMessage 23 = .ok (.aload_n 0, 1) := by decide +kernel
theorem d_Ma_hasMessage_24 : decode b_Ma_hasMessage 24 = .ok (.invokevirtual 211, 3) := by decide +kernel
theorem d_Ma_hasMessage_27 : decode b_Ma_hasMessage 27 = .ok (.aload_n 0, 1) := by decide +kernel
theorem d_Ma_hasMessage_28 : decode b_Ma_hasMessage 28 = .ok (.iconst 1, 1) := by decide +kernel
theorem d_Ma_hasMessage_29 : decode b_Ma_hasMessage 29 = .ok (.putfield 69, 3) := by decide +kernel
theorem d_Ma_hasMessage_32 : decode b_Ma_hasMessage 32 = .ok (.iconst 1, 1) := by decide +kernel
theorem d_Ma_hasMessage_33 : decode b_Ma_hasMessage 33 = .ok (.ireturn, 1) := by decide +kernel
abbrev rmw_mMa_hasMessage (MC MS : Nat) : Room := { frames := 3, cells := MC, slots := MS, locals := 80 }
def Iw_mMa_hasMessage_e (p : Program) (l : Launch) (e : Env) (s : State) (m : MethodId) (args : Array Value) (below : List Frame) (meth : Method) (c : Code) (D : va_G) (cy : Nat → ClassId) (A : Nat → Prop) (ad : Nat → Nat) (mi MC MS : Nat) (Φ : Int32 → Mm → Prop) (k : Nat → Nat → Mm → Nat → Prop) : Prop :=
  ∀ (κ σ : Nat) (M : Mm) (a0 : Nat), k κ σ M a0 → κ ≤ MC → σ ≤ MS → ∀ (H : Heap) (locs : List Loc) (ls : Array Slot), va_P D classes (mw M) H → va_D A (mw M) → va_S A s.heap H locs → lv_has ls 1 [(0, .ref a0)] → W p l e (rmw_mMa_hasMessage MC MS) s m args below meth c H locs κ σ (MQ below (va_Qi Φ (fun u t => Po D cy A (mw u) t) A) args s MC MS A) (F0 m 0 ls [])
theorem hds_79 : ({ cls := "CoinKeeper$Machine", name := "writeMessage", desc := "()V" } : Jvm.MethodName).cls ≠ "java/lang/invoke/MethodHandle" ∧ ({ cls := "CoinKeeper$Machine", name := "writeMessage", desc := "()V" } : Jvm.MethodName).cls ≠ "java/lang/invoke/VarHandle" ∧ (parseMethodDescriptor ({ cls := "CoinKeeper$Machine", name := "writeMessage", desc := "()V" } : Jvm.MethodName).desc).map (fun d => d.parameters.length) = some 0 := by decide +kernel
set_option maxHeartbeats 8000000 in
set_option maxRecDepth 100000 in
theorem wew_mMa_hasMessage {p : Program} {l : Launch} {e : Env} {s : State} {m : MethodId} {args : Array Value} {below : List Frame} {meth : Method} {c : Code} {D : va_G} {cy : Nat → ClassId} {A : Nat → Prop} {ad : Nat → Nat} {mi MC MS : Nat} {Φ : Int32 → Mm → Prop} {fu : Nat} (F : FxM p s m args meth c b_Ma_hasMessage 1 "CoinKeeper$Machine" "hasMessage" (some .boolean) D cy ad mi A) : Iw_mMa_hasMessage_e p l e s m args below meth c D cy A ad mi MC MS Φ (xw_mMa_hasMessage fu MC MS cy ad mi Φ) := by
  obtain ⟨⟨hx, hb, hr, hml, hown, hts, hlocks, hK, hA, hSt, hnm, hex⟩, hT, hMi⟩ := id F
  intro κ σ M a0 hf hkc hks H locs ls hP hD hS hl
  unfold xw_mMa_hasMessage at hf
  refine lv_aload_n hx hb d_Ma_hasMessage_0 rfl (lv_at hl 0 rfl) ?_
  obtain ⟨fs_, hm_, r1, hv_, hf⟩ := hf
  obtain ⟨ix_, hi_⟩ := m_ix hm_
  refine va_get (D := D) (ci := 6) (v := va_rf r1) (C := "CoinKeeper$Machine") (T := F_6) (N := 19) hx hb hts i_6 hown hK hP ix_ hi_ rfl 14 (by decide) (hts _ gw_218) (fun _ h9 => h9) hv_ d_Ma_hasMessage_1 ?_
  clear hv_ hi_ hm_
  have hq_ := ospp hf
  clear hf
  rcases hq_ with ⟨rfl, hf⟩ | ⟨q2, rfl, hf⟩
  · refine W.eq (g2 := F0 m 4 ls [.null]) rfl ?_
    refine lv_ifnullN (tgt := 14) hx hb d_Ma_hasMessage_4 (by decide) ?_
    refine lv_iconst (v := 0) hx hb d_Ma_hasMessage_14 (by decide) ?_
    refine W.widen (k := MC) (n := MS) hkc hks ?_
    exact m_rz hf hx hb hr hlocks hK hP hD hS (isb_n (v := 0) (by decide)) d_Ma_hasMessage_15
  · refine W.eq (g2 := F0 m 4 ls [.ref q2]) rfl ?_
    refine lv_ifnull hx hb d_Ma_hasMessage_4 ?_
    refine lv_aload_n hx hb d_Ma_hasMessage_7 rfl (lv_at hl 0 rfl) ?_
    obtain ⟨fs_, hm_, r3, hv_, hf⟩ := hf
    obtain ⟨ix_, hi_⟩ := m_ix hm_
    refine va_get (D := D) (ci := 6) (v := va_rf r3) (C := "CoinKeeper$Machine") (T := F_6) (N := 19) hx hb hts i_6 hown hK hP ix_ hi_ rfl 17 (by decide) (hts _ gw_221) (fun _ h9 => h9) hv_ d_Ma_hasMessage_8 ?_
    clear hv_ hi_ hm_
    have hq_ := ospp hf
    clear hf
    rcases hq_ with ⟨rfl, hf⟩ | ⟨q4, rfl, hf⟩
    · refine W.eq (g2 := F0 m 11 ls [.null]) rfl ?_
      refine lv_ifnonnullN hx hb d_Ma_hasMessage_11 ?_
      refine lv_iconst (v := 0) hx hb d_Ma_hasMessage_14 (by decide) ?_
      refine W.widen (k := MC) (n := MS) hkc hks ?_
      exact m_rz hf hx hb hr hlocks hK hP hD hS (isb_n (v := 0) (by decide)) d_Ma_hasMessage_15
    · refine W.eq (g2 := F0 m 11 ls [.ref q4]) rfl ?_
      refine lv_ifnonnull (tgt := 16) hx hb d_Ma_hasMessage_11 (by decide) ?_
      refine lv_aload_n hx hb d_Ma_hasMessage_16 rfl (lv_at hl 0 rfl) ?_
      obtain ⟨fs_, hm_, v5, hv_, hf⟩ := hf
      obtain ⟨ix_, hi_⟩ := m_ix hm_
      refine va_get (D := D) (ci := 6) (v := .int v5) (C := "CoinKeeper$Machine") (T := F_6) (N := 19) hx hb hts i_6 hown hK hP ix_ hi_ rfl 18 (by decide) (hts _ gw_222) (fun _ h9 => h9) hv_ d_Ma_hasMessage_17 ?_
      clear hv_ hi_ hm_
      refine lv_if_ne (tgt := 32) hx hb d_Ma_hasMessage_20 (by decide) (fun cx => ?_) (fun cx => ?_)
      · have hf := ifnP cx hf
        refine lv_iconst (v := 1) hx hb d_Ma_hasMessage_32 (by decide) ?_
        refine W.widen (k := MC) (n := MS) hkc hks ?_
        exact m_rz hf hx hb hr hlocks hK hP hD hS (isb_n (v := 1) (by decide)) d_Ma_hasMessage_33
      · have hf := ifpP cx hf
        refine lv_aload_n hx hb d_Ma_hasMessage_23 rfl (lv_at hl 0 rfl) ?_
        obtain ⟨fs_, hm_, hf⟩ := hf
        obtain ⟨ix_, hi_⟩ := m_ix hm_
        obtain ⟨mc6, ms7, ⟨hc_, hd_⟩, hf⟩ := hf
        refine m_av (va_runV (C := "CoinKeeper$Machine") (As := []) (rest := []) ⟨hx, hb, hml, hown, hts⟩ (cw_mMa_writeMessage l D cy ad mi fu mc6 ms7 a0 M _ hf H.size) ⟨q_cB hts gw_1028 gw_6 gw_1025 hds_79 ⟨Nat.le_of_ble_eq_true rfl, Nat.le_of_ble_eq_true rfl⟩, hts _ gw_1027, hts _ gs_36⟩ (q_preVM (q_preM hP hD hK hSt hT hMi hS (m_free hD hS hA) _) (va_recv hK hP (ci := 6) (q0 := ix_) rfl hi_)) rfl rfl hl.1 rfl (lv_room (Nat.le_of_ble_eq_true rfl)) d_Ma_hasMessage_24 ⟨hc_, hd_⟩) hD hS hA (fun M8 H locs hf hP hD hS => ?_)
        have hkc : κ + mc6 ≤ MC := hc_
        have hks : σ + ms7 ≤ MS := hd_
        clear hc_ hd_
        refine lv_aload_n hx hb d_Ma_hasMessage_27 rfl (lv_at hl 0 rfl) ?_
        refine lv_iconst (v := 1) hx hb d_Ma_hasMessage_28 (by decide) ?_
        obtain ⟨fs_, hm_, hlen_, hf⟩ := hf
        obtain ⟨ix_, hi_⟩ := m_ix hm_
        have hE_ := m_set (y := .inr (6, fs_.set 18 (.int (1 : Int32)))) hD hi_
        refine va_put (D := D) (ci := 6) (v := .int (1 : Int32)) (ty := .boolean) (C := "CoinKeeper$Machine") (T := F_6) (N := 19) hx hb hts i_6 t_6 t_6_ok n_6 hown hK hP hD hS ix_ hi_ rfl 18 (by decide) (hts _ gw_222) (fun _ h9 => h9) rfl (by decide +kernel) (isb_n (v := 1) (by decide)) (isb_f (v := 1) (by decide)) hlen_ d_Ma_hasMessage_29 (fun H locs hP hD hS => ?_)
        obtain ⟨M9, eM_⟩ : ∃ z, z = mu M8 a0 (.inr (6, fs_.set 18 (.int (1 : Int32)))) := ⟨_, rfl⟩
        rw [← eM_] at hf hE_
        rw [hE_] at hP hD
        clear hE_ eM_ hi_ hm_
        refine lv_iconst (v := 1) hx hb d_Ma_hasMessage_32 (by decide) ?_
        refine W.widen (k := MC) (n := MS) hkc hks ?_
        exact m_rz hf hx hb hr hlocks hK hP hD hS (isb_n (v := 1) (by decide)) d_Ma_hasMessage_33
theorem cw_mMa_hasMessage (l : Launch) (D : va_G) (cy : Nat → ClassId) (ad : Nat → Nat) (mi fu MC MS : Nat) (a0 : Nat) (M : Mm) (Φ : Int32 → Mm → Prop) (hf : xw_mMa_hasMessage fu MC MS cy ad mi Φ 0 0 M a0) (sz : Nat) : Met l ({ cls := "CoinKeeper$Machine", name := "hasMessage", desc := "()Z" } : Jvm.MethodName) (.code ({ cls := "CoinKeeper$Machine", name := "hasMessage", desc := "()Z" } : Jvm.MethodName) b_Ma_hasMessage 1 (some .boolean) :: gw) (rmw_mMa_hasMessage MC MS) (va_Pc [.ref a0] (PrM D cy ad mi (mw M) sz)) (va_Qi Φ (fun u t => Po D cy (va_A (mw M) sz) (mw u) t) (va_A (mw M) sz)) MC MS (va_A (mw M) sz) :=
  q_metM (Qc := fun A => va_Qi Φ (fun u t => Po D cy A (mw u) t) A) (by decide) rfl rfl (Nat.le_of_ble_eq_true rfl) (fun p e s m below meth c ls F hP hD hS hl => wew_mMa_hasMessage (fu := fu) F 0 0 M a0 hf (Nat.zero_le _) (Nat.zero_le _) _ _ _ hP hD hS hl) sz
abbrev rmw_mMa_checkOne (MC MS : Nat) : Room := { frames := 5, cells := MC, slots := MS, locals := 163 }
def Iw_mMa_checkOne_119 (p : Program) (l : Launch) (e : Env) (s : State) (m : MethodId) (args : Array Value) (below : List Frame) (meth : Method) (c : Code) (D : va_G) (cy : Nat → ClassId) (A : Nat → Prop) (ad : Nat → Nat) (mi MC MS : Nat) (Φ : Int32 → Mm → Prop) (k : Nat → Nat → Mm → Prop) : Prop :=
  ∀ (κ σ : Nat) (M : Mm), k κ σ M → κ ≤ MC → σ ≤ MS → ∀ (H : Heap) (locs : List Loc) (ls : Array Slot), va_P D classes (mw M) H → va_D A (mw M) → va_S A s.heap H locs → lv_has ls 5 [] → W p l e (rmw_mMa_checkOne MC MS) s m args below meth c H locs κ σ (MQ below (va_Qi Φ (fun u t => Po D cy A (mw u) t) A) args s MC MS A) (F0 m 119 ls [])
def Iw_mMa_checkOne_102 (p : Program) (l : Launch) (e : Env) (s : State) (m : MethodId) (args : Array Value) (below : List Frame) (meth : Method) (c : Code) (D : va_G) (cy : Nat → ClassId) (A : Nat → Prop) (ad : Nat → Nat) (mi MC MS : Nat) (Φ : Int32 → Mm → Prop) (k : Nat → Nat → Mm → Nat → Int32 → Int32 → Nat → Prop) : Prop :=
  ∀ (κ σ : Nat) (M : Mm) (x0 : Nat) (x1 : Int32) (y0 : Int32) (y1 : Nat), k κ σ M x0 x1 y0 y1 → κ ≤ MC → σ ≤ MS → ∀ (H : Heap) (locs : List Loc) (ls : Array Slot), va_P D classes (mw M) H → va_D A (mw M) → va_S A s.heap H locs → lv_has ls 5 [(0, .ref x0), (1, .int x1)] → W p l e (rmw_mMa_checkOne MC MS) s m args below meth c H locs κ σ (MQ below (va_Qi Φ (fun u t => Po D cy A (mw u) t) A) args s MC MS A) (F0 m 102 ls [.int y0, .ref y1])
def Iw_mMa_checkOne_87 (p : Program) (l : Launch) (e : Env) (s : State) (m : MethodId) (args : Array Value) (below : List Frame) (meth : Method) (c : Code) (D : va_G) (cy : Nat → ClassId) (A : Nat → Prop) (ad : Nat → Nat) (mi MC MS : Nat) (Φ : Int32 → Mm → Prop) (k : Nat → Nat → Mm → Nat → Int32 → Int32 → Prop) : Prop :=
  ∀ (κ σ : Nat) (M : Mm) (x0 : Nat) (x1 : Int32) (y0 : Int32), k κ σ M x0 x1 y0 → κ ≤ MC → σ ≤ MS → ∀ (H : Heap) (locs : List Loc) (ls : Array Slot), va_P D classes (mw M) H → va_D A (mw M) → va_S A s.heap H locs → lv_has ls 5 [(0, .ref x0), (1, .int x1)] → W p l e (rmw_mMa_checkOne MC MS) s m args below meth c H locs κ σ (MQ below (va_Qi Φ (fun u t => Po D cy A (mw u) t) A) args s MC MS A) (F0 m 87 ls [.int y0])
def Iw_mMa_checkOne_86 (p : Program) (l : Launch) (e : Env) (s : State) (m : MethodId) (args : Array Value) (below : List Frame) (meth : Method) (c : Code) (D : va_G) (cy : Nat → ClassId) (A : Nat → Prop) (ad : Nat → Nat) (mi MC MS : Nat) (Φ : Int32 → Mm → Prop) (k : Nat → Nat → Mm → Nat → Int32 → Prop) : Prop :=
  ∀ (κ σ : Nat) (M : Mm) (x0 : Nat) (x1 : Int32), k κ σ M x0 x1 → κ ≤ MC → σ ≤ MS → ∀ (H : Heap) (locs : List Loc) (ls : Array Slot), va_P D classes (mw M) H → va_D A (mw M) → va_S A s.heap H locs → lv_has ls 5 [(0, .ref x0), (1, .int x1)] → W p l e (rmw_mMa_checkOne MC MS) s m args below meth c H locs κ σ (MQ below (va_Qi Φ (fun u t => Po D cy A (mw u) t) A) args s MC MS A) (F0 m 86 ls [])
def Iw_mMa_checkOne_e (p : Program) (l : Launch) (e : Env) (s : State) (m : MethodId) (args : Array Value) (below : List Frame) (meth : Method) (c : Code) (D : va_G) (cy : Nat → ClassId) (A : Nat → Prop) (ad : Nat → Nat) (mi MC MS : Nat) (Φ : Int32 → Mm → Prop) (k : Nat → Nat → Mm → Nat → Int32 → Prop) : Prop :=
  ∀ (κ σ : Nat) (M : Mm) (a0 : Nat) (a1 : Int32), k κ σ M a0 a1 → κ ≤ MC → σ ≤ MS → ∀ (H : Heap) (locs : List Loc) (ls : Array Slot), va_P D classes (mw M) H → va_D A (mw M) → va_S A s.heap H locs → lv_has ls 5 [(0, .ref a0), (1, .int a1)] → W p l e (rmw_mMa_checkOne MC MS) s m args below meth c H locs κ σ (MQ below (va_Qi Φ (fun u t => Po D cy A (mw u) t) A) args s MC MS A) (F0 m 0 ls [])
set_option maxHeartbeats 8000000 in
set_option maxRecDepth 100000 in
theorem wv_mMa_checkOne_119 {p : Program} {l : Launch} {e : Env} {s : State} {m : MethodId} {args : Array Value} {below : List Frame} {meth : Method} {c : Code} {D : va_G} {cy : Nat → ClassId} {A : Nat → Prop} {ad : Nat → Nat} {mi MC MS : Nat} {Φ : Int32 → Mm → Prop} {fu : Nat} (F : FxM p s m args meth c b_Ma_checkOne 5 "CoinKeeper$Machine" "checkOne" (some .boolean) D cy ad mi A) : Iw_mMa_checkOne_119 p l e s m args below meth c D cy A ad mi MC MS Φ (xv_mMa_checkOne_119 fu MC MS cy ad mi Φ) := by
  obtain ⟨⟨hx, hb, hr, hml, hown, hts, hlocks, hK, hA, hSt, hnm, hex⟩, hT, hMi⟩ := id F
  intro κ σ M hf hkc hks H locs ls hP hD hS hl
  unfold xv_mMa_checkOne_119 at hf
  refine lv_iconst (v := 1) hx hb d_Ma_checkOne_119 (by decide) ?_
  refine lv_goto (tgt := 124) hx hb d_Ma_checkOne_120 (by decide) ?_
  refine W.widen (k := MC) (n := MS) hkc hks ?_
  exact m_rz hf hx hb hr hlocks hK hP hD hS (isb_n (v := 1) (by decide)) d_Ma_checkOne_124
theorem hds_80 : ({ cls := "CoinKeeper$Machine", name := "push", desc := "(I)V" } : Jvm.MethodName).cls ≠ "java/lang/invoke/MethodHandle" ∧ ({ cls := "CoinKeeper$Machine", name := "push", desc := "(I)V" } : Jvm.MethodName).cls ≠ "java/lang/invoke/VarHandle" ∧ (parseMethodDescriptor ({ cls := "CoinKeeper$Machine", name := "push", desc := "(I)V" } : Jvm.MethodName).desc).map (fun d => d.parameters.length) = some 1 := by decide +kernel
theorem hds_81 : ({ cls := "CoinKeeper$Machine", name := "verifyTop", desc := "()Z" } : Jvm.MethodName).cls ≠ "java/lang/invoke/MethodHandle" ∧ ({ cls := "CoinKeeper$Machine", name := "verifyTop", desc := "()Z" } : Jvm.MethodName).cls ≠ "java/lang/invoke/VarHandle" ∧ (parseMethodDescriptor ({ cls := "CoinKeeper$Machine", name := "verifyTop", desc := "()Z" } : Jvm.MethodName).desc).map (fun d => d.parameters.length) = some 0 := by decide +kernel
set_option maxHeartbeats 8000000 in
set_option maxRecDepth 100000 in
theorem wv_mMa_checkOne_102 {p : Program} {l : Launch} {e : Env} {s : State} {m : MethodId} {args : Array Value} {below : List Frame} {meth : Method} {c : Code} {D : va_G} {cy : Nat → ClassId} {A : Nat → Prop} {ad : Nat → Nat} {mi MC MS : Nat} {Φ : Int32 → Mm → Prop} {fu : Nat} (F : FxM p s m args meth c b_Ma_checkOne 5 "CoinKeeper$Machine" "checkOne" (some .boolean) D cy ad mi A) : Iw_mMa_checkOne_102 p l e s m args below meth c D cy A ad mi MC MS Φ (xv_mMa_checkOne_102 fu MC MS cy ad mi Φ) := by
  obtain ⟨⟨hx, hb, hr, hml, hown, hts, hlocks, hK, hA, hSt, hnm, hex⟩, hT, hMi⟩ := id F
  intro κ σ M x0 x1 y0 y1 hf hkc hks H locs ls hP hD hS hl
  unfold xv_mMa_checkOne_102 at hf
  obtain ⟨b1, b2, b3, b4, b5, b6, b7, b8, b9, b10, c11, c12, c13, c14, c15, c16, c17, c18, c19, c20, hal_, hnd_, c21, c22, hc, hf⟩ := hf
  refine m_lv (va_runV (C := "CoinKeeper$Machine") (As := [.int y0]) (rest := []) ⟨hx, hb, hml, hown, hts⟩ (c_Ma_push l D cy ad fu y1 b1 b2 b3 b4 b5 b6 b7 b8 b9 b10 c11 c12 c13 c14 c15 c16 c17 c18 y0 c19 c20 _ hc H.size) ⟨q_cB hts gw_988 gw_6 gw_985 hds_80 ⟨Nat.le_of_ble_eq_true rfl, Nat.le_of_ble_eq_true rfl⟩, hts _ gw_987, hts _ gs_28⟩ (q_preV (q_pre (m_subP hP hal_) (m_subD hD hal_ hnd_) hK hSt hS (m_lF hD hS hA hal_) _) (va_recv hK (m_subP hP hal_) (ci := 6) (q0 := 0) rfl rfl)) rfl rfl hl.1 rfl (lv_room (Nat.le_of_ble_eq_true rfl)) d_Ma_checkOne_102 ⟨hkc, hks⟩) hP hD hS hA hal_ rfl (fun H locs hP hD hS => ?_)
  refine W.widen (k := κ) (n := σ) (Nat.le_refl _) (Nat.le_refl _) ?_
  obtain ⟨M23, eM_, hf⟩ := bnP hf
  have hP : va_P D classes (mw M23) H := by rw [eM_]; exact hP
  have hD : va_D A (mw M23) := by rw [eM_]; exact hD
  clear eM_ hal_ hnd_ hc
  refine lv_iload_n hx hb d_Ma_checkOne_105 rfl (lv_at hl 1 rfl) ?_
  refine lv_sipush (v := 172) hx hb d_Ma_checkOne_106 (by decide) ?_
  refine lv_icmp_eq (tgt := 119) hx hb d_Ma_checkOne_109 (by decide) (fun cx => ?_) (fun cx => ?_)
  · have hf := ifpP cx hf
    exact wv_mMa_checkOne_119 (fu := fu) F _ _ _  hf hkc hks _ _ _ hP hD hS (lv_sub hl [] rfl)
  · have hf := ifnP cx hf
    refine lv_aload_n hx hb d_Ma_checkOne_112 rfl (lv_at hl 0 rfl) ?_
    obtain ⟨b24, b25, b26, b27, b28, b29, b30, b31, b32, b33, c34, c35, c36, c37, c38, c39, c40, c41, c42, c43, c44, hal_, hnd_, v45, c46, hc, hf⟩ := hf
    refine m_li (va_runV (C := "CoinKeeper$Machine") (As := []) (rest := []) ⟨hx, hb, hml, hown, hts⟩ (c_Ma_verifyTop l D cy ad fu x0 b24 b25 b26 b27 b28 b29 b30 b31 b32 b33 c34 c35 c36 c37 c38 c39 c40 c41 c42 c43 c44 _ hc H.size) ⟨q_cB hts gw_1171 gw_6 gw_1168 hds_81 ⟨Nat.le_of_ble_eq_true rfl, Nat.le_of_ble_eq_true rfl⟩, hts _ gw_1170, hts _ gs_42⟩ (q_preV (q_pre (m_subP hP hal_) (m_subD hD hal_ hnd_) hK hSt hS (m_lF hD hS hA hal_) _) (va_recv hK (m_subP hP hal_) (ci := 6) (q0 := 0) rfl rfl)) rfl rfl hl.1 rfl (lv_room (Nat.le_of_ble_eq_true rfl)) d_Ma_checkOne_113 ⟨hkc, hks⟩) hP hD hS hA hal_ rfl (fun H locs hP hD hS => ?_)
    refine W.widen (k := κ) (n := σ) (Nat.le_refl _) (Nat.le_refl _) ?_
    obtain ⟨M47, eM_, hf⟩ := bnP hf
    have hP : va_P D classes (mw M47) H := by rw [eM_]; exact hP
    have hD : va_D A (mw M47) := by rw [eM_]; exact hD
    clear eM_ hal_ hnd_ hc
    refine lv_if_eq (tgt := 123) hx hb d_Ma_checkOne_116 (by decide) (fun cx => ?_) (fun cx => ?_)
    · have hf := ifpP cx hf
      refine lv_iconst (v := 0) hx hb d_Ma_checkOne_123 (by decide) ?_
      refine W.widen (k := MC) (n := MS) hkc hks ?_
      exact m_rz hf hx hb hr hlocks hK hP hD hS (isb_n (v := 0) (by decide)) d_Ma_checkOne_124
    · have hf := ifnP cx hf
      exact wv_mMa_checkOne_119 (fu := fu) F _ _ _  hf hkc hks _ _ _ hP hD hS (lv_sub hl [] rfl)
set_option maxHeartbeats 8000000 in
set_option maxRecDepth 100000 in
theorem wv_mMa_checkOne_87 {p : Program} {l : Launch} {e : Env} {s : State} {m : MethodId} {args : Array Value} {below : List Frame} {meth : Method} {c : Code} {D : va_G} {cy : Nat → ClassId} {A : Nat → Prop} {ad : Nat → Nat} {mi MC MS : Nat} {Φ : Int32 → Mm → Prop} {fu : Nat} (F : FxM p s m args meth c b_Ma_checkOne 5 "CoinKeeper$Machine" "checkOne" (some .boolean) D cy ad mi A) : Iw_mMa_checkOne_87 p l e s m args below meth c D cy A ad mi MC MS Φ (xv_mMa_checkOne_87 fu MC MS cy ad mi Φ) := by
  obtain ⟨⟨hx, hb, hr, hml, hown, hts, hlocks, hK, hA, hSt, hnm, hex⟩, hT, hMi⟩ := id F
  intro κ σ M x0 x1 y0 hf hkc hks H locs ls hP hD hS hl
  unfold xv_mMa_checkOne_87 at hf
  refine lv_istore (lv' := [(4, .int y0), (0, .ref x0), (1, .int x1)]) hx hb d_Ma_checkOne_87 hl (by decide) rfl (fun ls hl => ?_)
  refine lv_aload_n hx hb d_Ma_checkOne_89 rfl (lv_at hl 1 rfl) ?_
  refine lv_iload hx hb d_Ma_checkOne_90 (lv_at hl 0 rfl) ?_
  refine lv_if_eq (tgt := 101) hx hb d_Ma_checkOne_92 (by decide) (fun cx => ?_) (fun cx => ?_)
  · have hf := ifpP cx hf
    refine lv_iconst (v := 0) hx hb d_Ma_checkOne_101 (by decide) ?_
    exact wv_mMa_checkOne_102 (fu := fu) F _ _ _ _ _ _ _ hf hkc hks _ _ _ hP hD hS (lv_sub hl [1, 2] rfl)
  · have hf := ifnP cx hf
    refine lv_sipush (v := 8449) hx hb d_Ma_checkOne_95 (by decide) ?_
    refine lv_goto (tgt := 102) hx hb d_Ma_checkOne_98 (by decide) ?_
    exact wv_mMa_checkOne_102 (fu := fu) F _ _ _ _ _ _ _ hf hkc hks _ _ _ hP hD hS (lv_sub hl [1, 2] rfl)
set_option maxHeartbeats 8000000 in
set_option maxRecDepth 100000 in
theorem wv_mMa_checkOne_86 {p : Program} {l : Launch} {e : Env} {s : State} {m : MethodId} {args : Array Value} {below : List Frame} {meth : Method} {c : Code} {D : va_G} {cy : Nat → ClassId} {A : Nat → Prop} {ad : Nat → Nat} {mi MC MS : Nat} {Φ : Int32 → Mm → Prop} {fu : Nat} (F : FxM p s m args meth c b_Ma_checkOne 5 "CoinKeeper$Machine" "checkOne" (some .boolean) D cy ad mi A) : Iw_mMa_checkOne_86 p l e s m args below meth c D cy A ad mi MC MS Φ (xv_mMa_checkOne_86 fu MC MS cy ad mi Φ) := by
  obtain ⟨⟨hx, hb, hr, hml, hown, hts, hlocks, hK, hA, hSt, hnm, hex⟩, hT, hMi⟩ := id F
  intro κ σ M x0 x1 hf hkc hks H locs ls hP hD hS hl
  unfold xv_mMa_checkOne_86 at hf
  refine lv_iconst (v := 0) hx hb d_Ma_checkOne_86 (by decide) ?_
  exact wv_mMa_checkOne_87 (fu := fu) F _ _ _ _ _ _ hf hkc hks _ _ _ hP hD hS (lv_sub hl [0, 1] rfl)
theorem hds_82 : ({ cls := "CoinKeeper$Machine", name := "hasMessage", desc := "()Z" } : Jvm.MethodName).cls ≠ "java/lang/invoke/MethodHandle" ∧ ({ cls := "CoinKeeper$Machine", name := "hasMessage", desc := "()Z" } : Jvm.MethodName).cls ≠ "java/lang/invoke/VarHandle" ∧ (parseMethodDescriptor ({ cls := "CoinKeeper$Machine", name := "hasMessage", desc := "()Z" } : Jvm.MethodName).desc).map (fun d => d.parameters.length) = some 0 := by decide +kernel
theorem hds_83 : ({ cls := "CoinKeeper$Machine", name := "placeOf", desc := "(I)I" } : Jvm.MethodName).cls ≠ "java/lang/invoke/MethodHandle" ∧ ({ cls := "CoinKeeper$Machine", name := "placeOf", desc := "(I)I" } : Jvm.MethodName).cls ≠ "java/lang/invoke/VarHandle" ∧ (parseMethodDescriptor ({ cls := "CoinKeeper$Machine", name := "placeOf", desc := "(I)I" } : Jvm.MethodName).desc).map (fun d => d.parameters.length) = some 1 := by decide +kernel
theorem hds_84 : ({ cls := "CoinKeeper$Machine", name := "lengthOf", desc := "(I)I" } : Jvm.MethodName).cls ≠ "java/lang/invoke/MethodHandle" ∧ ({ cls := "CoinKeeper$Machine", name := "lengthOf", desc := "(I)I" } : Jvm.MethodName).cls ≠ "java/lang/invoke/VarHandle" ∧ (parseMethodDescriptor ({ cls := "CoinKeeper$Machine", name := "lengthOf", desc := "(I)I" } : Jvm.MethodName).desc).map (fun d => d.parameters.length) = some 1 := by decide +kernel
theorem hds_85 : ({ cls := "CoinKeeper$Signatures", name := "verify", desc := "([BIIIII)Z" } : Jvm.MethodName).cls ≠ "java/lang/invoke/MethodHandle" ∧ ({ cls := "CoinKeeper$Signatures", name := "verify", desc := "([BIIIII)Z" } : Jvm.MethodName).cls ≠ "java/lang/invoke/VarHandle" ∧ (parseMethodDescriptor ({ cls := "CoinKeeper$Signatures", name := "verify", desc := "([BIIIII)Z" } : Jvm.MethodName).desc).map (fun d => d.parameters.length) = some 6 := by decide +kernel
set_option maxHeartbeats 8000000 in
set_option maxRecDepth 100000 in
theorem wew_mMa_checkOne {p : Program} {l : Launch} {e : Env} {s : State} {m : MethodId} {args : Array Value} {below : List Frame} {meth : Method} {c : Code} {D : va_G} {cy : Nat → ClassId} {A : Nat → Prop} {ad : Nat → Nat} {mi MC MS : Nat} {Φ : Int32 → Mm → Prop} {fu : Nat} (F : FxM p s m args meth c b_Ma_checkOne 5 "CoinKeeper$Machine" "checkOne" (some .boolean) D cy ad mi A) : Iw_mMa_checkOne_e p l e s m args below meth c D cy A ad mi MC MS Φ (xw_mMa_checkOne fu MC MS cy ad mi Φ) := by
  obtain ⟨⟨hx, hb, hr, hml, hown, hts, hlocks, hK, hA, hSt, hnm, hex⟩, hT, hMi⟩ := id F
  intro κ σ M a0 a1 hf hkc hks H locs ls hP hD hS hl
  unfold xw_mMa_checkOne at hf
  refine lv_aload_n hx hb d_Ma_checkOne_0 rfl (lv_at hl 0 rfl) ?_
  obtain ⟨fs_, hm_, v1, hv_, hf⟩ := hf
  obtain ⟨ix_, hi_⟩ := m_ix hm_
  refine va_get (D := D) (ci := 6) (v := .int v1) (C := "CoinKeeper$Machine") (T := F_6) (N := 19) hx hb hts i_6 hown hK hP ix_ hi_ rfl 8 (by decide) (hts _ gw_212) (fun _ h9 => h9) hv_ d_Ma_checkOne_1 ?_
  clear hv_ hi_ hm_
  refine lv_iconst (v := 2) hx hb d_Ma_checkOne_4 (by decide) ?_
  refine lv_icmp_ge (tgt := 10) hx hb d_Ma_checkOne_5 (by decide) (fun cx => ?_) (fun cx => ?_)
  · have hf := ifpP cx hf
    refine lv_aload_n hx hb d_Ma_checkOne_10 rfl (lv_at hl 0 rfl) ?_
    obtain ⟨fs_, hm_, r2, hv_, hf⟩ := hf
    obtain ⟨ix_, hi_⟩ := m_ix hm_
    refine va_get (D := D) (ci := 6) (v := va_rf r2) (C := "CoinKeeper$Machine") (T := F_6) (N := 19) hx hb hts i_6 hown hK hP ix_ hi_ rfl 5 (by decide) (hts _ gw_209) (fun _ h9 => h9) hv_ d_Ma_checkOne_11 ?_
    clear hv_ hi_ hm_
    obtain ⟨q3, rfl, hf⟩ := hf
    refine W.eq (g2 := F0 m 14 ls [.ref q3]) rfl ?_
    refine lv_aload_n hx hb d_Ma_checkOne_14 rfl (lv_at hl 0 rfl) ?_
    obtain ⟨fs_, hm_, v4, hv_, hf⟩ := hf
    obtain ⟨ix_, hi_⟩ := m_ix hm_
    refine va_get (D := D) (ci := 6) (v := .int v4) (C := "CoinKeeper$Machine") (T := F_6) (N := 19) hx hb hts i_6 hown hK hP ix_ hi_ rfl 8 (by decide) (hts _ gw_212) (fun _ h9 => h9) hv_ d_Ma_checkOne_15 ?_
    clear hv_ hi_ hm_
    refine lv_iconst (v := 2) hx hb d_Ma_checkOne_18 (by decide) ?_
    refine lv_isub hx hb d_Ma_checkOne_19 ?_
    refine lv_topi (fun v5 ev => ?_)
    have hf := bnQ ev hf
    clear ev
    obtain ⟨n_, f_, hm_, hin_, hf⟩ := hf
    obtain ⟨ix_, hi_⟩ := m_ix hm_
    refine va_iald hx hb hK hP ix_ 1 hi_ rfl (inb_in hin_) d_Ma_checkOne_20 ?_
    obtain ⟨v6, ev⟩ : ∃ z, z = f_ v5.toNatClampNeg := ⟨_, rfl⟩
    first | rw [← ev] at hf ⊢ | rw [← ev]
    clear ev hi_ hm_ hin_
    refine lv_istore_n (lv' := [(2, .int v6), (0, .ref a0), (1, .int a1)]) hx hb d_Ma_checkOne_21 rfl hl (by decide) rfl (fun ls hl => ?_)
    refine lv_aload_n hx hb d_Ma_checkOne_22 rfl (lv_at hl 1 rfl) ?_
    obtain ⟨fs_, hm_, r7, hv_, hf⟩ := hf
    obtain ⟨ix_, hi_⟩ := m_ix hm_
    refine va_get (D := D) (ci := 6) (v := va_rf r7) (C := "CoinKeeper$Machine") (T := F_6) (N := 19) hx hb hts i_6 hown hK hP ix_ hi_ rfl 5 (by decide) (hts _ gw_209) (fun _ h9 => h9) hv_ d_Ma_checkOne_23 ?_
    clear hv_ hi_ hm_
    obtain ⟨q8, rfl, hf⟩ := hf
    refine W.eq (g2 := F0 m 26 ls [.ref q8]) rfl ?_
    refine lv_aload_n hx hb d_Ma_checkOne_26 rfl (lv_at hl 1 rfl) ?_
    obtain ⟨fs_, hm_, v9, hv_, hf⟩ := hf
    obtain ⟨ix_, hi_⟩ := m_ix hm_
    refine va_get (D := D) (ci := 6) (v := .int v9) (C := "CoinKeeper$Machine") (T := F_6) (N := 19) hx hb hts i_6 hown hK hP ix_ hi_ rfl 8 (by decide) (hts _ gw_212) (fun _ h9 => h9) hv_ d_Ma_checkOne_27 ?_
    clear hv_ hi_ hm_
    refine lv_iconst (v := 1) hx hb d_Ma_checkOne_30 (by decide) ?_
    refine lv_isub hx hb d_Ma_checkOne_31 ?_
    refine lv_topi (fun v10 ev => ?_)
    have hf := bnQ ev hf
    clear ev
    obtain ⟨n_, f_, hm_, hin_, hf⟩ := hf
    obtain ⟨ix_, hi_⟩ := m_ix hm_
    refine va_iald hx hb hK hP ix_ 1 hi_ rfl (inb_in hin_) d_Ma_checkOne_32 ?_
    obtain ⟨v11, ev⟩ : ∃ z, z = f_ v10.toNatClampNeg := ⟨_, rfl⟩
    first | rw [← ev] at hf ⊢ | rw [← ev]
    clear ev hi_ hm_ hin_
    refine lv_istore_n (lv' := [(3, .int v11), (2, .int v6), (0, .ref a0), (1, .int a1)]) hx hb d_Ma_checkOne_33 rfl hl (by decide) rfl (fun ls hl => ?_)
    refine lv_aload_n hx hb d_Ma_checkOne_34 rfl (lv_at hl 2 rfl) ?_
    refine lv_dup hx hb d_Ma_checkOne_35 rfl ?_
    obtain ⟨fs_, hm_, v12, hv_, hf⟩ := hf
    obtain ⟨ix_, hi_⟩ := m_ix hm_
    refine va_get (D := D) (ci := 6) (v := .int v12) (C := "CoinKeeper$Machine") (T := F_6) (N := 19) hx hb hts i_6 hown hK hP ix_ hi_ rfl 8 (by decide) (hts _ gw_212) (fun _ h9 => h9) hv_ d_Ma_checkOne_36 ?_
    clear hv_ hi_ hm_
    refine lv_iconst (v := 2) hx hb d_Ma_checkOne_39 (by decide) ?_
    refine lv_isub hx hb d_Ma_checkOne_40 ?_
    refine lv_topi (fun v13 ev => ?_)
    have hf := bnQ ev hf
    clear ev
    obtain ⟨fs_, hm_, hlen_, hf⟩ := hf
    obtain ⟨ix_, hi_⟩ := m_ix hm_
    have hE_ := m_set (y := .inr (6, fs_.set 8 (.int v13))) hD hi_
    refine va_put (D := D) (ci := 6) (v := .int v13) (ty := .int) (C := "CoinKeeper$Machine") (T := F_6) (N := 19) hx hb hts i_6 t_6 t_6_ok n_6 hown hK hP hD hS ix_ hi_ rfl 8 (by decide) (hts _ gw_212) (fun _ h9 => h9) rfl (by decide +kernel) rfl rfl hlen_ d_Ma_checkOne_41 (fun H locs hP hD hS => ?_)
    obtain ⟨M14, eM_⟩ : ∃ z, z = mu M a0 (.inr (6, fs_.set 8 (.int v13))) := ⟨_, rfl⟩
    rw [← eM_] at hf hE_
    rw [hE_] at hP hD
    clear hE_ eM_ hi_ hm_
    refine lv_aload_n hx hb d_Ma_checkOne_44 rfl (lv_at hl 2 rfl) ?_
    obtain ⟨fs_, hm_, hf⟩ := hf
    obtain ⟨ix_, hi_⟩ := m_ix hm_
    obtain ⟨mc15, ms16, ⟨hc_, hd_⟩, hf⟩ := hf
    refine mm_ai (va_runV (C := "CoinKeeper$Machine") (As := []) (rest := []) ⟨hx, hb, hml, hown, hts⟩ (cw_mMa_hasMessage l D cy ad mi fu mc15 ms16 a0 M14 _ hf H.size) ⟨q_cB hts gw_1024 gw_6 gw_1021 hds_82 ⟨Nat.le_of_ble_eq_true rfl, Nat.le_of_ble_eq_true rfl⟩, hts _ gw_1023, hts _ gs_35⟩ (q_preVM (q_preM hP hD hK hSt hT hMi hS (m_free hD hS hA) _) (va_recv hK hP (ci := 6) (q0 := ix_) rfl hi_)) rfl rfl hl.1 rfl (lv_room (Nat.le_of_ble_eq_true rfl)) d_Ma_checkOne_45 ⟨hc_, hd_⟩) hD hS hA (fun v18 M17 H locs hf hP hD hS => ?_)
    have hkc : κ + mc15 ≤ MC := hc_
    have hks : σ + ms16 ≤ MS := hd_
    clear hc_ hd_
    refine lv_if_eq (tgt := 86) hx hb d_Ma_checkOne_48 (by decide) (fun cx => ?_) (fun cx => ?_)
    · have hf := ifpP cx hf
      exact wv_mMa_checkOne_86 (fu := fu) F _ _ _ _ _ hf hkc hks _ _ _ hP hD hS (lv_sub hl [2, 3] rfl)
    · have hf := ifnP cx hf
      refine lv_aload_n hx hb d_Ma_checkOne_51 rfl (lv_at hl 2 rfl) ?_
      obtain ⟨fs_, hm_, r19, hv_, hf⟩ := hf
      obtain ⟨ix_, hi_⟩ := m_ix hm_
      refine va_get (D := D) (ci := 6) (v := va_rf r19) (C := "CoinKeeper$Machine") (T := F_6) (N := 19) hx hb hts i_6 hown hK hP ix_ hi_ rfl 1 (by decide) (hts _ gw_205) (fun _ h9 => h9) hv_ d_Ma_checkOne_52 ?_
      clear hv_ hi_ hm_
      obtain ⟨q20, rfl, hf⟩ := hf
      refine W.eq (g2 := F0 m 55 ls [.ref q20]) rfl ?_
      refine lv_aload_n hx hb d_Ma_checkOne_55 rfl (lv_at hl 2 rfl) ?_
      obtain ⟨fs_, hm_, r21, hv_, hf⟩ := hf
      obtain ⟨ix_, hi_⟩ := m_ix hm_
      refine va_get (D := D) (ci := 6) (v := va_rf r21) (C := "CoinKeeper$Machine") (T := F_6) (N := 19) hx hb hts i_6 hown hK hP ix_ hi_ rfl 3 (by decide) (hts _ gw_207) (fun _ h9 => h9) hv_ d_Ma_checkOne_56 ?_
      clear hv_ hi_ hm_
      obtain ⟨q22, rfl, hf⟩ := hf
      refine W.eq (g2 := F0 m 59 ls [.ref q22, .ref q20]) rfl ?_
      refine lv_iconst (v := 0) hx hb d_Ma_checkOne_59 (by decide) ?_
      refine lv_iload_n hx hb d_Ma_checkOne_60 rfl (lv_at hl 0 rfl) ?_
      obtain ⟨hal_, hnd_, v23, hc, hf⟩ := hf
      refine m_li (va_runS (As := [.int v11]) (rest := [.int (0 : Int32), .ref q22, .ref q20]) ⟨hx, hb, hml, hown, hts⟩ (c_Ma_placeOf l D cy ad fu v11 _ hc H.size) ⟨q_cB hts gw_999 gw_6 gw_997 hds_83 ⟨Nat.le_of_ble_eq_true rfl, Nat.le_of_ble_eq_true rfl⟩, hts _ gw_998⟩ (q_pre (m_subP hP hal_) (m_subD hD hal_ hnd_) hK hSt hS (m_lF hD hS hA hal_) _) rfl rfl hl.1 rfl (lv_room (Nat.le_of_ble_eq_true rfl)) d_Ma_checkOne_61 ⟨hkc, hks⟩) hP hD hS hA hal_ rfl (fun H locs hP hD hS => ?_)
      refine W.widen (k := κ + mc15) (n := σ + ms16) (Nat.le_refl _) (Nat.le_refl _) ?_
      obtain ⟨M24, eM_, hf⟩ := bnP hf
      have hP : va_P D classes (mw M24) H := by rw [eM_]; exact hP
      have hD : va_D A (mw M24) := by rw [eM_]; exact hD
      clear eM_ hal_ hnd_ hc
      refine lv_iload_n hx hb d_Ma_checkOne_64 rfl (lv_at hl 0 rfl) ?_
      obtain ⟨hal_, hnd_, v25, hc, hf⟩ := hf
      refine m_li (va_runS (As := [.int v11]) (rest := [.int v23, .int (0 : Int32), .ref q22, .ref q20]) ⟨hx, hb, hml, hown, hts⟩ (c_Ma_lengthOf l D cy ad fu v11 _ hc H.size) ⟨q_cB hts gw_1002 gw_6 gw_1000 hds_84 ⟨Nat.le_of_ble_eq_true rfl, Nat.le_of_ble_eq_true rfl⟩, hts _ gw_1001⟩ (q_pre (m_subP hP hal_) (m_subD hD hal_ hnd_) hK hSt hS (m_lF hD hS hA hal_) _) rfl rfl hl.1 rfl (lv_room (Nat.le_of_ble_eq_true rfl)) d_Ma_checkOne_65 ⟨hkc, hks⟩) hP hD hS hA hal_ rfl (fun H locs hP hD hS => ?_)
      refine W.widen (k := κ + mc15) (n := σ + ms16) (Nat.le_refl _) (Nat.le_refl _) ?_
      obtain ⟨M26, eM_, hf⟩ := bnP hf
      have hP : va_P D classes (mw M26) H := by rw [eM_]; exact hP
      have hD : va_D A (mw M26) := by rw [eM_]; exact hD
      clear eM_ hal_ hnd_ hc
      refine lv_iload_n hx hb d_Ma_checkOne_68 rfl (lv_at hl 1 rfl) ?_
      obtain ⟨hal_, hnd_, v27, hc, hf⟩ := hf
      refine m_li (va_runS (As := [.int v6]) (rest := [.int v25, .int v23, .int (0 : Int32), .ref q22, .ref q20]) ⟨hx, hb, hml, hown, hts⟩ (c_Ma_placeOf l D cy ad fu v6 _ hc H.size) ⟨q_cB hts gw_999 gw_6 gw_997 hds_83 ⟨Nat.le_of_ble_eq_true rfl, Nat.le_of_ble_eq_true rfl⟩, hts _ gw_998⟩ (q_pre (m_subP hP hal_) (m_subD hD hal_ hnd_) hK hSt hS (m_lF hD hS hA hal_) _) rfl rfl hl.1 rfl (lv_room (Nat.le_of_ble_eq_true rfl)) d_Ma_checkOne_69 ⟨hkc, hks⟩) hP hD hS hA hal_ rfl (fun H locs hP hD hS => ?_)
      refine W.widen (k := κ + mc15) (n := σ + ms16) (Nat.le_refl _) (Nat.le_refl _) ?_
      obtain ⟨M28, eM_, hf⟩ := bnP hf
      have hP : va_P D classes (mw M28) H := by rw [eM_]; exact hP
      have hD : va_D A (mw M28) := by rw [eM_]; exact hD
      clear eM_ hal_ hnd_ hc
      refine lv_iload_n hx hb d_Ma_checkOne_72 rfl (lv_at hl 1 rfl) ?_
      obtain ⟨hal_, hnd_, v29, hc, hf⟩ := hf
      refine m_li (va_runS (As := [.int v6]) (rest := [.int v27, .int v25, .int v23, .int (0 : Int32), .ref q22, .ref q20]) ⟨hx, hb, hml, hown, hts⟩ (c_Ma_lengthOf l D cy ad fu v6 _ hc H.size) ⟨q_cB hts gw_1002 gw_6 gw_1000 hds_84 ⟨Nat.le_of_ble_eq_true rfl, Nat.le_of_ble_eq_true rfl⟩, hts _ gw_1001⟩ (q_pre (m_subP hP hal_) (m_subD hD hal_ hnd_) hK hSt hS (m_lF hD hS hA hal_) _) rfl rfl hl.1 rfl (lv_room (Nat.le_of_ble_eq_true rfl)) d_Ma_checkOne_73 ⟨hkc, hks⟩) hP hD hS hA hal_ rfl (fun H locs hP hD hS => ?_)
      refine W.widen (k := κ + mc15) (n := σ + ms16) (Nat.le_refl _) (Nat.le_refl _) ?_
      obtain ⟨M30, eM_, hf⟩ := bnP hf
      have hP : va_P D classes (mw M30) H := by rw [eM_]; exact hP
      have hD : va_D A (mw M30) := by rw [eM_]; exact hD
      clear eM_ hal_ hnd_ hc
      obtain ⟨fs_, hm_, hf⟩ := hf
      obtain ⟨ix_, hi_⟩ := m_ix hm_
      obtain ⟨mc31, ms32, ⟨hc_, hd_⟩, hf⟩ := hf
      refine mm_ai (va_runV (C := "CoinKeeper$Signatures") (As := [.ref q22, .int (0 : Int32), .int v23, .int v25, .int v27, .int v29]) (rest := []) ⟨hx, hb, hml, hown, hts⟩ (cw_mSi_verify l D cy ad mi fu mc31 ms32 q20 q22 (0 : Int32) v23 v25 v27 v29 M30 _ hf H.size) ⟨q_cB hts gw_1037 gw_3 gw_1034 hds_85 ⟨Nat.le_of_ble_eq_true rfl, Nat.le_of_ble_eq_true rfl⟩, hts _ gw_1035, hts _ gw_1036⟩ (q_preVM (q_preM hP hD hK hSt hT hMi hS (m_free hD hS hA) _) (va_recv hK hP (ci := 10) (q0 := ix_) rfl hi_)) rfl rfl hl.1 rfl (lv_room (Nat.le_of_ble_eq_true rfl)) d_Ma_checkOne_76 ⟨hc_, hd_⟩) hD hS hA (fun v34 M33 H locs hf hP hD hS => ?_)
      have hkc : κ + mc15 + mc31 ≤ MC := hc_
      have hks : σ + ms16 + ms32 ≤ MS := hd_
      clear hc_ hd_
      refine lv_if_eq (tgt := 86) hx hb d_Ma_checkOne_79 (by decide) (fun cx => ?_) (fun cx => ?_)
      · have hf := ifpP cx hf
        exact wv_mMa_checkOne_86 (fu := fu) F _ _ _ _ _ hf hkc hks _ _ _ hP hD hS (lv_sub hl [2, 3] rfl)
      · have hf := ifnP cx hf
        refine lv_iconst (v := 1) hx hb d_Ma_checkOne_82 (by decide) ?_
        refine lv_goto (tgt := 87) hx hb d_Ma_checkOne_83 (by decide) ?_
        exact wv_mMa_checkOne_87 (fu := fu) F _ _ _ _ _ _ hf hkc hks _ _ _ hP hD hS (lv_sub hl [2, 3] rfl)
  · have hf := ifnP cx hf
    refine lv_iconst (v := 0) hx hb d_Ma_checkOne_8 (by decide) ?_
    refine W.widen (k := MC) (n := MS) hkc hks ?_
    exact m_rz hf hx hb hr hlocks hK hP hD hS (isb_n (v := 0) (by decide)) d_Ma_checkOne_9
theorem cw_mMa_checkOne (l : Launch) (D : va_G) (cy : Nat → ClassId) (ad : Nat → Nat) (mi fu MC MS : Nat) (a0 : Nat) (a1 : Int32) (M : Mm) (Φ : Int32 → Mm → Prop) (hf : xw_mMa_checkOne fu MC MS cy ad mi Φ 0 0 M a0 a1) (sz : Nat) : Met l ({ cls := "CoinKeeper$Machine", name := "checkOne", desc := "(I)Z" } : Jvm.MethodName) (.code ({ cls := "CoinKeeper$Machine", name := "checkOne", desc := "(I)Z" } : Jvm.MethodName) b_Ma_checkOne 5 (some .boolean) :: gw) (rmw_mMa_checkOne MC MS) (va_Pc [.ref a0, .int a1] (PrM D cy ad mi (mw M) sz)) (va_Qi Φ (fun u t => Po D cy (va_A (mw M) sz) (mw u) t) (va_A (mw M) sz)) MC MS (va_A (mw M) sz) :=
  q_metM (Qc := fun A => va_Qi Φ (fun u t => Po D cy A (mw u) t) A) (by decide) rfl rfl (Nat.le_of_ble_eq_true rfl) (fun p e s m below meth c ls F hP hD hS hl => wew_mMa_checkOne (fu := fu) F 0 0 M a0 a1 hf (Nat.zero_le _) (Nat.zero_le _) _ _ _ hP hD hS hl) sz
abbrev rmw_mMa_checkMany (MC MS : Nat) : Room := { frames := 5, cells := MC, slots := MS, locals := 163 }
def Iw_mMa_checkMany_226 (p : Program) (l : Launch) (e : Env) (s : State) (m : MethodId) (args : Array Value) (below : List Frame) (meth : Method) (c : Code) (D : va_G) (cy : Nat → ClassId) (A : Nat → Prop) (ad : Nat → Nat) (mi MC MS : Nat) (Φ : Int32 → Mm → Prop) (k : Nat → Nat → Mm → Prop) : Prop :=
  ∀ (κ σ : Nat) (M : Mm), k κ σ M → κ ≤ MC → σ ≤ MS → ∀ (H : Heap) (locs : List Loc) (ls : Array Slot), va_P D classes (mw M) H → va_D A (mw M) → va_S A s.heap H locs → lv_has ls 6 [] → W p l e (rmw_mMa_checkMany MC MS) s m args below meth c H locs κ σ (MQ below (va_Qi Φ (fun u t => Po D cy A (mw u) t) A) args s MC MS A) (F0 m 226 ls [])
def Iw_mMa_checkMany_209 (p : Program) (l : Launch) (e : Env) (s : State) (m : MethodId) (args : Array Value) (below : List Frame) (meth : Method) (c : Code) (D : va_G) (cy : Nat → ClassId) (A : Nat → Prop) (ad : Nat → Nat) (mi MC MS : Nat) (Φ : Int32 → Mm → Prop) (k : Nat → Nat → Mm → Nat → Int32 → Int32 → Nat → Prop) : Prop :=
  ∀ (κ σ : Nat) (M : Mm) (x0 : Nat) (x1 : Int32) (y0 : Int32) (y1 : Nat), k κ σ M x0 x1 y0 y1 → κ ≤ MC → σ ≤ MS → ∀ (H : Heap) (locs : List Loc) (ls : Array Slot), va_P D classes (mw M) H → va_D A (mw M) → va_S A s.heap H locs → lv_has ls 6 [(0, .ref x0), (1, .int x1)] → W p l e (rmw_mMa_checkMany MC MS) s m args below meth c H locs κ σ (MQ below (va_Qi Φ (fun u t => Po D cy A (mw u) t) A) args s MC MS A) (F0 m 209 ls [.int y0, .ref y1])
def Iw_mMa_checkMany_196 (p : Program) (l : Launch) (e : Env) (s : State) (m : MethodId) (args : Array Value) (below : List Frame) (meth : Method) (c : Code) (D : va_G) (cy : Nat → ClassId) (A : Nat → Prop) (ad : Nat → Nat) (mi MC MS : Nat) (Φ : Int32 → Mm → Prop) (k : Nat → Nat → Mm → Nat → Int32 → Int32 → Prop) : Prop :=
  ∀ (κ σ : Nat) (M : Mm) (x0 : Nat) (x1 : Int32) (x4 : Int32), k κ σ M x0 x1 x4 → κ ≤ MC → σ ≤ MS → ∀ (H : Heap) (locs : List Loc) (ls : Array Slot), va_P D classes (mw M) H → va_D A (mw M) → va_S A s.heap H locs → lv_has ls 6 [(0, .ref x0), (1, .int x1), (4, .int x4)] → W p l e (rmw_mMa_checkMany MC MS) s m args below meth c H locs κ σ (MQ below (va_Qi Φ (fun u t => Po D cy A (mw u) t) A) args s MC MS A) (F0 m 196 ls [])
def Iw_mMa_checkMany_187 (p : Program) (l : Launch) (e : Env) (s : State) (m : MethodId) (args : Array Value) (below : List Frame) (meth : Method) (c : Code) (D : va_G) (cy : Nat → ClassId) (A : Nat → Prop) (ad : Nat → Nat) (mi MC MS : Nat) (Φ : Int32 → Mm → Prop) (k : Nat → Nat → Mm → Nat → Int32 → Int32 → Int32 → Int32 → Int32 → Prop) : Prop :=
  ∀ (κ σ : Nat) (M : Mm) (x0 : Nat) (x1 : Int32) (x2 : Int32) (x3 : Int32) (x4 : Int32) (x5 : Int32), k κ σ M x0 x1 x2 x3 x4 x5 → κ ≤ MC → σ ≤ MS → ∀ (H : Heap) (locs : List Loc) (ls : Array Slot), va_P D classes (mw M) H → va_D A (mw M) → va_S A s.heap H locs → lv_has ls 6 [(0, .ref x0), (1, .int x1), (2, .int x2), (3, .int x3), (4, .int x4), (5, .int x5)] → W p l e (rmw_mMa_checkMany MC MS) s m args below meth c H locs κ σ (MQ below (va_Qi Φ (fun u t => Po D cy A (mw u) t) A) args s MC MS A) (F0 m 187 ls [])
def Iw_mMa_checkMany_110 (p : Program) (l : Launch) (e : Env) (s : State) (m : MethodId) (args : Array Value) (below : List Frame) (meth : Method) (c : Code) (D : va_G) (cy : Nat → ClassId) (A : Nat → Prop) (ad : Nat → Nat) (mi MC MS : Nat) (Φ : Int32 → Mm → Prop) (k : Nat → Nat → Mm → Nat → Int32 → Int32 → Int32 → Int32 → Int32 → Prop) : Prop :=
  ∀ (κ σ : Nat) (M : Mm) (x0 : Nat) (x1 : Int32) (x2 : Int32) (x3 : Int32) (x4 : Int32) (x5 : Int32), k κ σ M x0 x1 x2 x3 x4 x5 → κ ≤ MC → σ ≤ MS → ∀ (H : Heap) (locs : List Loc) (ls : Array Slot), va_P D classes (mw M) H → va_D A (mw M) → va_S A s.heap H locs → lv_has ls 6 [(0, .ref x0), (1, .int x1), (2, .int x2), (3, .int x3), (4, .int x4), (5, .int x5)] → W p l e (rmw_mMa_checkMany MC MS) s m args below meth c H locs κ σ (MQ below (va_Qi Φ (fun u t => Po D cy A (mw u) t) A) args s MC MS A) (F0 m 110 ls [])
def Iw_mMa_checkMany_e (p : Program) (l : Launch) (e : Env) (s : State) (m : MethodId) (args : Array Value) (below : List Frame) (meth : Method) (c : Code) (D : va_G) (cy : Nat → ClassId) (A : Nat → Prop) (ad : Nat → Nat) (mi MC MS : Nat) (Φ : Int32 → Mm → Prop) (k : Nat → Nat → Mm → Nat → Int32 → Prop) : Prop :=
  ∀ (κ σ : Nat) (M : Mm) (a0 : Nat) (a1 : Int32), k κ σ M a0 a1 → κ ≤ MC → σ ≤ MS → ∀ (H : Heap) (locs : List Loc) (ls : Array Slot), va_P D classes (mw M) H → va_D A (mw M) → va_S A s.heap H locs → lv_has ls 6 [(0, .ref a0), (1, .int a1)] → W p l e (rmw_mMa_checkMany MC MS) s m args below meth c H locs κ σ (MQ below (va_Qi Φ (fun u t => Po D cy A (mw u) t) A) args s MC MS A) (F0 m 0 ls [])
set_option maxHeartbeats 8000000 in
set_option maxRecDepth 100000 in
theorem wv_mMa_checkMany_226 {p : Program} {l : Launch} {e : Env} {s : State} {m : MethodId} {args : Array Value} {below : List Frame} {meth : Method} {c : Code} {D : va_G} {cy : Nat → ClassId} {A : Nat → Prop} {ad : Nat → Nat} {mi MC MS : Nat} {Φ : Int32 → Mm → Prop} {fu : Nat} (F : FxM p s m args meth c b_Ma_checkMany 6 "CoinKeeper$Machine" "checkMany" (some .boolean) D cy ad mi A) : Iw_mMa_checkMany_226 p l e s m args below meth c D cy A ad mi MC MS Φ (xv_mMa_checkMany_226 fu MC MS cy ad mi Φ) := by
  obtain ⟨⟨hx, hb, hr, hml, hown, hts, hlocks, hK, hA, hSt, hnm, hex⟩, hT, hMi⟩ := id F
  intro κ σ M hf hkc hks H locs ls hP hD hS hl
  unfold xv_mMa_checkMany_226 at hf
  refine lv_iconst (v := 1) hx hb d_Ma_checkMany_226 (by decide) ?_
  refine lv_goto (tgt := 231) hx hb d_Ma_checkMany_227 (by decide) ?_
  refine W.widen (k := MC) (n := MS) hkc hks ?_
  exact m_rz hf hx hb hr hlocks hK hP hD hS (isb_n (v := 1) (by decide)) d_Ma_checkMany_231
set_option maxHeartbeats 8000000 in
set_option maxRecDepth 100000 in
theorem wv_mMa_checkMany_209 {p : Program} {l : Launch} {e : Env} {s : State} {m : MethodId} {args : Array Value} {below : List Frame} {meth : Method} {c : Code} {D : va_G} {cy : Nat → ClassId} {A : Nat → Prop} {ad : Nat → Nat} {mi MC MS : Nat} {Φ : Int32 → Mm → Prop} {fu : Nat} (F : FxM p s m args meth c b_Ma_checkMany 6 "CoinKeeper$Machine" "checkMany" (some .boolean) D cy ad mi A) : Iw_mMa_checkMany_209 p l e s m args below meth c D cy A ad mi MC MS Φ (xv_mMa_checkMany_209 fu MC MS cy ad mi Φ) := by
  obtain ⟨⟨hx, hb, hr, hml, hown, hts, hlocks, hK, hA, hSt, hnm, hex⟩, hT, hMi⟩ := id F
  intro κ σ M x0 x1 y0 y1 hf hkc hks H locs ls hP hD hS hl
  unfold xv_mMa_checkMany_209 at hf
  obtain ⟨b1, b2, b3, b4, b5, b6, b7, b8, b9, b10, c11, c12, c13, c14, c15, c16, c17, c18, c19, c20, hal_, hnd_, c21, c22, hc, hf⟩ := hf
  refine m_lv (va_runV (C := "CoinKeeper$Machine") (As := [.int y0]) (rest := []) ⟨hx, hb, hml, hown, hts⟩ (c_Ma_push l D cy ad fu y1 b1 b2 b3 b4 b5 b6 b7 b8 b9 b10 c11 c12 c13 c14 c15 c16 c17 c18 y0 c19 c20 _ hc H.size) ⟨q_cB hts gw_988 gw_6 gw_985 hds_80 ⟨Nat.le_of_ble_eq_true rfl, Nat.le_of_ble_eq_true rfl⟩, hts _ gw_987, hts _ gs_28⟩ (q_preV (q_pre (m_subP hP hal_) (m_subD hD hal_ hnd_) hK hSt hS (m_lF hD hS hA hal_) _) (va_recv hK (m_subP hP hal_) (ci := 6) (q0 := 0) rfl rfl)) rfl rfl hl.1 rfl (lv_room (Nat.le_of_ble_eq_true rfl)) d_Ma_checkMany_209 ⟨hkc, hks⟩) hP hD hS hA hal_ rfl (fun H locs hP hD hS => ?_)
  refine W.widen (k := κ) (n := σ) (Nat.le_refl _) (Nat.le_refl _) ?_
  obtain ⟨M23, eM_, hf⟩ := bnP hf
  have hP : va_P D classes (mw M23) H := by rw [eM_]; exact hP
  have hD : va_D A (mw M23) := by rw [eM_]; exact hD
  clear eM_ hal_ hnd_ hc
  refine lv_iload_n hx hb d_Ma_checkMany_212 rfl (lv_at hl 1 rfl) ?_
  refine lv_sipush (v := 174) hx hb d_Ma_checkMany_213 (by decide) ?_
  refine lv_icmp_eq (tgt := 226) hx hb d_Ma_checkMany_216 (by decide) (fun cx => ?_) (fun cx => ?_)
  · have hf := ifpP cx hf
    exact wv_mMa_checkMany_226 (fu := fu) F _ _ _  hf hkc hks _ _ _ hP hD hS (lv_sub hl [] rfl)
  · have hf := ifnP cx hf
    refine lv_aload_n hx hb d_Ma_checkMany_219 rfl (lv_at hl 0 rfl) ?_
    obtain ⟨b24, b25, b26, b27, b28, b29, b30, b31, b32, b33, c34, c35, c36, c37, c38, c39, c40, c41, c42, c43, c44, hal_, hnd_, v45, c46, hc, hf⟩ := hf
    refine m_li (va_runV (C := "CoinKeeper$Machine") (As := []) (rest := []) ⟨hx, hb, hml, hown, hts⟩ (c_Ma_verifyTop l D cy ad fu x0 b24 b25 b26 b27 b28 b29 b30 b31 b32 b33 c34 c35 c36 c37 c38 c39 c40 c41 c42 c43 c44 _ hc H.size) ⟨q_cB hts gw_1171 gw_6 gw_1168 hds_81 ⟨Nat.le_of_ble_eq_true rfl, Nat.le_of_ble_eq_true rfl⟩, hts _ gw_1170, hts _ gs_42⟩ (q_preV (q_pre (m_subP hP hal_) (m_subD hD hal_ hnd_) hK hSt hS (m_lF hD hS hA hal_) _) (va_recv hK (m_subP hP hal_) (ci := 6) (q0 := 0) rfl rfl)) rfl rfl hl.1 rfl (lv_room (Nat.le_of_ble_eq_true rfl)) d_Ma_checkMany_220 ⟨hkc, hks⟩) hP hD hS hA hal_ rfl (fun H locs hP hD hS => ?_)
    refine W.widen (k := κ) (n := σ) (Nat.le_refl _) (Nat.le_refl _) ?_
    obtain ⟨M47, eM_, hf⟩ := bnP hf
    have hP : va_P D classes (mw M47) H := by rw [eM_]; exact hP
    have hD : va_D A (mw M47) := by rw [eM_]; exact hD
    clear eM_ hal_ hnd_ hc
    refine lv_if_eq (tgt := 230) hx hb d_Ma_checkMany_223 (by decide) (fun cx => ?_) (fun cx => ?_)
    · have hf := ifpP cx hf
      refine lv_iconst (v := 0) hx hb d_Ma_checkMany_230 (by decide) ?_
      refine W.widen (k := MC) (n := MS) hkc hks ?_
      exact m_rz hf hx hb hr hlocks hK hP hD hS (isb_n (v := 0) (by decide)) d_Ma_checkMany_231
    · have hf := ifnP cx hf
      exact wv_mMa_checkMany_226 (fu := fu) F _ _ _  hf hkc hks _ _ _ hP hD hS (lv_sub hl [] rfl)
set_option maxHeartbeats 8000000 in
set_option maxRecDepth 100000 in
theorem wv_mMa_checkMany_196 {p : Program} {l : Launch} {e : Env} {s : State} {m : MethodId} {args : Array Value} {below : List Frame} {meth : Method} {c : Code} {D : va_G} {cy : Nat → ClassId} {A : Nat → Prop} {ad : Nat → Nat} {mi MC MS : Nat} {Φ : Int32 → Mm → Prop} {fu : Nat} (F : FxM p s m args meth c b_Ma_checkMany 6 "CoinKeeper$Machine" "checkMany" (some .boolean) D cy ad mi A) : Iw_mMa_checkMany_196 p l e s m args below meth c D cy A ad mi MC MS Φ (xv_mMa_checkMany_196 fu MC MS cy ad mi Φ) := by
  obtain ⟨⟨hx, hb, hr, hml, hown, hts, hlocks, hK, hA, hSt, hnm, hex⟩, hT, hMi⟩ := id F
  intro κ σ M x0 x1 x4 hf hkc hks H locs ls hP hD hS hl
  unfold xv_mMa_checkMany_196 at hf
  refine lv_aload_n hx hb d_Ma_checkMany_196 rfl (lv_at hl 0 rfl) ?_
  refine lv_iload hx hb d_Ma_checkMany_197 (lv_at hl 2 rfl) ?_
  refine lv_if_ne (tgt := 208) hx hb d_Ma_checkMany_199 (by decide) (fun cx => ?_) (fun cx => ?_)
  · have hf := ifnP cx hf
    refine lv_iconst (v := 0) hx hb d_Ma_checkMany_208 (by decide) ?_
    exact wv_mMa_checkMany_209 (fu := fu) F _ _ _ _ _ _ _ hf hkc hks _ _ _ hP hD hS (lv_sub hl [0, 1] rfl)
  · have hf := ifpP cx hf
    refine lv_sipush (v := 8449) hx hb d_Ma_checkMany_202 (by decide) ?_
    refine lv_goto (tgt := 209) hx hb d_Ma_checkMany_205 (by decide) ?_
    exact wv_mMa_checkMany_209 (fu := fu) F _ _ _ _ _ _ _ hf hkc hks _ _ _ hP hD hS (lv_sub hl [0, 1] rfl)
set_option maxHeartbeats 8000000 in
set_option maxRecDepth 100000 in
theorem wv_mMa_checkMany_187 {p : Program} {l : Launch} {e : Env} {s : State} {m : MethodId} {args : Array Value} {below : List Frame} {meth : Method} {c : Code} {D : va_G} {cy : Nat → ClassId} {A : Nat → Prop} {ad : Nat → Nat} {mi MC MS : Nat} {Φ : Int32 → Mm → Prop} {fu : Nat} {k_110 : Nat → Nat → Mm → Nat → Int32 → Int32 → Int32 → Int32 → Int32 → Prop} (F : FxM p s m args meth c b_Ma_checkMany 6 "CoinKeeper$Machine" "checkMany" (some .boolean) D cy ad mi A) (hk_110 : Iw_mMa_checkMany_110 p l e s m args below meth c D cy A ad mi MC MS Φ k_110) : Iw_mMa_checkMany_187 p l e s m args below meth c D cy A ad mi MC MS Φ (xv_mMa_checkMany_187 fu MC MS cy ad mi Φ k_110) := by
  obtain ⟨⟨hx, hb, hr, hml, hown, hts, hlocks, hK, hA, hSt, hnm, hex⟩, hT, hMi⟩ := id F
  intro κ σ M x0 x1 x2 x3 x4 x5 hf hkc hks H locs ls hP hD hS hl
  unfold xv_mMa_checkMany_187 at hf
  obtain ⟨v1, ev, hf⟩ := bnP hf
  refine lv_iinc (v := v1) (lv' := [(3, .int v1), (0, .ref x0), (1, .int x1), (2, .int x2), (4, .int x4), (5, .int x5)]) hx hb d_Ma_checkMany_187 hl (k := 3) rfl (by rw [ev]; rfl) (by decide) rfl (fun ls hl => ?_)
  clear ev
  obtain ⟨v2, ev, hf⟩ := bnP hf
  refine lv_iinc (v := v2) (lv' := [(2, .int v2), (3, .int v1), (0, .ref x0), (1, .int x1), (4, .int x4), (5, .int x5)]) hx hb d_Ma_checkMany_190 hl (k := 3) rfl (by rw [ev]; rfl) (by decide) rfl (fun ls hl => ?_)
  clear ev
  refine lv_goto (tgt := 110) hx hb d_Ma_checkMany_193 (by decide) ?_
  exact hk_110 _ _ _ _ _ _ _ _ _ hf hkc hks _ _ _ hP hD hS (lv_sub hl [2, 3, 0, 1, 4, 5] rfl)
set_option maxHeartbeats 8000000 in
set_option maxRecDepth 100000 in
theorem wv_mMa_checkMany_110 {p : Program} {l : Launch} {e : Env} {s : State} {m : MethodId} {args : Array Value} {below : List Frame} {meth : Method} {c : Code} {D : va_G} {cy : Nat → ClassId} {A : Nat → Prop} {ad : Nat → Nat} {mi MC MS : Nat} {Φ : Int32 → Mm → Prop} {fu : Nat} {k_110 : Nat → Nat → Mm → Nat → Int32 → Int32 → Int32 → Int32 → Int32 → Prop} (F : FxM p s m args meth c b_Ma_checkMany 6 "CoinKeeper$Machine" "checkMany" (some .boolean) D cy ad mi A) (hk_110 : Iw_mMa_checkMany_110 p l e s m args below meth c D cy A ad mi MC MS Φ k_110) : Iw_mMa_checkMany_110 p l e s m args below meth c D cy A ad mi MC MS Φ (xv_mMa_checkMany_110 fu MC MS cy ad mi Φ k_110) := by
  obtain ⟨⟨hx, hb, hr, hml, hown, hts, hlocks, hK, hA, hSt, hnm, hex⟩, hT, hMi⟩ := id F
  intro κ σ M x0 x1 x2 x3 x4 x5 hf hkc hks H locs ls hP hD hS hl
  unfold xv_mMa_checkMany_110 at hf
  refine lv_iload hx hb d_Ma_checkMany_110 (lv_at hl 4 rfl) ?_
  refine lv_if_le (tgt := 196) hx hb d_Ma_checkMany_112 (by decide) (fun cx => ?_) (fun cx => ?_)
  · have hf := ifpP cx hf
    exact wv_mMa_checkMany_196 (fu := fu) F _ _ _ _ _ _ hf hkc hks _ _ _ hP hD hS (lv_sub hl [0, 1, 4] rfl)
  · have hf := ifnP cx hf
    refine lv_iload hx hb d_Ma_checkMany_115 (lv_at hl 4 rfl) ?_
    refine lv_iload_n hx hb d_Ma_checkMany_117 rfl (lv_at hl 2 rfl) ?_
    refine lv_icmp_gt (tgt := 196) hx hb d_Ma_checkMany_118 (by decide) (fun cx => ?_) (fun cx => ?_)
    · have hf := ifpP cx hf
      exact wv_mMa_checkMany_196 (fu := fu) F _ _ _ _ _ _ hf hkc hks _ _ _ hP hD hS (lv_sub hl [0, 1, 4] rfl)
    · have hf := ifnP cx hf
      refine lv_aload_n hx hb d_Ma_checkMany_121 rfl (lv_at hl 0 rfl) ?_
      obtain ⟨fs_, hm_, hf⟩ := hf
      obtain ⟨ix_, hi_⟩ := m_ix hm_
      obtain ⟨mc1, ms2, ⟨hc_, hd_⟩, hf⟩ := hf
      refine mm_ai (va_runV (C := "CoinKeeper$Machine") (As := []) (rest := []) ⟨hx, hb, hml, hown, hts⟩ (cw_mMa_hasMessage l D cy ad mi fu mc1 ms2 x0 M _ hf H.size) ⟨q_cB hts gw_1024 gw_6 gw_1021 hds_82 ⟨Nat.le_of_ble_eq_true rfl, Nat.le_of_ble_eq_true rfl⟩, hts _ gw_1023, hts _ gs_35⟩ (q_preVM (q_preM hP hD hK hSt hT hMi hS (m_free hD hS hA) _) (va_recv hK hP (ci := 6) (q0 := ix_) rfl hi_)) rfl rfl hl.1 rfl (lv_room (Nat.le_of_ble_eq_true rfl)) d_Ma_checkMany_122 ⟨hc_, hd_⟩) hD hS hA (fun v4 M3 H locs hf hP hD hS => ?_)
      have hkc : κ + mc1 ≤ MC := hc_
      have hks : σ + ms2 ≤ MS := hd_
      clear hc_ hd_
      refine lv_if_eq (tgt := 187) hx hb d_Ma_checkMany_125 (by decide) (fun cx => ?_) (fun cx => ?_)
      · have hf := ifpP cx hf
        exact wv_mMa_checkMany_187 (fu := fu) F hk_110 _ _ _ _ _ _ _ _ _ hf hkc hks _ _ _ hP hD hS (lv_sub hl [0, 1, 2, 3, 4, 5] rfl)
      · have hf := ifnP cx hf
        refine lv_aload_n hx hb d_Ma_checkMany_128 rfl (lv_at hl 0 rfl) ?_
        obtain ⟨fs_, hm_, r5, hv_, hf⟩ := hf
        obtain ⟨ix_, hi_⟩ := m_ix hm_
        refine va_get (D := D) (ci := 6) (v := va_rf r5) (C := "CoinKeeper$Machine") (T := F_6) (N := 19) hx hb hts i_6 hown hK hP ix_ hi_ rfl 1 (by decide) (hts _ gw_205) (fun _ h9 => h9) hv_ d_Ma_checkMany_129 ?_
        clear hv_ hi_ hm_
        obtain ⟨q6, rfl, hf⟩ := hf
        refine W.eq (g2 := F0 m 132 ls [.ref q6]) rfl ?_
        refine lv_aload_n hx hb d_Ma_checkMany_132 rfl (lv_at hl 0 rfl) ?_
        obtain ⟨fs_, hm_, r7, hv_, hf⟩ := hf
        obtain ⟨ix_, hi_⟩ := m_ix hm_
        refine va_get (D := D) (ci := 6) (v := va_rf r7) (C := "CoinKeeper$Machine") (T := F_6) (N := 19) hx hb hts i_6 hown hK hP ix_ hi_ rfl 3 (by decide) (hts _ gw_207) (fun _ h9 => h9) hv_ d_Ma_checkMany_133 ?_
        clear hv_ hi_ hm_
        obtain ⟨q8, rfl, hf⟩ := hf
        refine W.eq (g2 := F0 m 136 ls [.ref q8, .ref q6]) rfl ?_
        refine lv_iconst (v := 0) hx hb d_Ma_checkMany_136 (by decide) ?_
        refine lv_aload_n hx hb d_Ma_checkMany_137 rfl (lv_at hl 0 rfl) ?_
        obtain ⟨fs_, hm_, r9, hv_, hf⟩ := hf
        obtain ⟨ix_, hi_⟩ := m_ix hm_
        refine va_get (D := D) (ci := 6) (v := va_rf r9) (C := "CoinKeeper$Machine") (T := F_6) (N := 19) hx hb hts i_6 hown hK hP ix_ hi_ rfl 5 (by decide) (hts _ gw_209) (fun _ h9 => h9) hv_ d_Ma_checkMany_138 ?_
        clear hv_ hi_ hm_
        obtain ⟨q10, rfl, hf⟩ := hf
        refine W.eq (g2 := F0 m 141 ls [.ref q10, .int (0 : Int32), .ref q8, .ref q6]) rfl ?_
        refine lv_iload_n hx hb d_Ma_checkMany_141 rfl (lv_at hl 3 rfl) ?_
        obtain ⟨n_, f_, hm_, hin_, hf⟩ := hf
        obtain ⟨ix_, hi_⟩ := m_ix hm_
        refine va_iald hx hb hK hP ix_ 1 hi_ rfl (inb_in hin_) d_Ma_checkMany_142 ?_
        obtain ⟨v11, ev⟩ : ∃ z, z = f_ x3.toNatClampNeg := ⟨_, rfl⟩
        first | rw [← ev] at hf ⊢ | rw [← ev]
        clear ev hi_ hm_ hin_
        obtain ⟨hal_, hnd_, v12, hc, hf⟩ := hf
        refine m_li (va_runS (As := [.int v11]) (rest := [.int (0 : Int32), .ref q8, .ref q6]) ⟨hx, hb, hml, hown, hts⟩ (c_Ma_placeOf l D cy ad fu v11 _ hc H.size) ⟨q_cB hts gw_999 gw_6 gw_997 hds_83 ⟨Nat.le_of_ble_eq_true rfl, Nat.le_of_ble_eq_true rfl⟩, hts _ gw_998⟩ (q_pre (m_subP hP hal_) (m_subD hD hal_ hnd_) hK hSt hS (m_lF hD hS hA hal_) _) rfl rfl hl.1 rfl (lv_room (Nat.le_of_ble_eq_true rfl)) d_Ma_checkMany_143 ⟨hkc, hks⟩) hP hD hS hA hal_ rfl (fun H locs hP hD hS => ?_)
        refine W.widen (k := κ + mc1) (n := σ + ms2) (Nat.le_refl _) (Nat.le_refl _) ?_
        obtain ⟨M13, eM_, hf⟩ := bnP hf
        have hP : va_P D classes (mw M13) H := by rw [eM_]; exact hP
        have hD : va_D A (mw M13) := by rw [eM_]; exact hD
        clear eM_ hal_ hnd_ hc
        refine lv_aload_n hx hb d_Ma_checkMany_146 rfl (lv_at hl 0 rfl) ?_
        obtain ⟨fs_, hm_, r14, hv_, hf⟩ := hf
        obtain ⟨ix_, hi_⟩ := m_ix hm_
        refine va_get (D := D) (ci := 6) (v := va_rf r14) (C := "CoinKeeper$Machine") (T := F_6) (N := 19) hx hb hts i_6 hown hK hP ix_ hi_ rfl 5 (by decide) (hts _ gw_209) (fun _ h9 => h9) hv_ d_Ma_checkMany_147 ?_
        clear hv_ hi_ hm_
        obtain ⟨q15, rfl, hf⟩ := hf
        refine W.eq (g2 := F0 m 150 ls [.ref q15, .int v12, .int (0 : Int32), .ref q8, .ref q6]) rfl ?_
        refine lv_iload_n hx hb d_Ma_checkMany_150 rfl (lv_at hl 3 rfl) ?_
        obtain ⟨n_, f_, hm_, hin_, hf⟩ := hf
        obtain ⟨ix_, hi_⟩ := m_ix hm_
        refine va_iald hx hb hK hP ix_ 1 hi_ rfl (inb_in hin_) d_Ma_checkMany_151 ?_
        obtain ⟨v16, ev⟩ : ∃ z, z = f_ x3.toNatClampNeg := ⟨_, rfl⟩
        first | rw [← ev] at hf ⊢ | rw [← ev]
        clear ev hi_ hm_ hin_
        obtain ⟨hal_, hnd_, v17, hc, hf⟩ := hf
        refine m_li (va_runS (As := [.int v16]) (rest := [.int v12, .int (0 : Int32), .ref q8, .ref q6]) ⟨hx, hb, hml, hown, hts⟩ (c_Ma_lengthOf l D cy ad fu v16 _ hc H.size) ⟨q_cB hts gw_1002 gw_6 gw_1000 hds_84 ⟨Nat.le_of_ble_eq_true rfl, Nat.le_of_ble_eq_true rfl⟩, hts _ gw_1001⟩ (q_pre (m_subP hP hal_) (m_subD hD hal_ hnd_) hK hSt hS (m_lF hD hS hA hal_) _) rfl rfl hl.1 rfl (lv_room (Nat.le_of_ble_eq_true rfl)) d_Ma_checkMany_152 ⟨hkc, hks⟩) hP hD hS hA hal_ rfl (fun H locs hP hD hS => ?_)
        refine W.widen (k := κ + mc1) (n := σ + ms2) (Nat.le_refl _) (Nat.le_refl _) ?_
        obtain ⟨M18, eM_, hf⟩ := bnP hf
        have hP : va_P D classes (mw M18) H := by rw [eM_]; exact hP
        have hD : va_D A (mw M18) := by rw [eM_]; exact hD
        clear eM_ hal_ hnd_ hc
        refine lv_aload_n hx hb d_Ma_checkMany_155 rfl (lv_at hl 0 rfl) ?_
        obtain ⟨fs_, hm_, r19, hv_, hf⟩ := hf
        obtain ⟨ix_, hi_⟩ := m_ix hm_
        refine va_get (D := D) (ci := 6) (v := va_rf r19) (C := "CoinKeeper$Machine") (T := F_6) (N := 19) hx hb hts i_6 hown hK hP ix_ hi_ rfl 5 (by decide) (hts _ gw_209) (fun _ h9 => h9) hv_ d_Ma_checkMany_156 ?_
        clear hv_ hi_ hm_
        obtain ⟨q20, rfl, hf⟩ := hf
        refine W.eq (g2 := F0 m 159 ls [.ref q20, .int v17, .int v12, .int (0 : Int32), .ref q8, .ref q6]) rfl ?_
        refine lv_iload hx hb d_Ma_checkMany_159 (lv_at hl 5 rfl) ?_
        obtain ⟨n_, f_, hm_, hin_, hf⟩ := hf
        obtain ⟨ix_, hi_⟩ := m_ix hm_
        refine va_iald hx hb hK hP ix_ 1 hi_ rfl (inb_in hin_) d_Ma_checkMany_161 ?_
        obtain ⟨v21, ev⟩ : ∃ z, z = f_ x5.toNatClampNeg := ⟨_, rfl⟩
        first | rw [← ev] at hf ⊢ | rw [← ev]
        clear ev hi_ hm_ hin_
        obtain ⟨hal_, hnd_, v22, hc, hf⟩ := hf
        refine m_li (va_runS (As := [.int v21]) (rest := [.int v17, .int v12, .int (0 : Int32), .ref q8, .ref q6]) ⟨hx, hb, hml, hown, hts⟩ (c_Ma_placeOf l D cy ad fu v21 _ hc H.size) ⟨q_cB hts gw_999 gw_6 gw_997 hds_83 ⟨Nat.le_of_ble_eq_true rfl, Nat.le_of_ble_eq_true rfl⟩, hts _ gw_998⟩ (q_pre (m_subP hP hal_) (m_subD hD hal_ hnd_) hK hSt hS (m_lF hD hS hA hal_) _) rfl rfl hl.1 rfl (lv_room (Nat.le_of_ble_eq_true rfl)) d_Ma_checkMany_162 ⟨hkc, hks⟩) hP hD hS hA hal_ rfl (fun H locs hP hD hS => ?_)
        refine W.widen (k := κ + mc1) (n := σ + ms2) (Nat.le_refl _) (Nat.le_refl _) ?_
        obtain ⟨M23, eM_, hf⟩ := bnP hf
        have hP : va_P D classes (mw M23) H := by rw [eM_]; exact hP
        have hD : va_D A (mw M23) := by rw [eM_]; exact hD
        clear eM_ hal_ hnd_ hc
        refine lv_aload_n hx hb d_Ma_checkMany_165 rfl (lv_at hl 0 rfl) ?_
        obtain ⟨fs_, hm_, r24, hv_, hf⟩ := hf
        obtain ⟨ix_, hi_⟩ := m_ix hm_
        refine va_get (D := D) (ci := 6) (v := va_rf r24) (C := "CoinKeeper$Machine") (T := F_6) (N := 19) hx hb hts i_6 hown hK hP ix_ hi_ rfl 5 (by decide) (hts _ gw_209) (fun _ h9 => h9) hv_ d_Ma_checkMany_166 ?_
        clear hv_ hi_ hm_
        obtain ⟨q25, rfl, hf⟩ := hf
        refine W.eq (g2 := F0 m 169 ls [.ref q25, .int v22, .int v17, .int v12, .int (0 : Int32), .ref q8, .ref q6]) rfl ?_
        refine lv_iload hx hb d_Ma_checkMany_169 (lv_at hl 5 rfl) ?_
        obtain ⟨n_, f_, hm_, hin_, hf⟩ := hf
        obtain ⟨ix_, hi_⟩ := m_ix hm_
        refine va_iald hx hb hK hP ix_ 1 hi_ rfl (inb_in hin_) d_Ma_checkMany_171 ?_
        obtain ⟨v26, ev⟩ : ∃ z, z = f_ x5.toNatClampNeg := ⟨_, rfl⟩
        first | rw [← ev] at hf ⊢ | rw [← ev]
        clear ev hi_ hm_ hin_
        obtain ⟨hal_, hnd_, v27, hc, hf⟩ := hf
        refine m_li (va_runS (As := [.int v26]) (rest := [.int v22, .int v17, .int v12, .int (0 : Int32), .ref q8, .ref q6]) ⟨hx, hb, hml, hown, hts⟩ (c_Ma_lengthOf l D cy ad fu v26 _ hc H.size) ⟨q_cB hts gw_1002 gw_6 gw_1000 hds_84 ⟨Nat.le_of_ble_eq_true rfl, Nat.le_of_ble_eq_true rfl⟩, hts _ gw_1001⟩ (q_pre (m_subP hP hal_) (m_subD hD hal_ hnd_) hK hSt hS (m_lF hD hS hA hal_) _) rfl rfl hl.1 rfl (lv_room (Nat.le_of_ble_eq_true rfl)) d_Ma_checkMany_172 ⟨hkc, hks⟩) hP hD hS hA hal_ rfl (fun H locs hP hD hS => ?_)
        refine W.widen (k := κ + mc1) (n := σ + ms2) (Nat.le_refl _) (Nat.le_refl _) ?_
        obtain ⟨M28, eM_, hf⟩ := bnP hf
        have hP : va_P D classes (mw M28) H := by rw [eM_]; exact hP
        have hD : va_D A (mw M28) := by rw [eM_]; exact hD
        clear eM_ hal_ hnd_ hc
        obtain ⟨fs_, hm_, hf⟩ := hf
        obtain ⟨ix_, hi_⟩ := m_ix hm_
        obtain ⟨mc29, ms30, ⟨hc_, hd_⟩, hf⟩ := hf
        refine mm_ai (va_runV (C := "CoinKeeper$Signatures") (As := [.ref q8, .int (0 : Int32), .int v12, .int v17, .int v22, .int v27]) (rest := []) ⟨hx, hb, hml, hown, hts⟩ (cw_mSi_verify l D cy ad mi fu mc29 ms30 q6 q8 (0 : Int32) v12 v17 v22 v27 M28 _ hf H.size) ⟨q_cB hts gw_1037 gw_3 gw_1034 hds_85 ⟨Nat.le_of_ble_eq_true rfl, Nat.le_of_ble_eq_true rfl⟩, hts _ gw_1035, hts _ gw_1036⟩ (q_preVM (q_preM hP hD hK hSt hT hMi hS (m_free hD hS hA) _) (va_recv hK hP (ci := 10) (q0 := ix_) rfl hi_)) rfl rfl hl.1 rfl (lv_room (Nat.le_of_ble_eq_true rfl)) d_Ma_checkMany_175 ⟨hc_, hd_⟩) hD hS hA (fun v32 M31 H locs hf hP hD hS => ?_)
        have hkc : κ + mc1 + mc29 ≤ MC := hc_
        have hks : σ + ms2 + ms30 ≤ MS := hd_
        clear hc_ hd_
        refine lv_if_eq (tgt := 187) hx hb d_Ma_checkMany_178 (by decide) (fun cx => ?_) (fun cx => ?_)
        · have hf := ifpP cx hf
          exact wv_mMa_checkMany_187 (fu := fu) F hk_110 _ _ _ _ _ _ _ _ _ hf hkc hks _ _ _ hP hD hS (lv_sub hl [0, 1, 2, 3, 4, 5] rfl)
        · have hf := ifnP cx hf
          obtain ⟨v33, ev, hf⟩ := bnP hf
          refine lv_iinc (v := v33) (lv' := [(5, .int v33), (0, .ref x0), (1, .int x1), (2, .int x2), (3, .int x3), (4, .int x4)]) hx hb d_Ma_checkMany_181 hl (k := 5) rfl (by rw [ev]; rfl) (by decide) rfl (fun ls hl => ?_)
          clear ev
          obtain ⟨v34, ev, hf⟩ := bnP hf
          refine lv_iinc (v := v34) (lv' := [(4, .int v34), (5, .int v33), (0, .ref x0), (1, .int x1), (2, .int x2), (3, .int x3)]) hx hb d_Ma_checkMany_184 hl (k := 5) rfl (by rw [ev]; rfl) (by decide) rfl (fun ls hl => ?_)
          clear ev
          exact wv_mMa_checkMany_187 (fu := fu) F hk_110 _ _ _ _ _ _ _ _ _ hf hkc hks _ _ _ hP hD hS (lv_sub hl [2, 3, 4, 5, 0, 1] rfl)
theorem ww_mMa_checkMany_110 {p : Program} {l : Launch} {e : Env} {s : State} {m : MethodId} {args : Array Value} {below : List Frame} {meth : Method} {c : Code} {D : va_G} {cy : Nat → ClassId} {A : Nat → Prop} {ad : Nat → Nat} {mi MC MS : Nat} {Φ : Int32 → Mm → Prop} {fu : Nat} (F : FxM p s m args meth c b_Ma_checkMany 6 "CoinKeeper$Machine" "checkMany" (some .boolean) D cy ad mi A) : ∀ n : Nat, Iw_mMa_checkMany_110 p l e s m args below meth c D cy A ad mi MC MS Φ (xw_mMa_checkMany_110 fu MC MS cy ad mi Φ n)
  | 0 => fun _ _ _ _ _ _ _ _ _ hf => False.elim hf
  | n + 1 => wv_mMa_checkMany_110 F (ww_mMa_checkMany_110 F n)
theorem hds_86 : ({ cls := "CoinKeeper$Machine", name := "popLimited", desc := "(I)I" } : Jvm.MethodName).cls ≠ "java/lang/invoke/MethodHandle" ∧ ({ cls := "CoinKeeper$Machine", name := "popLimited", desc := "(I)I" } : Jvm.MethodName).cls ≠ "java/lang/invoke/VarHandle" ∧ (parseMethodDescriptor ({ cls := "CoinKeeper$Machine", name := "popLimited", desc := "(I)I" } : Jvm.MethodName).desc).map (fun d => d.parameters.length) = some 1 := by decide +kernel
set_option maxHeartbeats 8000000 in
set_option maxRecDepth 100000 in
theorem wew_mMa_checkMany {p : Program} {l : Launch} {e : Env} {s : State} {m : MethodId} {args : Array Value} {below : List Frame} {meth : Method} {c : Code} {D : va_G} {cy : Nat → ClassId} {A : Nat → Prop} {ad : Nat → Nat} {mi MC MS : Nat} {Φ : Int32 → Mm → Prop} {fu : Nat} (F : FxM p s m args meth c b_Ma_checkMany 6 "CoinKeeper$Machine" "checkMany" (some .boolean) D cy ad mi A) : Iw_mMa_checkMany_e p l e s m args below meth c D cy A ad mi MC MS Φ (xw_mMa_checkMany fu MC MS cy ad mi Φ) := by
  obtain ⟨⟨hx, hb, hr, hml, hown, hts, hlocks, hK, hA, hSt, hnm, hex⟩, hT, hMi⟩ := id F
  intro κ σ M a0 a1 hf hkc hks H locs ls hP hD hS hl
  unfold xw_mMa_checkMany at hf
  refine lv_aload_n hx hb d_Ma_checkMany_0 rfl (lv_at hl 0 rfl) ?_
  refine lv_bipush (v := 20) hx hb d_Ma_checkMany_1 (by decide) ?_
  obtain ⟨b1, b2, b3, b4, b5, b6, b7, b8, b9, b10, c11, c12, c13, c14, c15, c16, c17, c18, c19, c20, c21, hal_, hnd_, v22, c23, hc, hf⟩ := hf
  refine m_li (va_runV (C := "CoinKeeper$Machine") (As := [.int (20 : Int32)]) (rest := []) ⟨hx, hb, hml, hown, hts⟩ (c_Ma_popLimited l D cy ad fu a0 b1 b2 b3 b4 b5 b6 b7 b8 b9 b10 c11 c12 c13 c14 c15 c16 c17 c18 c19 c20 (20 : Int32) c21 _ hc H.size) ⟨q_cB hts gw_1010 gw_6 gw_1007 hds_86 ⟨Nat.le_of_ble_eq_true rfl, Nat.le_of_ble_eq_true rfl⟩, hts _ gw_1009, hts _ gs_32⟩ (q_preV (q_pre (m_subP hP hal_) (m_subD hD hal_ hnd_) hK hSt hS (m_lF hD hS hA hal_) _) (va_recv hK (m_subP hP hal_) (ci := 6) (q0 := 0) rfl rfl)) rfl rfl hl.1 rfl (lv_room (Nat.le_of_ble_eq_true rfl)) d_Ma_checkMany_3 ⟨hkc, hks⟩) hP hD hS hA hal_ rfl (fun H locs hP hD hS => ?_)
  refine W.widen (k := κ) (n := σ) (Nat.le_refl _) (Nat.le_refl _) ?_
  obtain ⟨M24, eM_, hf⟩ := bnP hf
  have hP : va_P D classes (mw M24) H := by rw [eM_]; exact hP
  have hD : va_D A (mw M24) := by rw [eM_]; exact hD
  clear eM_ hal_ hnd_ hc
  refine lv_istore_n (lv' := [(2, .int v22), (0, .ref a0), (1, .int a1)]) hx hb d_Ma_checkMany_6 rfl hl (by decide) rfl (fun ls hl => ?_)
  refine lv_aload_n hx hb d_Ma_checkMany_7 rfl (lv_at hl 1 rfl) ?_
  refine lv_dup hx hb d_Ma_checkMany_8 rfl ?_
  obtain ⟨fs_, hm_, v25, hv_, hf⟩ := hf
  obtain ⟨ix_, hi_⟩ := m_ix hm_
  refine va_get (D := D) (ci := 6) (v := .int v25) (C := "CoinKeeper$Machine") (T := F_6) (N := 19) hx hb hts i_6 hown hK hP ix_ hi_ rfl 10 (by decide) (hts _ gw_214) (fun _ h9 => h9) hv_ d_Ma_checkMany_9 ?_
  clear hv_ hi_ hm_
  refine lv_iload_n hx hb d_Ma_checkMany_12 rfl (lv_at hl 0 rfl) ?_
  refine lv_iconst (v := 0) hx hb d_Ma_checkMany_13 (by decide) ?_
  refine va_mmax (R := rmw_mMa_checkMany MC MS) (rest := [.int v25, .ref a0]) hx hb (hml.trans hl.1.symm) hown (hts _ gw_1020) (hts _ gw_457) (hts _ gw_15) (hts _ gw_458) (Nat.le_of_ble_eq_true rfl) (Nat.le_of_ble_eq_true rfl) hkc hks d_Ma_checkMany_14 ?_
  refine lv_topi (fun v26 ev => ?_)
  have hf := bnQ ev hf
  clear ev
  refine lv_iadd hx hb d_Ma_checkMany_17 ?_
  refine lv_topi (fun v27 ev => ?_)
  have hf := bnQ ev hf
  clear ev
  obtain ⟨fs_, hm_, hlen_, hf⟩ := hf
  obtain ⟨ix_, hi_⟩ := m_ix hm_
  have hE_ := m_set (y := .inr (6, fs_.set 10 (.int v27))) hD hi_
  refine va_put (D := D) (ci := 6) (v := .int v27) (ty := .int) (C := "CoinKeeper$Machine") (T := F_6) (N := 19) hx hb hts i_6 t_6 t_6_ok n_6 hown hK hP hD hS ix_ hi_ rfl 10 (by decide) (hts _ gw_214) (fun _ h9 => h9) rfl (by decide +kernel) rfl rfl hlen_ d_Ma_checkMany_18 (fun H locs hP hD hS => ?_)
  obtain ⟨M28, eM_⟩ : ∃ z, z = mu M24 a0 (.inr (6, fs_.set 10 (.int v27))) := ⟨_, rfl⟩
  rw [← eM_] at hf hE_
  rw [hE_] at hP hD
  clear hE_ eM_ hi_ hm_
  refine lv_iload_n hx hb d_Ma_checkMany_21 rfl (lv_at hl 0 rfl) ?_
  refine lv_if_lt (tgt := 43) hx hb d_Ma_checkMany_22 (by decide) (fun cx => ?_) (fun cx => ?_)
  · have hf := ifpP cx hf
    refine lv_iconst (v := 0) hx hb d_Ma_checkMany_43 (by decide) ?_
    refine W.widen (k := MC) (n := MS) hkc hks ?_
    exact m_rz hf hx hb hr hlocks hK hP hD hS (isb_n (v := 0) (by decide)) d_Ma_checkMany_44
  · have hf := ifnP cx hf
    refine lv_aload_n hx hb d_Ma_checkMany_25 rfl (lv_at hl 1 rfl) ?_
    obtain ⟨fs_, hm_, v29, hv_, hf⟩ := hf
    obtain ⟨ix_, hi_⟩ := m_ix hm_
    refine va_get (D := D) (ci := 6) (v := .int v29) (C := "CoinKeeper$Machine") (T := F_6) (N := 19) hx hb hts i_6 hown hK hP ix_ hi_ rfl 10 (by decide) (hts _ gw_214) (fun _ h9 => h9) hv_ d_Ma_checkMany_26 ?_
    clear hv_ hi_ hm_
    refine lv_sipush (v := 201) hx hb d_Ma_checkMany_29 (by decide) ?_
    refine lv_icmp_gt (tgt := 43) hx hb d_Ma_checkMany_32 (by decide) (fun cx => ?_) (fun cx => ?_)
    · have hf := ifpP cx hf
      refine lv_iconst (v := 0) hx hb d_Ma_checkMany_43 (by decide) ?_
      refine W.widen (k := MC) (n := MS) hkc hks ?_
      exact m_rz hf hx hb hr hlocks hK hP hD hS (isb_n (v := 0) (by decide)) d_Ma_checkMany_44
    · have hf := ifnP cx hf
      refine lv_aload_n hx hb d_Ma_checkMany_35 rfl (lv_at hl 1 rfl) ?_
      obtain ⟨fs_, hm_, v30, hv_, hf⟩ := hf
      obtain ⟨ix_, hi_⟩ := m_ix hm_
      refine va_get (D := D) (ci := 6) (v := .int v30) (C := "CoinKeeper$Machine") (T := F_6) (N := 19) hx hb hts i_6 hown hK hP ix_ hi_ rfl 8 (by decide) (hts _ gw_212) (fun _ h9 => h9) hv_ d_Ma_checkMany_36 ?_
      clear hv_ hi_ hm_
      refine lv_iload_n hx hb d_Ma_checkMany_39 rfl (lv_at hl 0 rfl) ?_
      refine lv_icmp_ge (tgt := 45) hx hb d_Ma_checkMany_40 (by decide) (fun cx => ?_) (fun cx => ?_)
      · have hf := ifpP cx hf
        refine lv_aload_n hx hb d_Ma_checkMany_45 rfl (lv_at hl 1 rfl) ?_
        refine lv_dup hx hb d_Ma_checkMany_46 rfl ?_
        obtain ⟨fs_, hm_, v31, hv_, hf⟩ := hf
        obtain ⟨ix_, hi_⟩ := m_ix hm_
        refine va_get (D := D) (ci := 6) (v := .int v31) (C := "CoinKeeper$Machine") (T := F_6) (N := 19) hx hb hts i_6 hown hK hP ix_ hi_ rfl 8 (by decide) (hts _ gw_212) (fun _ h9 => h9) hv_ d_Ma_checkMany_47 ?_
        clear hv_ hi_ hm_
        refine lv_iload_n hx hb d_Ma_checkMany_50 rfl (lv_at hl 0 rfl) ?_
        refine lv_isub hx hb d_Ma_checkMany_51 ?_
        refine lv_topi (fun v32 ev => ?_)
        have hf := bnQ ev hf
        clear ev
        obtain ⟨fs_, hm_, hlen_, hf⟩ := hf
        obtain ⟨ix_, hi_⟩ := m_ix hm_
        have hE_ := m_set (y := .inr (6, fs_.set 8 (.int v32))) hD hi_
        refine va_put (D := D) (ci := 6) (v := .int v32) (ty := .int) (C := "CoinKeeper$Machine") (T := F_6) (N := 19) hx hb hts i_6 t_6 t_6_ok n_6 hown hK hP hD hS ix_ hi_ rfl 8 (by decide) (hts _ gw_212) (fun _ h9 => h9) rfl (by decide +kernel) rfl rfl hlen_ d_Ma_checkMany_52 (fun H locs hP hD hS => ?_)
        obtain ⟨M33, eM_⟩ : ∃ z, z = mu M28 a0 (.inr (6, fs_.set 8 (.int v32))) := ⟨_, rfl⟩
        rw [← eM_] at hf hE_
        rw [hE_] at hP hD
        clear hE_ eM_ hi_ hm_
        refine lv_aload_n hx hb d_Ma_checkMany_55 rfl (lv_at hl 1 rfl) ?_
        obtain ⟨fs_, hm_, v34, hv_, hf⟩ := hf
        obtain ⟨ix_, hi_⟩ := m_ix hm_
        refine va_get (D := D) (ci := 6) (v := .int v34) (C := "CoinKeeper$Machine") (T := F_6) (N := 19) hx hb hts i_6 hown hK hP ix_ hi_ rfl 8 (by decide) (hts _ gw_212) (fun _ h9 => h9) hv_ d_Ma_checkMany_56 ?_
        clear hv_ hi_ hm_
        refine lv_iload_n hx hb d_Ma_checkMany_59 rfl (lv_at hl 0 rfl) ?_
        refine lv_iadd hx hb d_Ma_checkMany_60 ?_
        refine lv_topi (fun v35 ev => ?_)
        have hf := bnQ ev hf
        clear ev
        refine lv_iconst (v := 1) hx hb d_Ma_checkMany_61 (by decide) ?_
        refine lv_isub hx hb d_Ma_checkMany_62 ?_
        refine lv_topi (fun v36 ev => ?_)
        have hf := bnQ ev hf
        clear ev
        refine lv_istore_n (lv' := [(3, .int v36), (2, .int v22), (0, .ref a0), (1, .int a1)]) hx hb d_Ma_checkMany_63 rfl hl (by decide) rfl (fun ls hl => ?_)
        refine lv_aload_n hx hb d_Ma_checkMany_64 rfl (lv_at hl 2 rfl) ?_
        refine lv_iload_n hx hb d_Ma_checkMany_65 rfl (lv_at hl 1 rfl) ?_
        obtain ⟨b37, b38, b39, b40, b41, b42, b43, b44, b45, b46, c47, c48, c49, c50, c51, c52, c53, c54, c55, c56, c57, hal_, hnd_, v58, c59, hc, hf⟩ := hf
        refine m_li (va_runV (C := "CoinKeeper$Machine") (As := [.int v22]) (rest := []) ⟨hx, hb, hml, hown, hts⟩ (c_Ma_popLimited l D cy ad fu a0 b37 b38 b39 b40 b41 b42 b43 b44 b45 b46 c47 c48 c49 c50 c51 c52 c53 c54 c55 c56 v22 c57 _ hc H.size) ⟨q_cB hts gw_1010 gw_6 gw_1007 hds_86 ⟨Nat.le_of_ble_eq_true rfl, Nat.le_of_ble_eq_true rfl⟩, hts _ gw_1009, hts _ gs_32⟩ (q_preV (q_pre (m_subP hP hal_) (m_subD hD hal_ hnd_) hK hSt hS (m_lF hD hS hA hal_) _) (va_recv hK (m_subP hP hal_) (ci := 6) (q0 := 0) rfl rfl)) rfl rfl hl.1 rfl (lv_room (Nat.le_of_ble_eq_true rfl)) d_Ma_checkMany_66 ⟨hkc, hks⟩) hP hD hS hA hal_ rfl (fun H locs hP hD hS => ?_)
        refine W.widen (k := κ) (n := σ) (Nat.le_refl _) (Nat.le_refl _) ?_
        obtain ⟨M60, eM_, hf⟩ := bnP hf
        have hP : va_P D classes (mw M60) H := by rw [eM_]; exact hP
        have hD : va_D A (mw M60) := by rw [eM_]; exact hD
        clear eM_ hal_ hnd_ hc
        refine lv_istore (lv' := [(4, .int v58), (3, .int v36), (2, .int v22), (0, .ref a0), (1, .int a1)]) hx hb d_Ma_checkMany_69 hl (by decide) rfl (fun ls hl => ?_)
        refine lv_iload hx hb d_Ma_checkMany_71 (lv_at hl 0 rfl) ?_
        refine lv_if_lt (tgt := 87) hx hb d_Ma_checkMany_73 (by decide) (fun cx => ?_) (fun cx => ?_)
        · have hf := ifpP cx hf
          refine lv_iconst (v := 0) hx hb d_Ma_checkMany_87 (by decide) ?_
          refine W.widen (k := MC) (n := MS) hkc hks ?_
          exact m_rz hf hx hb hr hlocks hK hP hD hS (isb_n (v := 0) (by decide)) d_Ma_checkMany_88
        · have hf := ifnP cx hf
          refine lv_aload_n hx hb d_Ma_checkMany_76 rfl (lv_at hl 3 rfl) ?_
          obtain ⟨fs_, hm_, v61, hv_, hf⟩ := hf
          obtain ⟨ix_, hi_⟩ := m_ix hm_
          refine va_get (D := D) (ci := 6) (v := .int v61) (C := "CoinKeeper$Machine") (T := F_6) (N := 19) hx hb hts i_6 hown hK hP ix_ hi_ rfl 8 (by decide) (hts _ gw_212) (fun _ h9 => h9) hv_ d_Ma_checkMany_77 ?_
          clear hv_ hi_ hm_
          refine lv_iload hx hb d_Ma_checkMany_80 (lv_at hl 0 rfl) ?_
          refine lv_iconst (v := 1) hx hb d_Ma_checkMany_82 (by decide) ?_
          refine lv_iadd hx hb d_Ma_checkMany_83 ?_
          refine lv_icmp_ge (tgt := 89) hx hb d_Ma_checkMany_84 (by decide) (fun cx => ?_) (fun cx => ?_)
          · have hf := ifpP cx hf
            refine lv_aload_n hx hb d_Ma_checkMany_89 rfl (lv_at hl 3 rfl) ?_
            obtain ⟨fs_, hm_, v62, hv_, hf⟩ := hf
            obtain ⟨ix_, hi_⟩ := m_ix hm_
            refine va_get (D := D) (ci := 6) (v := .int v62) (C := "CoinKeeper$Machine") (T := F_6) (N := 19) hx hb hts i_6 hown hK hP ix_ hi_ rfl 8 (by decide) (hts _ gw_212) (fun _ h9 => h9) hv_ d_Ma_checkMany_90 ?_
            clear hv_ hi_ hm_
            refine lv_iconst (v := 1) hx hb d_Ma_checkMany_93 (by decide) ?_
            refine lv_isub hx hb d_Ma_checkMany_94 ?_
            refine lv_topi (fun v63 ev => ?_)
            have hf := bnQ ev hf
            clear ev
            refine lv_istore (lv' := [(5, .int v63), (4, .int v58), (3, .int v36), (2, .int v22), (0, .ref a0), (1, .int a1)]) hx hb d_Ma_checkMany_95 hl (by decide) rfl (fun ls hl => ?_)
            refine lv_aload_n hx hb d_Ma_checkMany_97 rfl (lv_at hl 4 rfl) ?_
            refine lv_dup hx hb d_Ma_checkMany_98 rfl ?_
            obtain ⟨fs_, hm_, v64, hv_, hf⟩ := hf
            obtain ⟨ix_, hi_⟩ := m_ix hm_
            refine va_get (D := D) (ci := 6) (v := .int v64) (C := "CoinKeeper$Machine") (T := F_6) (N := 19) hx hb hts i_6 hown hK hP ix_ hi_ rfl 8 (by decide) (hts _ gw_212) (fun _ h9 => h9) hv_ d_Ma_checkMany_99 ?_
            clear hv_ hi_ hm_
            refine lv_iload hx hb d_Ma_checkMany_102 (lv_at hl 1 rfl) ?_
            refine lv_iconst (v := 1) hx hb d_Ma_checkMany_104 (by decide) ?_
            refine lv_iadd hx hb d_Ma_checkMany_105 ?_
            refine lv_isub hx hb d_Ma_checkMany_106 ?_
            refine lv_topi (fun v65 ev => ?_)
            have hf := bnQ ev hf
            clear ev
            obtain ⟨fs_, hm_, hlen_, hf⟩ := hf
            obtain ⟨ix_, hi_⟩ := m_ix hm_
            have hE_ := m_set (y := .inr (6, fs_.set 8 (.int v65))) hD hi_
            refine va_put (D := D) (ci := 6) (v := .int v65) (ty := .int) (C := "CoinKeeper$Machine") (T := F_6) (N := 19) hx hb hts i_6 t_6 t_6_ok n_6 hown hK hP hD hS ix_ hi_ rfl 8 (by decide) (hts _ gw_212) (fun _ h9 => h9) rfl (by decide +kernel) rfl rfl hlen_ d_Ma_checkMany_107 (fun H locs hP hD hS => ?_)
            obtain ⟨M66, eM_⟩ : ∃ z, z = mu M60 a0 (.inr (6, fs_.set 8 (.int v65))) := ⟨_, rfl⟩
            rw [← eM_] at hf hE_
            rw [hE_] at hP hD
            clear hE_ eM_ hi_ hm_
            exact ww_mMa_checkMany_110 F fu _ _ _ _ _ _ _ _ _ hf hkc hks _ _ _ hP hD hS (lv_sub hl [4, 5, 3, 2, 1, 0] rfl)
          · have hf := ifnP cx hf
            refine lv_iconst (v := 0) hx hb d_Ma_checkMany_87 (by decide) ?_
            refine W.widen (k := MC) (n := MS) hkc hks ?_
            exact m_rz hf hx hb hr hlocks hK hP hD hS (isb_n (v := 0) (by decide)) d_Ma_checkMany_88
      · have hf := ifnP cx hf
        refine lv_iconst (v := 0) hx hb d_Ma_checkMany_43 (by decide) ?_
        refine W.widen (k := MC) (n := MS) hkc hks ?_
        exact m_rz hf hx hb hr hlocks hK hP hD hS (isb_n (v := 0) (by decide)) d_Ma_checkMany_44
theorem cw_mMa_checkMany (l : Launch) (D : va_G) (cy : Nat → ClassId) (ad : Nat → Nat) (mi fu MC MS : Nat) (a0 : Nat) (a1 : Int32) (M : Mm) (Φ : Int32 → Mm → Prop) (hf : xw_mMa_checkMany fu MC MS cy ad mi Φ 0 0 M a0 a1) (sz : Nat) : Met l ({ cls := "CoinKeeper$Machine", name := "checkMany", desc := "(I)Z" } : Jvm.MethodName) (.code ({ cls := "CoinKeeper$Machine", name := "checkMany", desc := "(I)Z" } : Jvm.MethodName) b_Ma_checkMany 6 (some .boolean) :: gw) (rmw_mMa_checkMany MC MS) (va_Pc [.ref a0, .int a1] (PrM D cy ad mi (mw M) sz)) (va_Qi Φ (fun u t => Po D cy (va_A (mw M) sz) (mw u) t) (va_A (mw M) sz)) MC MS (va_A (mw M) sz) :=
  q_metM (Qc := fun A => va_Qi Φ (fun u t => Po D cy A (mw u) t) A) (by decide) rfl rfl (Nat.le_of_ble_eq_true rfl) (fun p e s m below meth c ls F hP hD hS hl => wew_mMa_checkMany (fu := fu) F 0 0 M a0 a1 hf (Nat.zero_le _) (Nat.zero_le _) _ _ _ hP hD hS hl) sz
abbrev rmw_mMa_run (MC MS : Nat) : Room := { frames := 6, cells := MC, slots := MS, locals := 188 }
def Iw_mMa_run_281 (p : Program) (l : Launch) (e : Env) (s : State) (m : MethodId) (args : Array Value) (below : List Frame) (meth : Method) (c : Code) (D : va_G) (cy : Nat → ClassId) (A : Nat → Prop) (ad : Nat → Nat) (mi MC MS : Nat) (Φ : Int32 → Mm → Prop) (k : Nat → Nat → Mm → Nat → Int32 → Int32 → Int32 → Prop) : Prop :=
  ∀ (κ σ : Nat) (M : Mm) (x0 : Nat) (x2 : Int32) (x3 : Int32) (x5 : Int32), k κ σ M x0 x2 x3 x5 → κ ≤ MC → σ ≤ MS → ∀ (H : Heap) (locs : List Loc) (ls : Array Slot), va_P D classes (mw M) H → va_D A (mw M) → va_S A s.heap H locs → lv_has ls 7 [(0, .ref x0), (2, .int x2), (3, .int x3), (5, .int x5)] → W p l e (rmw_mMa_run MC MS) s m args below meth c H locs κ σ (MQ below (va_Qi Φ (fun u t => Po D cy A (mw u) t) A) args s MC MS A) (F0 m 281 ls [])
def Iw_mMa_run_279 (p : Program) (l : Launch) (e : Env) (s : State) (m : MethodId) (args : Array Value) (below : List Frame) (meth : Method) (c : Code) (D : va_G) (cy : Nat → ClassId) (A : Nat → Prop) (ad : Nat → Nat) (mi MC MS : Nat) (Φ : Int32 → Mm → Prop) (k : Nat → Nat → Mm → Nat → Int32 → Int32 → Int32 → Prop) : Prop :=
  ∀ (κ σ : Nat) (M : Mm) (x0 : Nat) (x2 : Int32) (x3 : Int32) (y0 : Int32), k κ σ M x0 x2 x3 y0 → κ ≤ MC → σ ≤ MS → ∀ (H : Heap) (locs : List Loc) (ls : Array Slot), va_P D classes (mw M) H → va_D A (mw M) → va_S A s.heap H locs → lv_has ls 7 [(0, .ref x0), (2, .int x2), (3, .int x3)] → W p l e (rmw_mMa_run MC MS) s m args below meth c H locs κ σ (MQ below (va_Qi Φ (fun u t => Po D cy A (mw u) t) A) args s MC MS A) (F0 m 279 ls [.int y0])
def Iw_mMa_run_239 (p : Program) (l : Launch) (e : Env) (s : State) (m : MethodId) (args : Array Value) (below : List Frame) (meth : Method) (c : Code) (D : va_G) (cy : Nat → ClassId) (A : Nat → Prop) (ad : Nat → Nat) (mi MC MS : Nat) (Φ : Int32 → Mm → Prop) (k : Nat → Nat → Mm → Nat → Int32 → Int32 → Int32 → Prop) : Prop :=
  ∀ (κ σ : Nat) (M : Mm) (x0 : Nat) (x2 : Int32) (x3 : Int32) (x4 : Int32), k κ σ M x0 x2 x3 x4 → κ ≤ MC → σ ≤ MS → ∀ (H : Heap) (locs : List Loc) (ls : Array Slot), va_P D classes (mw M) H → va_D A (mw M) → va_S A s.heap H locs → lv_has ls 7 [(0, .ref x0), (2, .int x2), (3, .int x3), (4, .int x4)] → W p l e (rmw_mMa_run MC MS) s m args below meth c H locs κ σ (MQ below (va_Qi Φ (fun u t => Po D cy A (mw u) t) A) args s MC MS A) (F0 m 239 ls [])
def Iw_mMa_run_264 (p : Program) (l : Launch) (e : Env) (s : State) (m : MethodId) (args : Array Value) (below : List Frame) (meth : Method) (c : Code) (D : va_G) (cy : Nat → ClassId) (A : Nat → Prop) (ad : Nat → Nat) (mi MC MS : Nat) (Φ : Int32 → Mm → Prop) (k : Nat → Nat → Mm → Nat → Int32 → Int32 → Int32 → Prop) : Prop :=
  ∀ (κ σ : Nat) (M : Mm) (x0 : Nat) (x2 : Int32) (x3 : Int32) (x4 : Int32), k κ σ M x0 x2 x3 x4 → κ ≤ MC → σ ≤ MS → ∀ (H : Heap) (locs : List Loc) (ls : Array Slot), va_P D classes (mw M) H → va_D A (mw M) → va_S A s.heap H locs → lv_has ls 7 [(0, .ref x0), (2, .int x2), (3, .int x3), (4, .int x4)] → W p l e (rmw_mMa_run MC MS) s m args below meth c H locs κ σ (MQ below (va_Qi Φ (fun u t => Po D cy A (mw u) t) A) args s MC MS A) (F0 m 264 ls [])
def Iw_mMa_run_216 (p : Program) (l : Launch) (e : Env) (s : State) (m : MethodId) (args : Array Value) (below : List Frame) (meth : Method) (c : Code) (D : va_G) (cy : Nat → ClassId) (A : Nat → Prop) (ad : Nat → Nat) (mi MC MS : Nat) (Φ : Int32 → Mm → Prop) (k : Nat → Nat → Mm → Nat → Int32 → Int32 → Int32 → Int32 → Prop) : Prop :=
  ∀ (κ σ : Nat) (M : Mm) (x0 : Nat) (x2 : Int32) (x3 : Int32) (x4 : Int32) (x5 : Int32), k κ σ M x0 x2 x3 x4 x5 → κ ≤ MC → σ ≤ MS → ∀ (H : Heap) (locs : List Loc) (ls : Array Slot), va_P D classes (mw M) H → va_D A (mw M) → va_S A s.heap H locs → lv_has ls 7 [(0, .ref x0), (2, .int x2), (3, .int x3), (4, .int x4), (5, .int x5)] → W p l e (rmw_mMa_run MC MS) s m args below meth c H locs κ σ (MQ below (va_Qi Φ (fun u t => Po D cy A (mw u) t) A) args s MC MS A) (F0 m 216 ls [])
def Iw_mMa_run_177 (p : Program) (l : Launch) (e : Env) (s : State) (m : MethodId) (args : Array Value) (below : List Frame) (meth : Method) (c : Code) (D : va_G) (cy : Nat → ClassId) (A : Nat → Prop) (ad : Nat → Nat) (mi MC MS : Nat) (Φ : Int32 → Mm → Prop) (k : Nat → Nat → Mm → Nat → Int32 → Int32 → Int32 → Int32 → Prop) : Prop :=
  ∀ (κ σ : Nat) (M : Mm) (x0 : Nat) (x2 : Int32) (x3 : Int32) (x4 : Int32) (x5 : Int32), k κ σ M x0 x2 x3 x4 x5 → κ ≤ MC → σ ≤ MS → ∀ (H : Heap) (locs : List Loc) (ls : Array Slot), va_P D classes (mw M) H → va_D A (mw M) → va_S A s.heap H locs → lv_has ls 7 [(0, .ref x0), (2, .int x2), (3, .int x3), (4, .int x4), (5, .int x5)] → W p l e (rmw_mMa_run MC MS) s m args below meth c H locs κ σ (MQ below (va_Qi Φ (fun u t => Po D cy A (mw u) t) A) args s MC MS A) (F0 m 177 ls [])
def Iw_mMa_run_139 (p : Program) (l : Launch) (e : Env) (s : State) (m : MethodId) (args : Array Value) (below : List Frame) (meth : Method) (c : Code) (D : va_G) (cy : Nat → ClassId) (A : Nat → Prop) (ad : Nat → Nat) (mi MC MS : Nat) (Φ : Int32 → Mm → Prop) (k : Nat → Nat → Mm → Nat → Int32 → Int32 → Int32 → Int32 → Prop) : Prop :=
  ∀ (κ σ : Nat) (M : Mm) (x0 : Nat) (x2 : Int32) (x3 : Int32) (x5 : Int32) (x6 : Int32), k κ σ M x0 x2 x3 x5 x6 → κ ≤ MC → σ ≤ MS → ∀ (H : Heap) (locs : List Loc) (ls : Array Slot), va_P D classes (mw M) H → va_D A (mw M) → va_S A s.heap H locs → lv_has ls 7 [(0, .ref x0), (2, .int x2), (3, .int x3), (5, .int x5), (6, .int x6)] → W p l e (rmw_mMa_run MC MS) s m args below meth c H locs κ σ (MQ below (va_Qi Φ (fun u t => Po D cy A (mw u) t) A) args s MC MS A) (F0 m 139 ls [])
def Iw_mMa_run_114 (p : Program) (l : Launch) (e : Env) (s : State) (m : MethodId) (args : Array Value) (below : List Frame) (meth : Method) (c : Code) (D : va_G) (cy : Nat → ClassId) (A : Nat → Prop) (ad : Nat → Nat) (mi MC MS : Nat) (Φ : Int32 → Mm → Prop) (k : Nat → Nat → Mm → Nat → Int32 → Int32 → Int32 → Int32 → Prop) : Prop :=
  ∀ (κ σ : Nat) (M : Mm) (x0 : Nat) (x2 : Int32) (x3 : Int32) (x6 : Int32) (y0 : Int32), k κ σ M x0 x2 x3 x6 y0 → κ ≤ MC → σ ≤ MS → ∀ (H : Heap) (locs : List Loc) (ls : Array Slot), va_P D classes (mw M) H → va_D A (mw M) → va_S A s.heap H locs → lv_has ls 7 [(0, .ref x0), (2, .int x2), (3, .int x3), (6, .int x6)] → W p l e (rmw_mMa_run MC MS) s m args below meth c H locs κ σ (MQ below (va_Qi Φ (fun u t => Po D cy A (mw u) t) A) args s MC MS A) (F0 m 114 ls [.int y0])
def Iw_mMa_run_101 (p : Program) (l : Launch) (e : Env) (s : State) (m : MethodId) (args : Array Value) (below : List Frame) (meth : Method) (c : Code) (D : va_G) (cy : Nat → ClassId) (A : Nat → Prop) (ad : Nat → Nat) (mi MC MS : Nat) (Φ : Int32 → Mm → Prop) (k : Nat → Nat → Mm → Nat → Int32 → Int32 → Int32 → Prop) : Prop :=
  ∀ (κ σ : Nat) (M : Mm) (x0 : Nat) (x2 : Int32) (x3 : Int32) (x6 : Int32), k κ σ M x0 x2 x3 x6 → κ ≤ MC → σ ≤ MS → ∀ (H : Heap) (locs : List Loc) (ls : Array Slot), va_P D classes (mw M) H → va_D A (mw M) → va_S A s.heap H locs → lv_has ls 7 [(0, .ref x0), (2, .int x2), (3, .int x3), (6, .int x6)] → W p l e (rmw_mMa_run MC MS) s m args below meth c H locs κ σ (MQ below (va_Qi Φ (fun u t => Po D cy A (mw u) t) A) args s MC MS A) (F0 m 101 ls [])
def Iw_mMa_run_96 (p : Program) (l : Launch) (e : Env) (s : State) (m : MethodId) (args : Array Value) (below : List Frame) (meth : Method) (c : Code) (D : va_G) (cy : Nat → ClassId) (A : Nat → Prop) (ad : Nat → Nat) (mi MC MS : Nat) (Φ : Int32 → Mm → Prop) (k : Nat → Nat → Mm → Nat → Int32 → Int32 → Int32 → Prop) : Prop :=
  ∀ (κ σ : Nat) (M : Mm) (x0 : Nat) (x2 : Int32) (x3 : Int32) (y0 : Int32), k κ σ M x0 x2 x3 y0 → κ ≤ MC → σ ≤ MS → ∀ (H : Heap) (locs : List Loc) (ls : Array Slot), va_P D classes (mw M) H → va_D A (mw M) → va_S A s.heap H locs → lv_has ls 7 [(0, .ref x0), (2, .int x2), (3, .int x3)] → W p l e (rmw_mMa_run MC MS) s m args below meth c H locs κ σ (MQ below (va_Qi Φ (fun u t => Po D cy A (mw u) t) A) args s MC MS A) (F0 m 96 ls [.int y0])
def Iw_mMa_run_36 (p : Program) (l : Launch) (e : Env) (s : State) (m : MethodId) (args : Array Value) (below : List Frame) (meth : Method) (c : Code) (D : va_G) (cy : Nat → ClassId) (A : Nat → Prop) (ad : Nat → Nat) (mi MC MS : Nat) (Φ : Int32 → Mm → Prop) (k : Nat → Nat → Mm → Nat → Int32 → Int32 → Prop) : Prop :=
  ∀ (κ σ : Nat) (M : Mm) (x0 : Nat) (x2 : Int32) (x3 : Int32), k κ σ M x0 x2 x3 → κ ≤ MC → σ ≤ MS → ∀ (H : Heap) (locs : List Loc) (ls : Array Slot), va_P D classes (mw M) H → va_D A (mw M) → va_S A s.heap H locs → lv_has ls 7 [(0, .ref x0), (2, .int x2), (3, .int x3)] → W p l e (rmw_mMa_run MC MS) s m args below meth c H locs κ σ (MQ below (va_Qi Φ (fun u t => Po D cy A (mw u) t) A) args s MC MS A) (F0 m 36 ls [])
def Iw_mMa_run_e (p : Program) (l : Launch) (e : Env) (s : State) (m : MethodId) (args : Array Value) (below : List Frame) (meth : Method) (c : Code) (D : va_G) (cy : Nat → ClassId) (A : Nat → Prop) (ad : Nat → Nat) (mi MC MS : Nat) (Φ : Int32 → Mm → Prop) (k : Nat → Nat → Mm → Nat → Int32 → Prop) : Prop :=
  ∀ (κ σ : Nat) (M : Mm) (a0 : Nat) (a1 : Int32), k κ σ M a0 a1 → κ ≤ MC → σ ≤ MS → ∀ (H : Heap) (locs : List Loc) (ls : Array Slot), va_P D classes (mw M) H → va_D A (mw M) → va_S A s.heap H locs → lv_has ls 7 [(0, .ref a0), (1, .int a1)] → W p l e (rmw_mMa_run MC MS) s m args below meth c H locs κ σ (MQ below (va_Qi Φ (fun u t => Po D cy A (mw u) t) A) args s MC MS A) (F0 m 0 ls [])
set_option maxHeartbeats 8000000 in
set_option maxRecDepth 100000 in
theorem wv_mMa_run_281 {p : Program} {l : Launch} {e : Env} {s : State} {m : MethodId} {args : Array Value} {below : List Frame} {meth : Method} {c : Code} {D : va_G} {cy : Nat → ClassId} {A : Nat → Prop} {ad : Nat → Nat} {mi MC MS : Nat} {Φ : Int32 → Mm → Prop} {fu : Nat} {k_36 : Nat → Nat → Mm → Nat → Int32 → Int32 → Prop} (F : FxM p s m args meth c b_Ma_run 7 "CoinKeeper$Machine" "run" (some .boolean) D cy ad mi A) (hk_36 : Iw_mMa_run_36 p l e s m args below meth c D cy A ad mi MC MS Φ k_36) : Iw_mMa_run_281 p l e s m args below meth c D cy A ad mi MC MS Φ (xv_mMa_run_281 fu MC MS cy ad mi Φ k_36) := by
  obtain ⟨⟨hx, hb, hr, hml, hown, hts, hlocks, hK, hA, hSt, hnm, hex⟩, hT, hMi⟩ := id F
  intro κ σ M x0 x2 x3 x5 hf hkc hks H locs ls hP hD hS hl
  unfold xv_mMa_run_281 at hf
  refine lv_iload hx hb d_Ma_run_281 (lv_at hl 3 rfl) ?_
  refine lv_if_eq (tgt := 301) hx hb d_Ma_run_283 (by decide) (fun cx => ?_) (fun cx => ?_)
  · have hf := ifpP cx hf
    refine lv_iconst (v := 0) hx hb d_Ma_run_301 (by decide) ?_
    refine W.widen (k := MC) (n := MS) hkc hks ?_
    exact m_rz hf hx hb hr hlocks hK hP hD hS (isb_n (v := 0) (by decide)) d_Ma_run_302
  · have hf := ifnP cx hf
    refine lv_aload_n hx hb d_Ma_run_286 rfl (lv_at hl 0 rfl) ?_
    obtain ⟨fs_, hm_, v1, hv_, hf⟩ := hf
    obtain ⟨ix_, hi_⟩ := m_ix hm_
    refine va_get (D := D) (ci := 6) (v := .int v1) (C := "CoinKeeper$Machine") (T := F_6) (N := 19) hx hb hts i_6 hown hK hP ix_ hi_ rfl 8 (by decide) (hts _ gw_212) (fun _ h9 => h9) hv_ d_Ma_run_287 ?_
    clear hv_ hi_ hm_
    refine lv_aload_n hx hb d_Ma_run_290 rfl (lv_at hl 0 rfl) ?_
    obtain ⟨fs_, hm_, v2, hv_, hf⟩ := hf
    obtain ⟨ix_, hi_⟩ := m_ix hm_
    refine va_get (D := D) (ci := 6) (v := .int v2) (C := "CoinKeeper$Machine") (T := F_6) (N := 19) hx hb hts i_6 hown hK hP ix_ hi_ rfl 9 (by decide) (hts _ gw_213) (fun _ h9 => h9) hv_ d_Ma_run_291 ?_
    clear hv_ hi_ hm_
    refine lv_iadd hx hb d_Ma_run_294 ?_
    refine lv_topi (fun v3 ev => ?_)
    have hf := bnQ ev hf
    clear ev
    refine lv_sipush (v := 200) hx hb d_Ma_run_295 (by decide) ?_
    refine lv_icmp_le (tgt := 303) hx hb d_Ma_run_298 (by decide) (fun cx => ?_) (fun cx => ?_)
    · have hf := ifpP cx hf
      refine lv_goto (tgt := 36) hx hb d_Ma_run_303 (by decide) ?_
      exact hk_36 _ _ _ _ _ _ hf hkc hks _ _ _ hP hD hS (lv_sub hl [0, 1, 2] rfl)
    · have hf := ifnP cx hf
      refine lv_iconst (v := 0) hx hb d_Ma_run_301 (by decide) ?_
      refine W.widen (k := MC) (n := MS) hkc hks ?_
      exact m_rz hf hx hb hr hlocks hK hP hD hS (isb_n (v := 0) (by decide)) d_Ma_run_302
set_option maxHeartbeats 8000000 in
set_option maxRecDepth 100000 in
theorem wv_mMa_run_279 {p : Program} {l : Launch} {e : Env} {s : State} {m : MethodId} {args : Array Value} {below : List Frame} {meth : Method} {c : Code} {D : va_G} {cy : Nat → ClassId} {A : Nat → Prop} {ad : Nat → Nat} {mi MC MS : Nat} {Φ : Int32 → Mm → Prop} {fu : Nat} {k_36 : Nat → Nat → Mm → Nat → Int32 → Int32 → Prop} (F : FxM p s m args meth c b_Ma_run 7 "CoinKeeper$Machine" "run" (some .boolean) D cy ad mi A) (hk_36 : Iw_mMa_run_36 p l e s m args below meth c D cy A ad mi MC MS Φ k_36) : Iw_mMa_run_279 p l e s m args below meth c D cy A ad mi MC MS Φ (xv_mMa_run_279 fu MC MS cy ad mi Φ k_36) := by
  obtain ⟨⟨hx, hb, hr, hml, hown, hts, hlocks, hK, hA, hSt, hnm, hex⟩, hT, hMi⟩ := id F
  intro κ σ M x0 x2 x3 y0 hf hkc hks H locs ls hP hD hS hl
  unfold xv_mMa_run_279 at hf
  refine lv_istore (lv' := [(5, .int y0), (0, .ref x0), (2, .int x2), (3, .int x3)]) hx hb d_Ma_run_279 hl (by decide) rfl (fun ls hl => ?_)
  exact wv_mMa_run_281 (fu := fu) F hk_36 _ _ _ _ _ _ _ hf hkc hks _ _ _ hP hD hS (lv_sub hl [1, 2, 3, 0] rfl)
theorem hds_87 : ({ cls := "CoinKeeper$Machine", name := "checkMany", desc := "(I)Z" } : Jvm.MethodName).cls ≠ "java/lang/invoke/MethodHandle" ∧ ({ cls := "CoinKeeper$Machine", name := "checkMany", desc := "(I)Z" } : Jvm.MethodName).cls ≠ "java/lang/invoke/VarHandle" ∧ (parseMethodDescriptor ({ cls := "CoinKeeper$Machine", name := "checkMany", desc := "(I)Z" } : Jvm.MethodName).desc).map (fun d => d.parameters.length) = some 1 := by decide +kernel
set_option maxHeartbeats 8000000 in
set_option maxRecDepth 100000 in
theorem wv_mMa_run_239 {p : Program} {l : Launch} {e : Env} {s : State} {m : MethodId} {args : Array Value} {below : List Frame} {meth : Method} {c : Code} {D : va_G} {cy : Nat → ClassId} {A : Nat → Prop} {ad : Nat → Nat} {mi MC MS : Nat} {Φ : Int32 → Mm → Prop} {fu : Nat} {k_36 : Nat → Nat → Mm → Nat → Int32 → Int32 → Prop} (F : FxM p s m args meth c b_Ma_run 7 "CoinKeeper$Machine" "run" (some .boolean) D cy ad mi A) (hk_36 : Iw_mMa_run_36 p l e s m args below meth c D cy A ad mi MC MS Φ k_36) : Iw_mMa_run_239 p l e s m args below meth c D cy A ad mi MC MS Φ (xv_mMa_run_239 fu MC MS cy ad mi Φ k_36) := by
  obtain ⟨⟨hx, hb, hr, hml, hown, hts, hlocks, hK, hA, hSt, hnm, hex⟩, hT, hMi⟩ := id F
  intro κ σ M x0 x2 x3 x4 hf hkc hks H locs ls hP hD hS hl
  unfold xv_mMa_run_239 at hf
  refine lv_aload_n hx hb d_Ma_run_239 rfl (lv_at hl 0 rfl) ?_
  refine lv_iload hx hb d_Ma_run_240 (lv_at hl 3 rfl) ?_
  obtain ⟨fs_, hm_, hf⟩ := hf
  obtain ⟨ix_, hi_⟩ := m_ix hm_
  obtain ⟨mc1, ms2, ⟨hc_, hd_⟩, hf⟩ := hf
  refine mm_ai (va_runV (C := "CoinKeeper$Machine") (As := [.int x4]) (rest := []) ⟨hx, hb, hml, hown, hts⟩ (cw_mMa_checkMany l D cy ad mi fu mc1 ms2 x0 x4 M _ hf H.size) ⟨q_cB hts gw_1006 gw_6 gw_1003 hds_87 ⟨Nat.le_of_ble_eq_true rfl, Nat.le_of_ble_eq_true rfl⟩, hts _ gw_1005, hts _ gs_31⟩ (q_preVM (q_preM hP hD hK hSt hT hMi hS (m_free hD hS hA) _) (va_recv hK hP (ci := 6) (q0 := ix_) rfl hi_)) rfl rfl hl.1 rfl (lv_room (Nat.le_of_ble_eq_true rfl)) d_Ma_run_242 ⟨hc_, hd_⟩) hD hS hA (fun v4 M3 H locs hf hP hD hS => ?_)
  have hkc : κ + mc1 ≤ MC := hc_
  have hks : σ + ms2 ≤ MS := hd_
  clear hc_ hd_
  refine lv_goto (tgt := 279) hx hb d_Ma_run_245 (by decide) ?_
  exact wv_mMa_run_279 (fu := fu) F hk_36 _ _ _ _ _ _ _ hf hkc hks _ _ _ hP hD hS (lv_sub hl [0, 1, 2] rfl)
theorem hds_88 : ({ cls := "CoinKeeper$Machine", name := "checkOne", desc := "(I)Z" } : Jvm.MethodName).cls ≠ "java/lang/invoke/MethodHandle" ∧ ({ cls := "CoinKeeper$Machine", name := "checkOne", desc := "(I)Z" } : Jvm.MethodName).cls ≠ "java/lang/invoke/VarHandle" ∧ (parseMethodDescriptor ({ cls := "CoinKeeper$Machine", name := "checkOne", desc := "(I)Z" } : Jvm.MethodName).desc).map (fun d => d.parameters.length) = some 1 := by decide +kernel
set_option maxHeartbeats 8000000 in
set_option maxRecDepth 100000 in
theorem wv_mMa_run_264 {p : Program} {l : Launch} {e : Env} {s : State} {m : MethodId} {args : Array Value} {below : List Frame} {meth : Method} {c : Code} {D : va_G} {cy : Nat → ClassId} {A : Nat → Prop} {ad : Nat → Nat} {mi MC MS : Nat} {Φ : Int32 → Mm → Prop} {fu : Nat} {k_36 : Nat → Nat → Mm → Nat → Int32 → Int32 → Prop} (F : FxM p s m args meth c b_Ma_run 7 "CoinKeeper$Machine" "run" (some .boolean) D cy ad mi A) (hk_36 : Iw_mMa_run_36 p l e s m args below meth c D cy A ad mi MC MS Φ k_36) : Iw_mMa_run_264 p l e s m args below meth c D cy A ad mi MC MS Φ (xv_mMa_run_264 fu MC MS cy ad mi Φ k_36) := by
  obtain ⟨⟨hx, hb, hr, hml, hown, hts, hlocks, hK, hA, hSt, hnm, hex⟩, hT, hMi⟩ := id F
  intro κ σ M x0 x2 x3 x4 hf hkc hks H locs ls hP hD hS hl
  unfold xv_mMa_run_264 at hf
  refine lv_aload_n hx hb d_Ma_run_264 rfl (lv_at hl 0 rfl) ?_
  refine lv_iload hx hb d_Ma_run_265 (lv_at hl 3 rfl) ?_
  obtain ⟨fs_, hm_, hf⟩ := hf
  obtain ⟨ix_, hi_⟩ := m_ix hm_
  obtain ⟨mc1, ms2, ⟨hc_, hd_⟩, hf⟩ := hf
  refine mm_ai (va_runV (C := "CoinKeeper$Machine") (As := [.int x4]) (rest := []) ⟨hx, hb, hml, hown, hts⟩ (cw_mMa_checkOne l D cy ad mi fu mc1 ms2 x0 x4 M _ hf H.size) ⟨q_cB hts gw_1175 gw_6 gw_1172 hds_88 ⟨Nat.le_of_ble_eq_true rfl, Nat.le_of_ble_eq_true rfl⟩, hts _ gw_1174, hts _ gs_43⟩ (q_preVM (q_preM hP hD hK hSt hT hMi hS (m_free hD hS hA) _) (va_recv hK hP (ci := 6) (q0 := ix_) rfl hi_)) rfl rfl hl.1 rfl (lv_room (Nat.le_of_ble_eq_true rfl)) d_Ma_run_267 ⟨hc_, hd_⟩) hD hS hA (fun v4 M3 H locs hf hP hD hS => ?_)
  have hkc : κ + mc1 ≤ MC := hc_
  have hks : σ + ms2 ≤ MS := hd_
  clear hc_ hd_
  refine lv_goto (tgt := 279) hx hb d_Ma_run_270 (by decide) ?_
  exact wv_mMa_run_279 (fu := fu) F hk_36 _ _ _ _ _ _ _ hf hkc hks _ _ _ hP hD hS (lv_sub hl [0, 1, 2] rfl)
theorem hds_89 : ({ cls := "CoinKeeper$Machine", name := "perform", desc := "(I)Z" } : Jvm.MethodName).cls ≠ "java/lang/invoke/MethodHandle" ∧ ({ cls := "CoinKeeper$Machine", name := "perform", desc := "(I)Z" } : Jvm.MethodName).cls ≠ "java/lang/invoke/VarHandle" ∧ (parseMethodDescriptor ({ cls := "CoinKeeper$Machine", name := "perform", desc := "(I)Z" } : Jvm.MethodName).desc).map (fun d => d.parameters.length) = some 1 := by decide +kernel
set_option maxHeartbeats 8000000 in
set_option maxRecDepth 100000 in
theorem wv_mMa_run_216 {p : Program} {l : Launch} {e : Env} {s : State} {m : MethodId} {args : Array Value} {below : List Frame} {meth : Method} {c : Code} {D : va_G} {cy : Nat → ClassId} {A : Nat → Prop} {ad : Nat → Nat} {mi MC MS : Nat} {Φ : Int32 → Mm → Prop} {fu : Nat} {k_36 : Nat → Nat → Mm → Nat → Int32 → Int32 → Prop} (F : FxM p s m args meth c b_Ma_run 7 "CoinKeeper$Machine" "run" (some .boolean) D cy ad mi A) (hk_36 : Iw_mMa_run_36 p l e s m args below meth c D cy A ad mi MC MS Φ k_36) : Iw_mMa_run_216 p l e s m args below meth c D cy A ad mi MC MS Φ (xv_mMa_run_216 fu MC MS cy ad mi Φ k_36) := by
  obtain ⟨⟨hx, hb, hr, hml, hown, hts, hlocks, hK, hA, hSt, hnm, hex⟩, hT, hMi⟩ := id F
  intro κ σ M x0 x2 x3 x4 x5 hf hkc hks H locs ls hP hD hS hl
  unfold xv_mMa_run_216 at hf
  refine lv_aload_n hx hb d_Ma_run_216 rfl (lv_at hl 0 rfl) ?_
  obtain ⟨fs_, hm_, v1, hv_, hf⟩ := hf
  obtain ⟨ix_, hi_⟩ := m_ix hm_
  refine va_get (D := D) (ci := 6) (v := .int v1) (C := "CoinKeeper$Machine") (T := F_6) (N := 19) hx hb hts i_6 hown hK hP ix_ hi_ rfl 12 (by decide) (hts _ gw_216) (fun _ h9 => h9) hv_ d_Ma_run_217 ?_
  clear hv_ hi_ hm_
  refine lv_if_ne (tgt := 281) hx hb d_Ma_run_220 (by decide) (fun cx => ?_) (fun cx => ?_)
  · have hf := ifnP cx hf
    exact wv_mMa_run_281 (fu := fu) F hk_36 _ _ _ _ _ _ _ hf hkc hks _ _ _ hP hD hS (lv_sub hl [0, 1, 2, 4] rfl)
  · have hf := ifpP cx hf
    refine lv_iload hx hb d_Ma_run_223 (lv_at hl 3 rfl) ?_
    refine lv_sipush (v := 174) hx hb d_Ma_run_225 (by decide) ?_
    refine lv_icmp_eq (tgt := 239) hx hb d_Ma_run_228 (by decide) (fun cx => ?_) (fun cx => ?_)
    · have hf := ifpP cx hf
      exact wv_mMa_run_239 (fu := fu) F hk_36 _ _ _ _ _ _ _ hf hkc hks _ _ _ hP hD hS (lv_sub hl [0, 1, 2, 3] rfl)
    · have hf := ifnP cx hf
      refine lv_iload hx hb d_Ma_run_231 (lv_at hl 3 rfl) ?_
      refine lv_sipush (v := 175) hx hb d_Ma_run_233 (by decide) ?_
      refine lv_icmp_ne (tgt := 248) hx hb d_Ma_run_236 (by decide) (fun cx => ?_) (fun cx => ?_)
      · have hf := ifnP cx hf
        refine lv_iload hx hb d_Ma_run_248 (lv_at hl 3 rfl) ?_
        refine lv_sipush (v := 172) hx hb d_Ma_run_250 (by decide) ?_
        refine lv_icmp_eq (tgt := 264) hx hb d_Ma_run_253 (by decide) (fun cx => ?_) (fun cx => ?_)
        · have hf := ifpP cx hf
          exact wv_mMa_run_264 (fu := fu) F hk_36 _ _ _ _ _ _ _ hf hkc hks _ _ _ hP hD hS (lv_sub hl [0, 1, 2, 3] rfl)
        · have hf := ifnP cx hf
          refine lv_iload hx hb d_Ma_run_256 (lv_at hl 3 rfl) ?_
          refine lv_sipush (v := 173) hx hb d_Ma_run_258 (by decide) ?_
          refine lv_icmp_ne (tgt := 273) hx hb d_Ma_run_261 (by decide) (fun cx => ?_) (fun cx => ?_)
          · have hf := ifnP cx hf
            refine lv_aload_n hx hb d_Ma_run_273 rfl (lv_at hl 0 rfl) ?_
            refine lv_iload hx hb d_Ma_run_274 (lv_at hl 3 rfl) ?_
            obtain ⟨b2, b3, b4, b5, b6, b7, b8, b9, b10, b11, b12, b13, b14, b15, b16, b17, b18, c19, c20, c21, c22, c23, c24, c25, c26, c27, c28, c29, c30, c31, c32, c33, c34, c35, c36, c37, c38, c39, hal_, hnd_, v40, c41, c42, c43, c44, c45, c46, c47, c48, c49, c50, c51, c52, c53, c54, c55, hc, hf⟩ := hf
            refine m_li (va_runV (C := "CoinKeeper$Machine") (As := [.int x4]) (rest := []) ⟨hx, hb, hml, hown, hts⟩ (c_Ma_perform l D cy ad fu x0 b2 b3 b4 b5 b6 b7 b8 b9 b10 b11 b12 b13 b14 b15 b16 b17 b18 c19 c20 c21 c22 c23 c24 x4 c25 c26 c27 c28 c29 c30 c31 c32 c33 c34 c35 c36 c37 c38 c39 _ hc H.size) ⟨q_cB hts gw_1179 gw_6 gw_1176 hds_89 ⟨Nat.le_of_ble_eq_true rfl, Nat.le_of_ble_eq_true rfl⟩, hts _ gw_1178, hts _ gs_44⟩ (q_preV (q_pre (m_subP hP hal_) (m_subD hD hal_ hnd_) hK hSt hS (m_lF hD hS hA hal_) _) (va_recv hK (m_subP hP hal_) (ci := 6) (q0 := 0) rfl rfl)) rfl rfl hl.1 rfl (lv_room (Nat.le_of_ble_eq_true rfl)) d_Ma_run_276 ⟨hkc, hks⟩) hP hD hS hA hal_ rfl (fun H locs hP hD hS => ?_)
            refine W.widen (k := κ) (n := σ) (Nat.le_refl _) (Nat.le_refl _) ?_
            obtain ⟨M56, eM_, hf⟩ := bnP hf
            have hP : va_P D classes (mw M56) H := by rw [eM_]; exact hP
            have hD : va_D A (mw M56) := by rw [eM_]; exact hD
            clear eM_ hal_ hnd_ hc
            exact wv_mMa_run_279 (fu := fu) F hk_36 _ _ _ _ _ _ _ hf hkc hks _ _ _ hP hD hS (lv_sub hl [0, 1, 2] rfl)
          · have hf := ifpP cx hf
            exact wv_mMa_run_264 (fu := fu) F hk_36 _ _ _ _ _ _ _ hf hkc hks _ _ _ hP hD hS (lv_sub hl [0, 1, 2, 3] rfl)
      · have hf := ifpP cx hf
        exact wv_mMa_run_239 (fu := fu) F hk_36 _ _ _ _ _ _ _ hf hkc hks _ _ _ hP hD hS (lv_sub hl [0, 1, 2, 3] rfl)
theorem hds_90 : ({ cls := "CoinKeeper$Machine", name := "branch", desc := "(I)Z" } : Jvm.MethodName).cls ≠ "java/lang/invoke/MethodHandle" ∧ ({ cls := "CoinKeeper$Machine", name := "branch", desc := "(I)Z" } : Jvm.MethodName).cls ≠ "java/lang/invoke/VarHandle" ∧ (parseMethodDescriptor ({ cls := "CoinKeeper$Machine", name := "branch", desc := "(I)Z" } : Jvm.MethodName).desc).map (fun d => d.parameters.length) = some 1 := by decide +kernel
set_option maxHeartbeats 8000000 in
set_option maxRecDepth 100000 in
theorem wv_mMa_run_177 {p : Program} {l : Launch} {e : Env} {s : State} {m : MethodId} {args : Array Value} {below : List Frame} {meth : Method} {c : Code} {D : va_G} {cy : Nat → ClassId} {A : Nat → Prop} {ad : Nat → Nat} {mi MC MS : Nat} {Φ : Int32 → Mm → Prop} {fu : Nat} {k_36 : Nat → Nat → Mm → Nat → Int32 → Int32 → Prop} (F : FxM p s m args meth c b_Ma_run 7 "CoinKeeper$Machine" "run" (some .boolean) D cy ad mi A) (hk_36 : Iw_mMa_run_36 p l e s m args below meth c D cy A ad mi MC MS Φ k_36) : Iw_mMa_run_177 p l e s m args below meth c D cy A ad mi MC MS Φ (xv_mMa_run_177 fu MC MS cy ad mi Φ k_36) := by
  obtain ⟨⟨hx, hb, hr, hml, hown, hts, hlocks, hK, hA, hSt, hnm, hex⟩, hT, hMi⟩ := id F
  intro κ σ M x0 x2 x3 x4 x5 hf hkc hks H locs ls hP hD hS hl
  unfold xv_mMa_run_177 at hf
  refine lv_iload hx hb d_Ma_run_177 (lv_at hl 3 rfl) ?_
  refine lv_bipush (v := 99) hx hb d_Ma_run_179 (by decide) ?_
  refine lv_icmp_lt (tgt := 216) hx hb d_Ma_run_181 (by decide) (fun cx => ?_) (fun cx => ?_)
  · have hf := ifpP cx hf
    exact wv_mMa_run_216 (fu := fu) F hk_36 _ _ _ _ _ _ _ _ hf hkc hks _ _ _ hP hD hS (lv_sub hl [0, 1, 2, 3, 4] rfl)
  · have hf := ifnP cx hf
    refine lv_iload hx hb d_Ma_run_184 (lv_at hl 3 rfl) ?_
    refine lv_bipush (v := 104) hx hb d_Ma_run_186 (by decide) ?_
    refine lv_icmp_gt (tgt := 216) hx hb d_Ma_run_188 (by decide) (fun cx => ?_) (fun cx => ?_)
    · have hf := ifpP cx hf
      exact wv_mMa_run_216 (fu := fu) F hk_36 _ _ _ _ _ _ _ _ hf hkc hks _ _ _ hP hD hS (lv_sub hl [0, 1, 2, 3, 4] rfl)
    · have hf := ifnP cx hf
      refine lv_iload hx hb d_Ma_run_191 (lv_at hl 3 rfl) ?_
      refine lv_bipush (v := 101) hx hb d_Ma_run_193 (by decide) ?_
      refine lv_icmp_eq (tgt := 216) hx hb d_Ma_run_195 (by decide) (fun cx => ?_) (fun cx => ?_)
      · have hf := ifpP cx hf
        exact wv_mMa_run_216 (fu := fu) F hk_36 _ _ _ _ _ _ _ _ hf hkc hks _ _ _ hP hD hS (lv_sub hl [0, 1, 2, 3, 4] rfl)
      · have hf := ifnP cx hf
        refine lv_iload hx hb d_Ma_run_198 (lv_at hl 3 rfl) ?_
        refine lv_bipush (v := 102) hx hb d_Ma_run_200 (by decide) ?_
        refine lv_icmp_eq (tgt := 216) hx hb d_Ma_run_202 (by decide) (fun cx => ?_) (fun cx => ?_)
        · have hf := ifpP cx hf
          exact wv_mMa_run_216 (fu := fu) F hk_36 _ _ _ _ _ _ _ _ hf hkc hks _ _ _ hP hD hS (lv_sub hl [0, 1, 2, 3, 4] rfl)
        · have hf := ifnP cx hf
          refine lv_aload_n hx hb d_Ma_run_205 rfl (lv_at hl 0 rfl) ?_
          refine lv_iload hx hb d_Ma_run_206 (lv_at hl 3 rfl) ?_
          obtain ⟨b1, b2, b3, b4, b5, b6, b7, b8, b9, b10, c11, c12, c13, c14, c15, c16, c17, c18, c19, c20, c21, c22, hal_, hnd_, v23, c24, c25, c26, c27, hc, hf⟩ := hf
          refine m_li (va_runV (C := "CoinKeeper$Machine") (As := [.int x4]) (rest := []) ⟨hx, hb, hml, hown, hts⟩ (c_Ma_branch l D cy ad fu x0 b1 b2 b3 b4 b5 b6 b7 b8 b9 b10 c11 c12 c13 c14 c15 c16 c17 c18 x4 c19 c20 c21 c22 _ hc H.size) ⟨q_cB hts gw_992 gw_6 gw_989 hds_90 ⟨Nat.le_of_ble_eq_true rfl, Nat.le_of_ble_eq_true rfl⟩, hts _ gw_991, hts _ gs_29⟩ (q_preV (q_pre (m_subP hP hal_) (m_subD hD hal_ hnd_) hK hSt hS (m_lF hD hS hA hal_) _) (va_recv hK (m_subP hP hal_) (ci := 6) (q0 := 0) rfl rfl)) rfl rfl hl.1 rfl (lv_room (Nat.le_of_ble_eq_true rfl)) d_Ma_run_208 ⟨hkc, hks⟩) hP hD hS hA hal_ rfl (fun H locs hP hD hS => ?_)
          refine W.widen (k := κ) (n := σ) (Nat.le_refl _) (Nat.le_refl _) ?_
          obtain ⟨M28, eM_, hf⟩ := bnP hf
          have hP : va_P D classes (mw M28) H := by rw [eM_]; exact hP
          have hD : va_D A (mw M28) := by rw [eM_]; exact hD
          clear eM_ hal_ hnd_ hc
          refine lv_istore (lv' := [(5, .int v23), (0, .ref x0), (2, .int x2), (3, .int x3), (4, .int x4)]) hx hb d_Ma_run_211 hl (by decide) rfl (fun ls hl => ?_)
          refine lv_goto (tgt := 281) hx hb d_Ma_run_213 (by decide) ?_
          exact wv_mMa_run_281 (fu := fu) F hk_36 _ _ _ _ _ _ _ hf hkc hks _ _ _ hP hD hS (lv_sub hl [1, 2, 3, 0] rfl)
set_option maxHeartbeats 8000000 in
set_option maxRecDepth 100000 in
theorem wv_mMa_run_139 {p : Program} {l : Launch} {e : Env} {s : State} {m : MethodId} {args : Array Value} {below : List Frame} {meth : Method} {c : Code} {D : va_G} {cy : Nat → ClassId} {A : Nat → Prop} {ad : Nat → Nat} {mi MC MS : Nat} {Φ : Int32 → Mm → Prop} {fu : Nat} {k_36 : Nat → Nat → Mm → Nat → Int32 → Int32 → Prop} (F : FxM p s m args meth c b_Ma_run 7 "CoinKeeper$Machine" "run" (some .boolean) D cy ad mi A) (hk_36 : Iw_mMa_run_36 p l e s m args below meth c D cy A ad mi MC MS Φ k_36) : Iw_mMa_run_139 p l e s m args below meth c D cy A ad mi MC MS Φ (xv_mMa_run_139 fu MC MS cy ad mi Φ k_36) := by
  obtain ⟨⟨hx, hb, hr, hml, hown, hts, hlocks, hK, hA, hSt, hnm, hex⟩, hT, hMi⟩ := id F
  intro κ σ M x0 x2 x3 x5 x6 hf hkc hks H locs ls hP hD hS hl
  unfold xv_mMa_run_139 at hf
  refine lv_iload_n hx hb d_Ma_run_139 rfl (lv_at hl 1 rfl) ?_
  refine lv_iload hx hb d_Ma_run_140 (lv_at hl 4 rfl) ?_
  refine lv_iadd hx hb d_Ma_run_142 ?_
  refine lv_topi (fun v1 ev => ?_)
  have hf := bnQ ev hf
  clear ev
  refine lv_istore_n (lv' := [(2, .int v1), (0, .ref x0), (3, .int x3), (5, .int x5), (6, .int x6)]) hx hb d_Ma_run_143 rfl hl (by decide) rfl (fun ls hl => ?_)
  refine lv_goto (tgt := 281) hx hb d_Ma_run_144 (by decide) ?_
  exact wv_mMa_run_281 (fu := fu) F hk_36 _ _ _ _ _ _ _ hf hkc hks _ _ _ hP hD hS (lv_sub hl [1, 0, 2, 3] rfl)
set_option maxHeartbeats 8000000 in
set_option maxRecDepth 100000 in
theorem wv_mMa_run_114 {p : Program} {l : Launch} {e : Env} {s : State} {m : MethodId} {args : Array Value} {below : List Frame} {meth : Method} {c : Code} {D : va_G} {cy : Nat → ClassId} {A : Nat → Prop} {ad : Nat → Nat} {mi MC MS : Nat} {Φ : Int32 → Mm → Prop} {fu : Nat} {k_36 : Nat → Nat → Mm → Nat → Int32 → Int32 → Prop} (F : FxM p s m args meth c b_Ma_run 7 "CoinKeeper$Machine" "run" (some .boolean) D cy ad mi A) (hk_36 : Iw_mMa_run_36 p l e s m args below meth c D cy A ad mi MC MS Φ k_36) : Iw_mMa_run_114 p l e s m args below meth c D cy A ad mi MC MS Φ (xv_mMa_run_114 fu MC MS cy ad mi Φ k_36) := by
  obtain ⟨⟨hx, hb, hr, hml, hown, hts, hlocks, hK, hA, hSt, hnm, hex⟩, hT, hMi⟩ := id F
  intro κ σ M x0 x2 x3 x6 y0 hf hkc hks H locs ls hP hD hS hl
  unfold xv_mMa_run_114 at hf
  refine lv_istore (lv' := [(5, .int y0), (0, .ref x0), (2, .int x2), (3, .int x3), (6, .int x6)]) hx hb d_Ma_run_114 hl (by decide) rfl (fun ls hl => ?_)
  refine lv_iload hx hb d_Ma_run_116 (lv_at hl 0 rfl) ?_
  refine lv_if_eq (tgt := 139) hx hb d_Ma_run_118 (by decide) (fun cx => ?_) (fun cx => ?_)
  · have hf := ifpP cx hf
    exact wv_mMa_run_139 (fu := fu) F hk_36 _ _ _ _ _ _ _ _ hf hkc hks _ _ _ hP hD hS (lv_sub hl [1, 2, 3, 0, 4] rfl)
  · have hf := ifnP cx hf
    refine lv_aload_n hx hb d_Ma_run_121 rfl (lv_at hl 1 rfl) ?_
    obtain ⟨fs_, hm_, v1, hv_, hf⟩ := hf
    obtain ⟨ix_, hi_⟩ := m_ix hm_
    refine va_get (D := D) (ci := 6) (v := .int v1) (C := "CoinKeeper$Machine") (T := F_6) (N := 19) hx hb hts i_6 hown hK hP ix_ hi_ rfl 12 (by decide) (hts _ gw_216) (fun _ h9 => h9) hv_ d_Ma_run_122 ?_
    clear hv_ hi_ hm_
    refine lv_if_ne (tgt := 139) hx hb d_Ma_run_125 (by decide) (fun cx => ?_) (fun cx => ?_)
    · have hf := ifnP cx hf
      exact wv_mMa_run_139 (fu := fu) F hk_36 _ _ _ _ _ _ _ _ hf hkc hks _ _ _ hP hD hS (lv_sub hl [1, 2, 3, 0, 4] rfl)
    · have hf := ifpP cx hf
      refine lv_aload_n hx hb d_Ma_run_128 rfl (lv_at hl 1 rfl) ?_
      refine lv_iload_n hx hb d_Ma_run_129 rfl (lv_at hl 2 rfl) ?_
      refine lv_bipush (v := 8) hx hb d_Ma_run_130 (by decide) ?_
      refine lv_ishl hx hb d_Ma_run_132 ?_
      refine lv_topi (fun v2 ev => ?_)
      have hf := bnQ ev hf
      clear ev
      refine lv_iload hx hb d_Ma_run_133 (lv_at hl 4 rfl) ?_
      refine lv_ior hx hb d_Ma_run_135 ?_
      refine lv_topi (fun v3 ev => ?_)
      have hf := bnQ ev hf
      clear ev
      obtain ⟨b4, b5, b6, b7, b8, b9, b10, b11, b12, b13, c14, c15, c16, c17, c18, c19, c20, c21, c22, c23, hal_, hnd_, c24, c25, hc, hf⟩ := hf
      refine m_lv (va_runV (C := "CoinKeeper$Machine") (As := [.int v3]) (rest := []) ⟨hx, hb, hml, hown, hts⟩ (c_Ma_push l D cy ad fu x0 b4 b5 b6 b7 b8 b9 b10 b11 b12 b13 c14 c15 c16 c17 c18 c19 c20 c21 v3 c22 c23 _ hc H.size) ⟨q_cB hts gw_988 gw_6 gw_985 hds_80 ⟨Nat.le_of_ble_eq_true rfl, Nat.le_of_ble_eq_true rfl⟩, hts _ gw_987, hts _ gs_28⟩ (q_preV (q_pre (m_subP hP hal_) (m_subD hD hal_ hnd_) hK hSt hS (m_lF hD hS hA hal_) _) (va_recv hK (m_subP hP hal_) (ci := 6) (q0 := 0) rfl rfl)) rfl rfl hl.1 rfl (lv_room (Nat.le_of_ble_eq_true rfl)) d_Ma_run_136 ⟨hkc, hks⟩) hP hD hS hA hal_ rfl (fun H locs hP hD hS => ?_)
      refine W.widen (k := κ) (n := σ) (Nat.le_refl _) (Nat.le_refl _) ?_
      obtain ⟨M26, eM_, hf⟩ := bnP hf
      have hP : va_P D classes (mw M26) H := by rw [eM_]; exact hP
      have hD : va_D A (mw M26) := by rw [eM_]; exact hD
      clear eM_ hal_ hnd_ hc
      exact wv_mMa_run_139 (fu := fu) F hk_36 _ _ _ _ _ _ _ _ hf hkc hks _ _ _ hP hD hS (lv_sub hl [1, 2, 3, 0, 4] rfl)
set_option maxHeartbeats 8000000 in
set_option maxRecDepth 100000 in
theorem wv_mMa_run_101 {p : Program} {l : Launch} {e : Env} {s : State} {m : MethodId} {args : Array Value} {below : List Frame} {meth : Method} {c : Code} {D : va_G} {cy : Nat → ClassId} {A : Nat → Prop} {ad : Nat → Nat} {mi MC MS : Nat} {Φ : Int32 → Mm → Prop} {fu : Nat} {k_36 : Nat → Nat → Mm → Nat → Int32 → Int32 → Prop} (F : FxM p s m args meth c b_Ma_run 7 "CoinKeeper$Machine" "run" (some .boolean) D cy ad mi A) (hk_36 : Iw_mMa_run_36 p l e s m args below meth c D cy A ad mi MC MS Φ k_36) : Iw_mMa_run_101 p l e s m args below meth c D cy A ad mi MC MS Φ (xv_mMa_run_101 fu MC MS cy ad mi Φ k_36) := by
  obtain ⟨⟨hx, hb, hr, hml, hown, hts, hlocks, hK, hA, hSt, hnm, hex⟩, hT, hMi⟩ := id F
  intro κ σ M x0 x2 x3 x6 hf hkc hks H locs ls hP hD hS hl
  unfold xv_mMa_run_101 at hf
  refine lv_iload hx hb d_Ma_run_101 (lv_at hl 3 rfl) ?_
  refine lv_iload_n hx hb d_Ma_run_103 rfl (lv_at hl 2 rfl) ?_
  refine lv_iload_n hx hb d_Ma_run_104 rfl (lv_at hl 1 rfl) ?_
  refine lv_isub hx hb d_Ma_run_105 ?_
  refine lv_icmp_gt (tgt := 113) hx hb d_Ma_run_106 (by decide) (fun cx => ?_) (fun cx => ?_)
  · have hf := ifpP cx hf
    refine lv_iconst (v := 0) hx hb d_Ma_run_113 (by decide) ?_
    exact wv_mMa_run_114 (fu := fu) F hk_36 _ _ _ _ _ _ _ _ hf hkc hks _ _ _ hP hD hS (lv_sub hl [0, 1, 2, 3] rfl)
  · have hf := ifnP cx hf
    refine lv_iconst (v := 1) hx hb d_Ma_run_109 (by decide) ?_
    refine lv_goto (tgt := 114) hx hb d_Ma_run_110 (by decide) ?_
    exact wv_mMa_run_114 (fu := fu) F hk_36 _ _ _ _ _ _ _ _ hf hkc hks _ _ _ hP hD hS (lv_sub hl [0, 1, 2, 3] rfl)
set_option maxHeartbeats 8000000 in
set_option maxRecDepth 100000 in
theorem wv_mMa_run_96 {p : Program} {l : Launch} {e : Env} {s : State} {m : MethodId} {args : Array Value} {below : List Frame} {meth : Method} {c : Code} {D : va_G} {cy : Nat → ClassId} {A : Nat → Prop} {ad : Nat → Nat} {mi MC MS : Nat} {Φ : Int32 → Mm → Prop} {fu : Nat} {k_36 : Nat → Nat → Mm → Nat → Int32 → Int32 → Prop} (F : FxM p s m args meth c b_Ma_run 7 "CoinKeeper$Machine" "run" (some .boolean) D cy ad mi A) (hk_36 : Iw_mMa_run_36 p l e s m args below meth c D cy A ad mi MC MS Φ k_36) : Iw_mMa_run_96 p l e s m args below meth c D cy A ad mi MC MS Φ (xv_mMa_run_96 fu MC MS cy ad mi Φ k_36) := by
  obtain ⟨⟨hx, hb, hr, hml, hown, hts, hlocks, hK, hA, hSt, hnm, hex⟩, hT, hMi⟩ := id F
  intro κ σ M x0 x2 x3 y0 hf hkc hks H locs ls hP hD hS hl
  unfold xv_mMa_run_96 at hf
  refine lv_istore (lv' := [(6, .int y0), (0, .ref x0), (2, .int x2), (3, .int x3)]) hx hb d_Ma_run_96 hl (by decide) rfl (fun ls hl => ?_)
  obtain ⟨v1, ev, hf⟩ := bnP hf
  refine lv_iinc (v := v1) (lv' := [(2, .int v1), (6, .int y0), (0, .ref x0), (3, .int x3)]) hx hb d_Ma_run_98 hl (k := 2) rfl (by rw [ev]; rfl) (by decide) rfl (fun ls hl => ?_)
  clear ev
  exact wv_mMa_run_101 (fu := fu) F hk_36 _ _ _ _ _ _ _ hf hkc hks _ _ _ hP hD hS (lv_sub hl [2, 0, 3, 1] rfl)
set_option maxHeartbeats 8000000 in
set_option maxRecDepth 100000 in
theorem wv_mMa_run_36 {p : Program} {l : Launch} {e : Env} {s : State} {m : MethodId} {args : Array Value} {below : List Frame} {meth : Method} {c : Code} {D : va_G} {cy : Nat → ClassId} {A : Nat → Prop} {ad : Nat → Nat} {mi MC MS : Nat} {Φ : Int32 → Mm → Prop} {fu : Nat} {k_36 : Nat → Nat → Mm → Nat → Int32 → Int32 → Prop} (F : FxM p s m args meth c b_Ma_run 7 "CoinKeeper$Machine" "run" (some .boolean) D cy ad mi A) (hk_36 : Iw_mMa_run_36 p l e s m args below meth c D cy A ad mi MC MS Φ k_36) : Iw_mMa_run_36 p l e s m args below meth c D cy A ad mi MC MS Φ (xv_mMa_run_36 fu MC MS cy ad mi Φ k_36) := by
  obtain ⟨⟨hx, hb, hr, hml, hown, hts, hlocks, hK, hA, hSt, hnm, hex⟩, hT, hMi⟩ := id F
  intro κ σ M x0 x2 x3 hf hkc hks H locs ls hP hD hS hl
  unfold xv_mMa_run_36 at hf
  refine lv_iload_n hx hb d_Ma_run_36 rfl (lv_at hl 1 rfl) ?_
  refine lv_iload_n hx hb d_Ma_run_37 rfl (lv_at hl 2 rfl) ?_
  refine lv_icmp_ge (tgt := 306) hx hb d_Ma_run_38 (by decide) (fun cx => ?_) (fun cx => ?_)
  · have hf := ifpP cx hf
    refine lv_aload_n hx hb d_Ma_run_306 rfl (lv_at hl 0 rfl) ?_
    obtain ⟨fs_, hm_, v1, hv_, hf⟩ := hf
    obtain ⟨ix_, hi_⟩ := m_ix hm_
    refine va_get (D := D) (ci := 6) (v := .int v1) (C := "CoinKeeper$Machine") (T := F_6) (N := 19) hx hb hts i_6 hown hK hP ix_ hi_ rfl 11 (by decide) (hts _ gw_215) (fun _ h9 => h9) hv_ d_Ma_run_307 ?_
    clear hv_ hi_ hm_
    refine lv_if_ne (tgt := 317) hx hb d_Ma_run_310 (by decide) (fun cx => ?_) (fun cx => ?_)
    · have hf := ifnP cx hf
      refine lv_iconst (v := 0) hx hb d_Ma_run_317 (by decide) ?_
      refine W.widen (k := MC) (n := MS) hkc hks ?_
      exact m_rz hf hx hb hr hlocks hK hP hD hS (isb_n (v := 0) (by decide)) d_Ma_run_318
    · have hf := ifpP cx hf
      refine lv_iconst (v := 1) hx hb d_Ma_run_313 (by decide) ?_
      refine lv_goto (tgt := 318) hx hb d_Ma_run_314 (by decide) ?_
      refine W.widen (k := MC) (n := MS) hkc hks ?_
      exact m_rz hf hx hb hr hlocks hK hP hD hS (isb_n (v := 1) (by decide)) d_Ma_run_318
  · have hf := ifnP cx hf
    refine lv_aload_n hx hb d_Ma_run_41 rfl (lv_at hl 0 rfl) ?_
    obtain ⟨fs_, hm_, r2, hv_, hf⟩ := hf
    obtain ⟨ix_, hi_⟩ := m_ix hm_
    refine va_get (D := D) (ci := 6) (v := va_rf r2) (C := "CoinKeeper$Machine") (T := F_6) (N := 19) hx hb hts i_6 hown hK hP ix_ hi_ rfl 3 (by decide) (hts _ gw_207) (fun _ h9 => h9) hv_ d_Ma_run_42 ?_
    clear hv_ hi_ hm_
    obtain ⟨q3, rfl, hf⟩ := hf
    refine W.eq (g2 := F0 m 45 ls [.ref q3]) rfl ?_
    refine lv_iload_n hx hb d_Ma_run_45 rfl (lv_at hl 1 rfl) ?_
    obtain ⟨n_, f_, hm_, hin_, hf⟩ := hf
    obtain ⟨ix_, hi_⟩ := m_ix hm_
    refine va_bald hx hb hK hP ix_ 0 hi_ rfl (inb_in hin_) d_Ma_run_46 ?_
    obtain ⟨v4, ev⟩ : ∃ z, z = f_ x2.toNatClampNeg := ⟨_, rfl⟩
    first | rw [← ev] at hf ⊢ | rw [← ev]
    clear ev hi_ hm_ hin_
    refine lv_sipush (v := 255) hx hb d_Ma_run_47 (by decide) ?_
    refine lv_iand hx hb d_Ma_run_50 ?_
    refine lv_topi (fun v5 ev => ?_)
    have hf := bnQ ev hf
    clear ev
    refine lv_istore (lv' := [(4, .int v5), (0, .ref x0), (2, .int x2), (3, .int x3)]) hx hb d_Ma_run_51 hl (by decide) rfl (fun ls hl => ?_)
    obtain ⟨v6, ev, hf⟩ := bnP hf
    refine lv_iinc (v := v6) (lv' := [(2, .int v6), (4, .int v5), (0, .ref x0), (3, .int x3)]) hx hb d_Ma_run_53 hl (k := 2) rfl (by rw [ev]; rfl) (by decide) rfl (fun ls hl => ?_)
    clear ev
    refine lv_iconst (v := 1) hx hb d_Ma_run_56 (by decide) ?_
    refine lv_istore (lv' := [(5, .int (1 : Int32)), (2, .int v6), (4, .int v5), (0, .ref x0), (3, .int x3)]) hx hb d_Ma_run_57 hl (by decide) rfl (fun ls hl => ?_)
    refine lv_iload hx hb d_Ma_run_59 (lv_at hl 2 rfl) ?_
    refine lv_bipush (v := 76) hx hb d_Ma_run_61 (by decide) ?_
    refine lv_icmp_gt (tgt := 147) hx hb d_Ma_run_63 (by decide) (fun cx => ?_) (fun cx => ?_)
    · have hf := ifpP cx hf
      refine lv_iload hx hb d_Ma_run_147 (lv_at hl 2 rfl) ?_
      refine lv_bipush (v := 96) hx hb d_Ma_run_149 (by decide) ?_
      refine lv_icmp_le (tgt := 177) hx hb d_Ma_run_151 (by decide) (fun cx => ?_) (fun cx => ?_)
      · have hf := ifpP cx hf
        exact wv_mMa_run_177 (fu := fu) F hk_36 _ _ _ _ _ _ _ _ hf hkc hks _ _ _ hP hD hS (lv_sub hl [3, 1, 4, 2, 0] rfl)
      · have hf := ifnP cx hf
        refine lv_aload_n hx hb d_Ma_run_154 rfl (lv_at hl 3 rfl) ?_
        refine lv_dup hx hb d_Ma_run_155 rfl ?_
        obtain ⟨fs_, hm_, v7, hv_, hf⟩ := hf
        obtain ⟨ix_, hi_⟩ := m_ix hm_
        refine va_get (D := D) (ci := 6) (v := .int v7) (C := "CoinKeeper$Machine") (T := F_6) (N := 19) hx hb hts i_6 hown hK hP ix_ hi_ rfl 10 (by decide) (hts _ gw_214) (fun _ h9 => h9) hv_ d_Ma_run_156 ?_
        clear hv_ hi_ hm_
        refine lv_iconst (v := 1) hx hb d_Ma_run_159 (by decide) ?_
        refine lv_iadd hx hb d_Ma_run_160 ?_
        refine lv_topi (fun v8 ev => ?_)
        have hf := bnQ ev hf
        clear ev
        refine lv_dup_x1 hx hb d_Ma_run_161 rfl rfl ?_
        obtain ⟨fs_, hm_, hlen_, hf⟩ := hf
        obtain ⟨ix_, hi_⟩ := m_ix hm_
        have hE_ := m_set (y := .inr (6, fs_.set 10 (.int v8))) hD hi_
        refine va_put (D := D) (ci := 6) (v := .int v8) (ty := .int) (C := "CoinKeeper$Machine") (T := F_6) (N := 19) hx hb hts i_6 t_6 t_6_ok n_6 hown hK hP hD hS ix_ hi_ rfl 10 (by decide) (hts _ gw_214) (fun _ h9 => h9) rfl (by decide +kernel) rfl rfl hlen_ d_Ma_run_162 (fun H locs hP hD hS => ?_)
        obtain ⟨M9, eM_⟩ : ∃ z, z = mu M x0 (.inr (6, fs_.set 10 (.int v8))) := ⟨_, rfl⟩
        rw [← eM_] at hf hE_
        rw [hE_] at hP hD
        clear hE_ eM_ hi_ hm_
        refine lv_sipush (v := 201) hx hb d_Ma_run_165 (by decide) ?_
        refine lv_icmp_le (tgt := 177) hx hb d_Ma_run_168 (by decide) (fun cx => ?_) (fun cx => ?_)
        · have hf := ifpP cx hf
          exact wv_mMa_run_177 (fu := fu) F hk_36 _ _ _ _ _ _ _ _ hf hkc hks _ _ _ hP hD hS (lv_sub hl [3, 1, 4, 2, 0] rfl)
        · have hf := ifnP cx hf
          refine lv_iconst (v := 0) hx hb d_Ma_run_171 (by decide) ?_
          refine lv_istore (lv' := [(5, .int (0 : Int32)), (2, .int v6), (4, .int v5), (0, .ref x0), (3, .int x3)]) hx hb d_Ma_run_172 hl (by decide) rfl (fun ls hl => ?_)
          refine lv_goto (tgt := 281) hx hb d_Ma_run_174 (by decide) ?_
          exact wv_mMa_run_281 (fu := fu) F hk_36 _ _ _ _ _ _ _ hf hkc hks _ _ _ hP hD hS (lv_sub hl [3, 1, 4, 0] rfl)
    · have hf := ifnP cx hf
      refine lv_iload hx hb d_Ma_run_66 (lv_at hl 2 rfl) ?_
      refine lv_istore (lv' := [(6, .int v5), (5, .int (1 : Int32)), (2, .int v6), (4, .int v5), (0, .ref x0), (3, .int x3)]) hx hb d_Ma_run_68 hl (by decide) rfl (fun ls hl => ?_)
      refine lv_iload hx hb d_Ma_run_70 (lv_at hl 3 rfl) ?_
      refine lv_bipush (v := 76) hx hb d_Ma_run_72 (by decide) ?_
      refine lv_icmp_ne (tgt := 101) hx hb d_Ma_run_74 (by decide) (fun cx => ?_) (fun cx => ?_)
      · have hf := ifnP cx hf
        exact wv_mMa_run_101 (fu := fu) F hk_36 _ _ _ _ _ _ _ hf hkc hks _ _ _ hP hD hS (lv_sub hl [4, 2, 5, 0] rfl)
      · have hf := ifpP cx hf
        refine lv_iload_n hx hb d_Ma_run_77 rfl (lv_at hl 2 rfl) ?_
        refine lv_iload_n hx hb d_Ma_run_78 rfl (lv_at hl 5 rfl) ?_
        refine lv_icmp_ge (tgt := 95) hx hb d_Ma_run_79 (by decide) (fun cx => ?_) (fun cx => ?_)
        · have hf := ifpP cx hf
          refine lv_iload_n hx hb d_Ma_run_95 rfl (lv_at hl 5 rfl) ?_
          exact wv_mMa_run_96 (fu := fu) F hk_36 _ _ _ _ _ _ _ hf hkc hks _ _ _ hP hD hS (lv_sub hl [4, 2, 5] rfl)
        · have hf := ifnP cx hf
          refine lv_aload_n hx hb d_Ma_run_82 rfl (lv_at hl 4 rfl) ?_
          obtain ⟨fs_, hm_, r10, hv_, hf⟩ := hf
          obtain ⟨ix_, hi_⟩ := m_ix hm_
          refine va_get (D := D) (ci := 6) (v := va_rf r10) (C := "CoinKeeper$Machine") (T := F_6) (N := 19) hx hb hts i_6 hown hK hP ix_ hi_ rfl 3 (by decide) (hts _ gw_207) (fun _ h9 => h9) hv_ d_Ma_run_83 ?_
          clear hv_ hi_ hm_
          obtain ⟨q11, rfl, hf⟩ := hf
          refine W.eq (g2 := F0 m 86 ls [.ref q11]) rfl ?_
          refine lv_iload_n hx hb d_Ma_run_86 rfl (lv_at hl 2 rfl) ?_
          obtain ⟨n_, f_, hm_, hin_, hf⟩ := hf
          obtain ⟨ix_, hi_⟩ := m_ix hm_
          refine va_bald hx hb hK hP ix_ 0 hi_ rfl (inb_in hin_) d_Ma_run_87 ?_
          obtain ⟨v12, ev⟩ : ∃ z, z = f_ v6.toNatClampNeg := ⟨_, rfl⟩
          first | rw [← ev] at hf ⊢ | rw [← ev]
          clear ev hi_ hm_ hin_
          refine lv_sipush (v := 255) hx hb d_Ma_run_88 (by decide) ?_
          refine lv_iand hx hb d_Ma_run_91 ?_
          refine lv_goto (tgt := 96) hx hb d_Ma_run_92 (by decide) ?_
          exact wv_mMa_run_96 (fu := fu) F hk_36 _ _ _ _ _ _ _ hf hkc hks _ _ _ hP hD hS (lv_sub hl [4, 2, 5] rfl)
theorem ww_mMa_run_36 {p : Program} {l : Launch} {e : Env} {s : State} {m : MethodId} {args : Array Value} {below : List Frame} {meth : Method} {c : Code} {D : va_G} {cy : Nat → ClassId} {A : Nat → Prop} {ad : Nat → Nat} {mi MC MS : Nat} {Φ : Int32 → Mm → Prop} {fu : Nat} (F : FxM p s m args meth c b_Ma_run 7 "CoinKeeper$Machine" "run" (some .boolean) D cy ad mi A) : ∀ n : Nat, Iw_mMa_run_36 p l e s m args below meth c D cy A ad mi MC MS Φ (xw_mMa_run_36 fu MC MS cy ad mi Φ n)
  | 0 => fun _ _ _ _ _ _ hf => False.elim hf
  | n + 1 => wv_mMa_run_36 F (ww_mMa_run_36 F n)
set_option maxHeartbeats 8000000 in
set_option maxRecDepth 100000 in
theorem wew_mMa_run {p : Program} {l : Launch} {e : Env} {s : State} {m : MethodId} {args : Array Value} {below : List Frame} {meth : Method} {c : Code} {D : va_G} {cy : Nat → ClassId} {A : Nat → Prop} {ad : Nat → Nat} {mi MC MS : Nat} {Φ : Int32 → Mm → Prop} {fu : Nat} (F : FxM p s m args meth c b_Ma_run 7 "CoinKeeper$Machine" "run" (some .boolean) D cy ad mi A) : Iw_mMa_run_e p l e s m args below meth c D cy A ad mi MC MS Φ (xw_mMa_run fu MC MS cy ad mi Φ) := by
  obtain ⟨⟨hx, hb, hr, hml, hown, hts, hlocks, hK, hA, hSt, hnm, hex⟩, hT, hMi⟩ := id F
  intro κ σ M a0 a1 hf hkc hks H locs ls hP hD hS hl
  unfold xw_mMa_run at hf
  refine lv_aload_n hx hb d_Ma_run_0 rfl (lv_at hl 0 rfl) ?_
  refine lv_iconst (v := 0) hx hb d_Ma_run_1 (by decide) ?_
  obtain ⟨fs_, hm_, hlen_, hf⟩ := hf
  obtain ⟨ix_, hi_⟩ := m_ix hm_
  have hE_ := m_set (y := .inr (6, fs_.set 9 (.int (0 : Int32)))) hD hi_
  refine va_put (D := D) (ci := 6) (v := .int (0 : Int32)) (ty := .int) (C := "CoinKeeper$Machine") (T := F_6) (N := 19) hx hb hts i_6 t_6 t_6_ok n_6 hown hK hP hD hS ix_ hi_ rfl 9 (by decide) (hts _ gw_213) (fun _ h9 => h9) rfl (by decide +kernel) rfl rfl hlen_ d_Ma_run_2 (fun H locs hP hD hS => ?_)
  obtain ⟨M1, eM_⟩ : ∃ z, z = mu M a0 (.inr (6, fs_.set 9 (.int (0 : Int32)))) := ⟨_, rfl⟩
  rw [← eM_] at hf hE_
  rw [hE_] at hP hD
  clear hE_ eM_ hi_ hm_
  refine lv_aload_n hx hb d_Ma_run_5 rfl (lv_at hl 0 rfl) ?_
  refine lv_iconst (v := 0) hx hb d_Ma_run_6 (by decide) ?_
  obtain ⟨fs_, hm_, hlen_, hf⟩ := hf
  obtain ⟨ix_, hi_⟩ := m_ix hm_
  have hE_ := m_set (y := .inr (6, fs_.set 10 (.int (0 : Int32)))) hD hi_
  refine va_put (D := D) (ci := 6) (v := .int (0 : Int32)) (ty := .int) (C := "CoinKeeper$Machine") (T := F_6) (N := 19) hx hb hts i_6 t_6 t_6_ok n_6 hown hK hP hD hS ix_ hi_ rfl 10 (by decide) (hts _ gw_214) (fun _ h9 => h9) rfl (by decide +kernel) rfl rfl hlen_ d_Ma_run_7 (fun H locs hP hD hS => ?_)
  obtain ⟨M2, eM_⟩ : ∃ z, z = mu M1 a0 (.inr (6, fs_.set 10 (.int (0 : Int32)))) := ⟨_, rfl⟩
  rw [← eM_] at hf hE_
  rw [hE_] at hP hD
  clear hE_ eM_ hi_ hm_
  refine lv_aload_n hx hb d_Ma_run_10 rfl (lv_at hl 0 rfl) ?_
  refine lv_iconst (v := 0) hx hb d_Ma_run_11 (by decide) ?_
  obtain ⟨fs_, hm_, hlen_, hf⟩ := hf
  obtain ⟨ix_, hi_⟩ := m_ix hm_
  have hE_ := m_set (y := .inr (6, fs_.set 11 (.int (0 : Int32)))) hD hi_
  refine va_put (D := D) (ci := 6) (v := .int (0 : Int32)) (ty := .int) (C := "CoinKeeper$Machine") (T := F_6) (N := 19) hx hb hts i_6 t_6 t_6_ok n_6 hown hK hP hD hS ix_ hi_ rfl 11 (by decide) (hts _ gw_215) (fun _ h9 => h9) rfl (by decide +kernel) rfl rfl hlen_ d_Ma_run_12 (fun H locs hP hD hS => ?_)
  obtain ⟨M3, eM_⟩ : ∃ z, z = mu M2 a0 (.inr (6, fs_.set 11 (.int (0 : Int32)))) := ⟨_, rfl⟩
  rw [← eM_] at hf hE_
  rw [hE_] at hP hD
  clear hE_ eM_ hi_ hm_
  refine lv_aload_n hx hb d_Ma_run_15 rfl (lv_at hl 0 rfl) ?_
  refine lv_iconst (v := 0) hx hb d_Ma_run_16 (by decide) ?_
  obtain ⟨fs_, hm_, hlen_, hf⟩ := hf
  obtain ⟨ix_, hi_⟩ := m_ix hm_
  have hE_ := m_set (y := .inr (6, fs_.set 12 (.int (0 : Int32)))) hD hi_
  refine va_put (D := D) (ci := 6) (v := .int (0 : Int32)) (ty := .int) (C := "CoinKeeper$Machine") (T := F_6) (N := 19) hx hb hts i_6 t_6 t_6_ok n_6 hown hK hP hD hS ix_ hi_ rfl 12 (by decide) (hts _ gw_216) (fun _ h9 => h9) rfl (by decide +kernel) rfl rfl hlen_ d_Ma_run_17 (fun H locs hP hD hS => ?_)
  obtain ⟨M4, eM_⟩ : ∃ z, z = mu M3 a0 (.inr (6, fs_.set 12 (.int (0 : Int32)))) := ⟨_, rfl⟩
  rw [← eM_] at hf hE_
  rw [hE_] at hP hD
  clear hE_ eM_ hi_ hm_
  refine lv_bipush (v := 64) hx hb d_Ma_run_20 (by decide) ?_
  refine lv_iload_n hx hb d_Ma_run_22 rfl (lv_at hl 1 rfl) ?_
  refine lv_sipush (v := 1000) hx hb d_Ma_run_23 (by decide) ?_
  refine lv_imul hx hb d_Ma_run_26 ?_
  refine lv_iadd hx hb d_Ma_run_27 ?_
  refine lv_topi (fun v5 ev => ?_)
  have hf := bnQ ev hf
  clear ev
  refine lv_istore_n (lv' := [(2, .int v5), (0, .ref a0), (1, .int a1)]) hx hb d_Ma_run_28 rfl hl (by decide) rfl (fun ls hl => ?_)
  refine lv_aload_n hx hb d_Ma_run_29 rfl (lv_at hl 1 rfl) ?_
  obtain ⟨fs_, hm_, r6, hv_, hf⟩ := hf
  obtain ⟨ix_, hi_⟩ := m_ix hm_
  refine va_get (D := D) (ci := 6) (v := va_rf r6) (C := "CoinKeeper$Machine") (T := F_6) (N := 19) hx hb hts i_6 hown hK hP ix_ hi_ rfl 4 (by decide) (hts _ gw_208) (fun _ h9 => h9) hv_ d_Ma_run_30 ?_
  clear hv_ hi_ hm_
  obtain ⟨q7, rfl, hf⟩ := hf
  refine W.eq (g2 := F0 m 33 ls [.ref q7]) rfl ?_
  refine lv_iload_n hx hb d_Ma_run_33 rfl (lv_at hl 2 rfl) ?_
  obtain ⟨n_, f_, hm_, hin_, hf⟩ := hf
  obtain ⟨ix_, hi_⟩ := m_ix hm_
  refine va_iald hx hb hK hP ix_ 1 hi_ rfl (inb_in hin_) d_Ma_run_34 ?_
  obtain ⟨v8, ev⟩ : ∃ z, z = f_ a1.toNatClampNeg := ⟨_, rfl⟩
  first | rw [← ev] at hf ⊢ | rw [← ev]
  clear ev hi_ hm_ hin_
  refine lv_istore_n (lv' := [(3, .int v8), (2, .int v5), (0, .ref a0), (1, .int a1)]) hx hb d_Ma_run_35 rfl hl (by decide) rfl (fun ls hl => ?_)
  exact ww_mMa_run_36 F fu _ _ _ _ _ _ hf hkc hks _ _ _ hP hD hS (lv_sub hl [2, 1, 0] rfl)
theorem cw_mMa_run (l : Launch) (D : va_G) (cy : Nat → ClassId) (ad : Nat → Nat) (mi fu MC MS : Nat) (a0 : Nat) (a1 : Int32) (M : Mm) (Φ : Int32 → Mm → Prop) (hf : xw_mMa_run fu MC MS cy ad mi Φ 0 0 M a0 a1) (sz : Nat) : Met l ({ cls := "CoinKeeper$Machine", name := "run", desc := "(I)Z" } : Jvm.MethodName) (.code ({ cls := "CoinKeeper$Machine", name := "run", desc := "(I)Z" } : Jvm.MethodName) b_Ma_run 7 (some .boolean) :: gw) (rmw_mMa_run MC MS) (va_Pc [.ref a0, .int a1] (PrM D cy ad mi (mw M) sz)) (va_Qi Φ (fun u t => Po D cy (va_A (mw M) sz) (mw u) t) (va_A (mw M) sz)) MC MS (va_A (mw M) sz) :=
  q_metM (Qc := fun A => va_Qi Φ (fun u t => Po D cy A (mw u) t) A) (by decide) rfl rfl (Nat.le_of_ble_eq_true rfl) (fun p e s m below meth c ls F hP hD hS hl => wew_mMa_run (fu := fu) F 0 0 M a0 a1 hf (Nat.zero_le _) (Nat.zero_le _) _ _ _ hP hD hS hl) sz
abbrev rmw_mMa_spend (MC MS : Nat) : Room := { frames := 0, cells := MC, slots := MS, locals := 0 }
def Iw_mMa_spend_e (p : Program) (l : Launch) (e : Env) (s : State) (m : MethodId) (args : Array Value) (below : List Frame) (meth : Method) (c : Code) (D : va_G) (cy : Nat → ClassId) (A : Nat → Prop) (ad : Nat → Nat) (mi MC MS : Nat) (Φ : Mm → Prop) (k : Nat → Nat → Mm → Nat → Nat → Int32 → Int32 → Nat → Prop) : Prop :=
  ∀ (κ σ : Nat) (M : Mm) (a0 : Nat) (a1 : Nat) (a2 : Int32) (a3 : Int32) (a4 : Nat), k κ σ M a0 a1 a2 a3 a4 → κ ≤ MC → σ ≤ MS → ∀ (H : Heap) (locs : List Loc) (ls : Array Slot), va_P D classes (mw M) H → va_D A (mw M) → va_S A s.heap H locs → lv_has ls 5 [(0, .ref a0), (1, .ref a1), (2, .int a2), (3, .int a3), (4, .ref a4)] → W p l e (rmw_mMa_spend MC MS) s m args below meth c H locs κ σ (MQ below (va_Qv Φ (fun u t => Po D cy A (mw u) t) A) args s MC MS A) (F0 m 0 ls [])
set_option maxHeartbeats 8000000 in
set_option maxRecDepth 100000 in
theorem wew_mMa_spend {p : Program} {l : Launch} {e : Env} {s : State} {m : MethodId} {args : Array Value} {below : List Frame} {meth : Method} {c : Code} {D : va_G} {cy : Nat → ClassId} {A : Nat → Prop} {ad : Nat → Nat} {mi MC MS : Nat} {Φ : Mm → Prop} {fu : Nat} (F : FxM p s m args meth c b_Ma_spend 5 "CoinKeeper$Machine" "spend" none D cy ad mi A) : Iw_mMa_spend_e p l e s m args below meth c D cy A ad mi MC MS Φ (xw_mMa_spend fu MC MS cy ad mi Φ) := by
  obtain ⟨⟨hx, hb, hr, hml, hown, hts, hlocks, hK, hA, hSt, hnm, hex⟩, hT, hMi⟩ := id F
  intro κ σ M a0 a1 a2 a3 a4 hf hkc hks H locs ls hP hD hS hl
  unfold xw_mMa_spend at hf
  refine lv_aload_n hx hb d_Ma_spend_0 rfl (lv_at hl 0 rfl) ?_
  refine lv_aload_n hx hb d_Ma_spend_1 rfl (lv_at hl 1 rfl) ?_
  obtain ⟨fs_, hm_, hlen_, hf⟩ := hf
  obtain ⟨ix_, hi_⟩ := m_ix hm_
  have hE_ := m_set (y := .inr (6, fs_.set 14 (.ref a1))) hD hi_
  refine va_put (D := D) (ci := 6) (v := .ref a1) (ty := .object "CoinKeeper$Layout") (C := "CoinKeeper$Machine") (T := F_6) (N := 19) hx hb hts i_6 t_6 t_6_ok n_6 hown hK hP hD hS ix_ hi_ rfl 14 (by decide) (hts _ gw_218) (fun _ h9 => h9) rfl (by decide +kernel) rfl rfl hlen_ d_Ma_spend_2 (fun H locs hP hD hS => ?_)
  obtain ⟨M1, eM_⟩ : ∃ z, z = mu M a0 (.inr (6, fs_.set 14 (.ref a1))) := ⟨_, rfl⟩
  rw [← eM_] at hf hE_
  rw [hE_] at hP hD
  clear hE_ eM_ hi_ hm_
  refine lv_aload_n hx hb d_Ma_spend_5 rfl (lv_at hl 0 rfl) ?_
  refine lv_iload_n hx hb d_Ma_spend_6 rfl (lv_at hl 2 rfl) ?_
  obtain ⟨fs_, hm_, hlen_, hf⟩ := hf
  obtain ⟨ix_, hi_⟩ := m_ix hm_
  have hE_ := m_set (y := .inr (6, fs_.set 15 (.int a2))) hD hi_
  refine va_put (D := D) (ci := 6) (v := .int a2) (ty := .int) (C := "CoinKeeper$Machine") (T := F_6) (N := 19) hx hb hts i_6 t_6 t_6_ok n_6 hown hK hP hD hS ix_ hi_ rfl 15 (by decide) (hts _ gw_219) (fun _ h9 => h9) rfl (by decide +kernel) rfl rfl hlen_ d_Ma_spend_7 (fun H locs hP hD hS => ?_)
  obtain ⟨M2, eM_⟩ : ∃ z, z = mu M1 a0 (.inr (6, fs_.set 15 (.int a2))) := ⟨_, rfl⟩
  rw [← eM_] at hf hE_
  rw [hE_] at hP hD
  clear hE_ eM_ hi_ hm_
  refine lv_aload_n hx hb d_Ma_spend_10 rfl (lv_at hl 0 rfl) ?_
  refine lv_iload_n hx hb d_Ma_spend_11 rfl (lv_at hl 3 rfl) ?_
  obtain ⟨fs_, hm_, hlen_, hf⟩ := hf
  obtain ⟨ix_, hi_⟩ := m_ix hm_
  have hE_ := m_set (y := .inr (6, fs_.set 16 (.int a3))) hD hi_
  refine va_put (D := D) (ci := 6) (v := .int a3) (ty := .int) (C := "CoinKeeper$Machine") (T := F_6) (N := 19) hx hb hts i_6 t_6 t_6_ok n_6 hown hK hP hD hS ix_ hi_ rfl 16 (by decide) (hts _ gw_220) (fun _ h9 => h9) rfl (by decide +kernel) rfl rfl hlen_ d_Ma_spend_12 (fun H locs hP hD hS => ?_)
  obtain ⟨M3, eM_⟩ : ∃ z, z = mu M2 a0 (.inr (6, fs_.set 16 (.int a3))) := ⟨_, rfl⟩
  rw [← eM_] at hf hE_
  rw [hE_] at hP hD
  clear hE_ eM_ hi_ hm_
  refine lv_aload_n hx hb d_Ma_spend_15 rfl (lv_at hl 0 rfl) ?_
  refine lv_aload hx hb d_Ma_spend_16 (lv_at hl 4 rfl) ?_
  obtain ⟨fs_, hm_, hlen_, hf⟩ := hf
  obtain ⟨ix_, hi_⟩ := m_ix hm_
  have hE_ := m_set (y := .inr (6, fs_.set 17 (.ref a4))) hD hi_
  refine va_put (D := D) (ci := 6) (v := .ref a4) (ty := .object "CoinKeeper$Coin") (C := "CoinKeeper$Machine") (T := F_6) (N := 19) hx hb hts i_6 t_6 t_6_ok n_6 hown hK hP hD hS ix_ hi_ rfl 17 (by decide) (hts _ gw_221) (fun _ h9 => h9) rfl (by decide +kernel) rfl rfl hlen_ d_Ma_spend_18 (fun H locs hP hD hS => ?_)
  obtain ⟨M4, eM_⟩ : ∃ z, z = mu M3 a0 (.inr (6, fs_.set 17 (.ref a4))) := ⟨_, rfl⟩
  rw [← eM_] at hf hE_
  rw [hE_] at hP hD
  clear hE_ eM_ hi_ hm_
  refine lv_aload_n hx hb d_Ma_spend_21 rfl (lv_at hl 0 rfl) ?_
  refine lv_iconst (v := 0) hx hb d_Ma_spend_22 (by decide) ?_
  obtain ⟨fs_, hm_, hlen_, hf⟩ := hf
  obtain ⟨ix_, hi_⟩ := m_ix hm_
  have hE_ := m_set (y := .inr (6, fs_.set 18 (.int (0 : Int32)))) hD hi_
  refine va_put (D := D) (ci := 6) (v := .int (0 : Int32)) (ty := .boolean) (C := "CoinKeeper$Machine") (T := F_6) (N := 19) hx hb hts i_6 t_6 t_6_ok n_6 hown hK hP hD hS ix_ hi_ rfl 18 (by decide) (hts _ gw_222) (fun _ h9 => h9) rfl (by decide +kernel) (isb_n (v := 0) (by decide)) (isb_f (v := 0) (by decide)) hlen_ d_Ma_spend_23 (fun H locs hP hD hS => ?_)
  obtain ⟨M5, eM_⟩ : ∃ z, z = mu M4 a0 (.inr (6, fs_.set 18 (.int (0 : Int32)))) := ⟨_, rfl⟩
  rw [← eM_] at hf hE_
  rw [hE_] at hP hD
  clear hE_ eM_ hi_ hm_
  refine lv_aload_n hx hb d_Ma_spend_26 rfl (lv_at hl 0 rfl) ?_
  refine lv_iconst (v := 0) hx hb d_Ma_spend_27 (by decide) ?_
  obtain ⟨fs_, hm_, hlen_, hf⟩ := hf
  obtain ⟨ix_, hi_⟩ := m_ix hm_
  have hE_ := m_set (y := .inr (6, fs_.set 8 (.int (0 : Int32)))) hD hi_
  refine va_put (D := D) (ci := 6) (v := .int (0 : Int32)) (ty := .int) (C := "CoinKeeper$Machine") (T := F_6) (N := 19) hx hb hts i_6 t_6 t_6_ok n_6 hown hK hP hD hS ix_ hi_ rfl 8 (by decide) (hts _ gw_212) (fun _ h9 => h9) rfl (by decide +kernel) rfl rfl hlen_ d_Ma_spend_28 (fun H locs hP hD hS => ?_)
  obtain ⟨M6, eM_⟩ : ∃ z, z = mu M5 a0 (.inr (6, fs_.set 8 (.int (0 : Int32)))) := ⟨_, rfl⟩
  rw [← eM_] at hf hE_
  rw [hE_] at hP hD
  clear hE_ eM_ hi_ hm_
  refine lv_aload_n hx hb d_Ma_spend_31 rfl (lv_at hl 0 rfl) ?_
  refine lv_sipush (v := 2064) hx hb d_Ma_spend_32 (by decide) ?_
  obtain ⟨fs_, hm_, hlen_, hf⟩ := hf
  obtain ⟨ix_, hi_⟩ := m_ix hm_
  have hE_ := m_set (y := .inr (6, fs_.set 13 (.int (2064 : Int32)))) hD hi_
  refine va_put (D := D) (ci := 6) (v := .int (2064 : Int32)) (ty := .int) (C := "CoinKeeper$Machine") (T := F_6) (N := 19) hx hb hts i_6 t_6 t_6_ok n_6 hown hK hP hD hS ix_ hi_ rfl 13 (by decide) (hts _ gw_217) (fun _ h9 => h9) rfl (by decide +kernel) rfl rfl hlen_ d_Ma_spend_35 (fun H locs hP hD hS => ?_)
  obtain ⟨M7, eM_⟩ : ∃ z, z = mu M6 a0 (.inr (6, fs_.set 13 (.int (2064 : Int32)))) := ⟨_, rfl⟩
  rw [← eM_] at hf hE_
  rw [hE_] at hP hD
  clear hE_ eM_ hi_ hm_
  refine W.widen (k := MC) (n := MS) hkc hks ?_
  exact m_rv hf hx hb hr hlocks hK hP hD hS d_Ma_spend_38
theorem cw_mMa_spend (l : Launch) (D : va_G) (cy : Nat → ClassId) (ad : Nat → Nat) (mi fu MC MS : Nat) (a0 : Nat) (a1 : Nat) (a2 : Int32) (a3 : Int32) (a4 : Nat) (M : Mm) (Φ : Mm → Prop) (hf : xw_mMa_spend fu MC MS cy ad mi Φ 0 0 M a0 a1 a2 a3 a4) (sz : Nat) : Met l ({ cls := "CoinKeeper$Machine", name := "spend", desc := "(LCoinKeeper$Layout;IILCoinKeeper$Coin;)V" } : Jvm.MethodName) (.code ({ cls := "CoinKeeper$Machine", name := "spend", desc := "(LCoinKeeper$Layout;IILCoinKeeper$Coin;)V" } : Jvm.MethodName) b_Ma_spend 5 none :: gw) (rmw_mMa_spend MC MS) (va_Pc [.ref a0, .ref a1, .int a2, .int a3, .ref a4] (PrM D cy ad mi (mw M) sz)) (va_Qv Φ (fun u t => Po D cy (va_A (mw M) sz) (mw u) t) (va_A (mw M) sz)) MC MS (va_A (mw M) sz) :=
  q_metM (Qc := fun A => va_Qv Φ (fun u t => Po D cy A (mw u) t) A) (by decide) rfl rfl (Nat.le_of_ble_eq_true rfl) (fun p e s m below meth c ls F hP hD hS hl => wew_mMa_spend (fu := fu) F 0 0 M a0 a1 a2 a3 a4 hf (Nat.zero_le _) (Nat.zero_le _) _ _ _ hP hD hS hl) sz
abbrev b_K_scriptsHold : ByteArray := prog_1_method_20_code
theorem d_K_scriptsHold_0 : decode b_K_scriptsHold 0 = .ok (.iconst 1, 1) := by decide +kernel
theorem d_K_scriptsHold_1 : decode b_K_scriptsHold 1 = .ok (.istore_n 1, 1) := by decide +kernel
theorem d_K_scriptsHold_2 : decode b_K_scriptsHold 2 = .ok (.iload_n 1, 1) := by decide +kernel
theorem d_K_scriptsHold_3 : decode b_K_scriptsHold 3 = .ok (.aload_n 0, 1) := by decide +kernel
theorem d_K_scriptsHold_4 : decode b_K_scriptsHold 4 = .ok (.getfield 271, 3) := by decide +kernel
theorem d_K_scriptsHold_7 : decode b_K_scriptsHold 7 = .ok (.if_icmp .ge 151, 3) := by decide +kernel
theorem d_K_scriptsHold_10 : decode b_K_scriptsHold 10 = .ok (.aload_n 0, 1) := by decide +kernel
theorem d_K_scriptsHold_11 : decode b_K_scriptsHold 11 = .ok (.getfield 42, 3) := by decide +kernel
theorem d_K_scriptsHold_14 : decode b_K_scriptsHold 14 = .ok (.getfield 294, 3) := by decide +kernel
theorem d_K_scriptsHold_17 : decode b_K_scriptsHold 17 = .ok (.iload_n 1, 1) := by decide +kernel
theorem d_K_scriptsHold_18 : decode b_K_scriptsHold 18 = .ok (.iaload, 1) := by decide +kernel
theorem d_K_scriptsHold_19 : decode b_K_scriptsHold 19 = .ok (.istore_n 2, 1) := by decide +kernel
theorem d_K_scriptsHold_20 : decode b_K_scriptsHold 20 = .ok (.iload_n 2, 1) := by decide +kernel
theorem d_K_scriptsHold_21 : decode b_K_scriptsHold 21 = .ok (.aload_n 0, 1) := by decide +kernel
theorem d_K_scriptsHold_22 : decode b_K_scriptsHold 22 = .ok (.getfield 42, 3) := by decide +kernel
theorem d_K_scriptsHold_25 : decode b_K_scriptsHold 25 = .ok (.getfield 294, 3) := by decide +kernel
theorem d_K_scriptsHold_28 : decode b_K_scriptsHold 28 = .ok (.iload_n 1, 1) := by decide +kernel
theorem d_K_scriptsHold_29 : decode b_K_scriptsHold 29 = .ok (.iconst 1, 1) := by decide +kernel
theorem d_K_scriptsHold_30 : decode b_K_scriptsHold 30 = .ok (.iadd, 1) := by decide +kernel
theorem d_K_scriptsHold_31 : decode b_K_scriptsHold 31 = .ok (.iaload, 1) := by decide +kernel
theorem d_K_scriptsHold_32 : decode b_K_scriptsHold 32 = .ok (.if_icmp .ge 120, 3) := by decide +kernel
theorem d_K_scriptsHold_35 : decode b_K_scriptsHold 35 = .ok (.aload_n 0, 1) := by decide +kernel
theorem d_K_scriptsHold_36 : decode b_K_scriptsHold 36 = .ok (.getfield 62, 3) := by decide +kernel
theorem d_K_scriptsHold_39 : decode b_K_scriptsHold 39 = .ok (.iload_n 2, 1) := by decide +kernel
theorem d_K_scriptsHold_40 : decode b_K_scriptsHold 40 = .ok (.aaload, 1) := by decide +kernel
theorem d_K_scriptsHold_41 : decode b_K_scriptsHold 41 = .ok (.astore_n 3, 1) := by decide +kernel
theorem d_K_scriptsHold_42 : decode b_K_scriptsHold 42 = .ok (.aload_n 0, 1) := by decide +kernel
theorem d_K_scriptsHold_43 : decode b_K_scriptsHold 43 = .ok (.getfield 35, 3) := by decide +kernel
theorem d_K_scriptsHold_46 : decode b_K_scriptsHold 46 = .ok (.iconst 0, 1) := by decide +kernel
theorem d_K_scriptsHold_47 : decode b_K_scriptsHold 47 = .ok (.aload_n 0, 1) := by decide +kernel
theorem d_K_scriptsHold_48 : decode b_K_scriptsHold 48 = .ok (.getfield 42, 3) := by decide +kernel
theorem d_K_scriptsHold_51 : decode b_K_scriptsHold 51 = .ok (.getfield 313, 3) := by decide +kernel
theorem d_K_scriptsHold_54 : decode b_K_scriptsHold 54 = .ok (.aload_n 0, 1) := by decide +kernel
theorem d_K_scriptsHold_55 : decode b_K_scriptsHold 55 = .ok (.getfield 42, 3) := by decide +kernel
theorem d_K_scriptsHold_58 : decode b_K_scriptsHold 58 = .ok (.getfield 314, 3) := by decide +kernel
theorem d_K_scriptsHold_61 : decode b_K_scriptsHold 61 = .ok (.iload_n 2, 1) := by decide +kernel
theorem d_K_scriptsHold_62 : decode b_K_scriptsHold 62 = .ok (.iaload, 1) := by decide +kernel
theorem d_K_scriptsHold_63 : decode b_K_scriptsHold 63 = .ok (.aload_n 0, 1) := by decide +kernel
theorem d_K_scriptsHold_64 : decode b_K_scriptsHold 64 = .ok (.getfield 42, 3) := by decide +kernel
theorem d_K_scriptsHold_67 : decode b_K_scriptsHold 67 = .ok (.getfield 317, 3) := by decide +kernel
theorem d_K_scriptsHold_70 : decode b_K_scriptsHold 70 = .ok (.iload_n 2, 1) := by decide +kernel
theorem d_K_scriptsHold_71 : decode b_K_scriptsHold 71 = .ok (.iaload, 1) := by decide +kernel
theorem d_K_scriptsHold_72 : decode b_K_scriptsHold 72 = .ok (.invokevirtual 148, 3) := by decide +kernel
theorem d_K_scriptsHold_75 : decode b_K_scriptsHold 75 = .ok (.aload_n 0, 1) := by decide +kernel
theorem d_K_scriptsHold_76 : decode b_K_scriptsHold 76 = .ok (.getfield 35, 3) := by decide +kernel
theorem d_K_scriptsHold_79 : decode b_K_scriptsHold 79 = .ok (.iconst 1, 1) := by decide +kernel
theorem d_K_scriptsHold_80 : decode b_K_scriptsHold 80 = .ok (.aload_n 3, 1) := by decide +kernel
theorem d_K_scriptsHold_81 : decode b_K_scriptsHold 81 = .ok (.getfield 303, 3) := by decide +kernel
theorem d_K_scriptsHold_84 : decode b_K_scriptsHold 84 = .ok (.getfield 268, 3) := by decide +kernel
theorem d_K_scriptsHold_87 : decode b_K_scriptsHold 87 = .ok (.aload_n 3, 1) := by decide +kernel
theorem d_K_scriptsHold_88 : decode b_K_scriptsHold 88 = .ok (.getfield 320, 3) := by decide +kernel
theorem d_K_scriptsHold_91 : decode b_K_scriptsHold 91 = .ok (.aload_n 3, 1) := by decide +kernel
theorem d_K_scriptsHold_92 : decode b_K_scriptsHold 92 = .ok (.getfield 323, 3) := by decide +kernel
theorem d_K_scriptsHold_95 : decode b_K_scriptsHold 95 = .ok (.invokevirtual 148, 3) := by decide +kernel
theorem d_K_scriptsHold_98 : decode b_K_scriptsHold 98 = .ok (.aload_n 0, 1) := by decide +kernel
theorem d_K_scriptsHold_99 : decode b_K_scriptsHold 99 = .ok (.getfield 35, 3) := by decide +kernel
theorem d_K_scriptsHold_102 : decode b_K_scriptsHold 102 = .ok (.aload_n 0, 1) := by decide +kernel
theorem d_K_scriptsHold_103 : decode b_K_scriptsHold 103 = .ok (.getfield 42, 3) := by decide +kernel
theorem d_K_scriptsHold_106 : decode b_K_scriptsHold 106 = .ok (.iload_n 1, 1) := by decide +kernel
theorem d_K_scriptsHold_107 : decode b_K_scriptsHold 107 = .ok (.iload_n 2, 1) := by decide +kernel
theorem d_K_scriptsHold_108 : decode b_K_scriptsHold 108 = .ok (.aload_n 3, 1) := by decide +kernel
theorem d_K_scriptsHold_109 : decode b_K_scriptsHold 109 = .ok (.invokevirtual 326, 3) := by decide +kernel
theorem d_K_scriptsHold_112 : decode b_K_scriptsHold 112 = .ok (.aload_n 0, 1) := by decide +kernel
theorem d_K_scriptsHold_113 : decode b_K_scriptsHold 113 = .ok (.getfield 35, 3) := by decide +kernel
theorem d_K_scriptsHold_116 : decode b_K_scriptsHold 116 = .ok (.iconst 0, 1) := by decide +kernel
theorem d_K_scriptsHold_117 : decode b_K_scriptsHold 117 = .ok (.invokevirtual 155, 3) := by decide +kernel
theorem d_K_scriptsHold_120 : decode b_K_scriptsHold 120 = .ok (.ifCond .eq 24, 3) := by decide +kernel
theorem d_K_scriptsHold_123 : decode b_K_scriptsHold 123 = .ok (.aload_n 0, 1) := by decide +kernel
theorem d_K_scriptsHold_124 : decode b_K_scriptsHold 124 = .ok (.getfield 35, 3) := by decide +kernel
theorem d_K_scriptsHold_127 : decode b_K_scriptsHold 127 = .ok (.iconst 1, 1) := by decide +kernel
theorem d_K_scriptsHold_128 : decode b_K_scriptsHold 128 = .ok (.invokevirtual 155, 3) := by decide +kernel
theorem d_K_scriptsHold_131 : decode b_K_scriptsHold 131 = .ok (.ifCond .eq 13, 3) := by decide +kernel
theorem d_K_scriptsHold_134 : decode b_K_scriptsHold 134 = .ok (.aload_n 0, 1) := by decide +kernel
theorem d_K_scriptsHold_135 : decode b_K_scriptsHold 135 = .ok (.getfield 35, 3) := by decide +kernel
theorem d_K_scriptsHold_138 : decode b_K_scriptsHold 138 = .ok (.invokevirtual 159, 3) := by decide +kernel
theorem d_K_scriptsHold_141 : decode b_K_scriptsHold 141 = .ok (.ifCond .ne 5, 3) := by decide +kernel
theorem d_K_scriptsHold_144 : decode b_K_scriptsHold 144 = .ok (.iconst 0, 1) := by decide +kernel
theorem d_K_scriptsHold_145 : decode b_K_scriptsHold 145 = .ok (.ireturn, 1) := by decide +kernel
theorem d_K_scriptsHold_146 : decode b_K_scriptsHold 146 = .ok (.iinc 2 1, 3) := by decide +kernel
theorem d_K_scriptsHold_149 : decode b_K_scriptsHold 149 = .ok (.goto (-129), 3) := by decide +kernel
theorem d_K_scriptsHold_152 : decode b_K_scriptsHold 152 = .ok (.iinc 1 1, 3) := by decide +kernel
theorem d_K_scriptsHold_155 : decode b_K_scriptsHold 155 = .ok (.goto (-153), 3) := by decide +kernel
theorem d_K_scriptsHold_158 : decode b_K_scriptsHold 158 = .ok (.iconst 1, 1) := by decide +kernel
theorem d_K_scriptsHold_159 : decode b_K_scriptsHold 159 = .ok (.ireturn, 1) := by decide +kernel
abbrev rmw_mK_scriptsHold (MC MS : Nat) : Room := { frames := 7, cells := MC, slots := MS, locals := 214 }
def Iw_mK_scriptsHold_20 (p : Program) (l : Launch) (e : Env) (s : State) (m : MethodId) (args : Array Value) (below : List Frame) (meth : Method) (c : Code) (D : va_G) (cy : Nat → ClassId) (A : Nat → Prop) (ad : Nat → Nat) (mi MC MS : Nat) (Φ : Int32 → Mm → Prop) (k : Nat → Nat → Mm → Nat → Int32 → Int32 → Prop) : Prop :=
  ∀ (κ σ : Nat) (M : Mm) (x0 : Nat) (x1 : Int32) (x2 : Int32), k κ σ M x0 x1 x2 → κ ≤ MC → σ ≤ MS → ∀ (H : Heap) (locs : List Loc) (ls : Array Slot), va_P D classes (mw M) H → va_D A (mw M) → va_S A s.heap H locs → lv_has ls 4 [(0, .ref x0), (1, .int x1), (2, .int x2)] → W p l e (rmw_mK_scriptsHold MC MS) s m args below meth c H locs κ σ (MQ below (va_Qi Φ (fun u t => Po D cy A (mw u) t) A) args s MC MS A) (F0 m 20 ls [])
def Iw_mK_scriptsHold_2 (p : Program) (l : Launch) (e : Env) (s : State) (m : MethodId) (args : Array Value) (below : List Frame) (meth : Method) (c : Code) (D : va_G) (cy : Nat → ClassId) (A : Nat → Prop) (ad : Nat → Nat) (mi MC MS : Nat) (Φ : Int32 → Mm → Prop) (k : Nat → Nat → Mm → Nat → Int32 → Prop) : Prop :=
  ∀ (κ σ : Nat) (M : Mm) (x0 : Nat) (x1 : Int32), k κ σ M x0 x1 → κ ≤ MC → σ ≤ MS → ∀ (H : Heap) (locs : List Loc) (ls : Array Slot), va_P D classes (mw M) H → va_D A (mw M) → va_S A s.heap H locs → lv_has ls 4 [(0, .ref x0), (1, .int x1)] → W p l e (rmw_mK_scriptsHold MC MS) s m args below meth c H locs κ σ (MQ below (va_Qi Φ (fun u t => Po D cy A (mw u) t) A) args s MC MS A) (F0 m 2 ls [])
def Iw_mK_scriptsHold_e (p : Program) (l : Launch) (e : Env) (s : State) (m : MethodId) (args : Array Value) (below : List Frame) (meth : Method) (c : Code) (D : va_G) (cy : Nat → ClassId) (A : Nat → Prop) (ad : Nat → Nat) (mi MC MS : Nat) (Φ : Int32 → Mm → Prop) (k : Nat → Nat → Mm → Nat → Prop) : Prop :=
  ∀ (κ σ : Nat) (M : Mm) (a0 : Nat), k κ σ M a0 → κ ≤ MC → σ ≤ MS → ∀ (H : Heap) (locs : List Loc) (ls : Array Slot), va_P D classes (mw M) H → va_D A (mw M) → va_S A s.heap H locs → lv_has ls 4 [(0, .ref a0)] → W p l e (rmw_mK_scriptsHold MC MS) s m args below meth c H locs κ σ (MQ below (va_Qi Φ (fun u t => Po D cy A (mw u) t) A) args s MC MS A) (F0 m 0 ls [])
theorem hds_91 : ({ cls := "CoinKeeper$Machine", name := "load", desc := "(I[BII)V" } : Jvm.MethodName).cls ≠ "java/lang/invoke/MethodHandle" ∧ ({ cls := "CoinKeeper$Machine", name := "load", desc := "(I[BII)V" } : Jvm.MethodName).cls ≠ "java/lang/invoke/VarHandle" ∧ (parseMethodDescriptor ({ cls := "CoinKeeper$Machine", name := "load", desc := "(I[BII)V" } : Jvm.MethodName).desc).map (fun d => d.parameters.length) = some 4 := by decide +kernel
theorem hds_92 : ({ cls := "CoinKeeper$Machine", name := "spend", desc := "(LCoinKeeper$Layout;IILCoinKeeper$Coin;)V" } : Jvm.MethodName).cls ≠ "java/lang/invoke/MethodHandle" ∧ ({ cls := "CoinKeeper$Machine", name := "spend", desc := "(LCoinKeeper$Layout;IILCoinKeeper$Coin;)V" } : Jvm.MethodName).cls ≠ "java/lang/invoke/VarHandle" ∧ (parseMethodDescriptor ({ cls := "CoinKeeper$Machine", name := "spend", desc := "(LCoinKeeper$Layout;IILCoinKeeper$Coin;)V" } : Jvm.MethodName).desc).map (fun d => d.parameters.length) = some 4 := by decide +kernel
theorem hds_93 : ({ cls := "CoinKeeper$Machine", name := "run", desc := "(I)Z" } : Jvm.MethodName).cls ≠ "java/lang/invoke/MethodHandle" ∧ ({ cls := "CoinKeeper$Machine", name := "run", desc := "(I)Z" } : Jvm.MethodName).cls ≠ "java/lang/invoke/VarHandle" ∧ (parseMethodDescriptor ({ cls := "CoinKeeper$Machine", name := "run", desc := "(I)Z" } : Jvm.MethodName).desc).map (fun d => d.parameters.length) = some 1 := by decide +kernel
theorem hds_94 : ({ cls := "CoinKeeper$Machine", name := "endsTrue", desc := "()Z" } : Jvm.MethodName).cls ≠ "java/lang/invoke/MethodHandle" ∧ ({ cls := "CoinKeeper$Machine", name := "endsTrue", desc := "()Z" } : Jvm.MethodName).cls ≠ "java/lang/invoke/VarHandle" ∧ (parseMethodDescriptor ({ cls := "CoinKeeper$Machine", name := "endsTrue", desc := "()Z" } : Jvm.MethodName).desc).map (fun d => d.parameters.length) = some 0 := by decide +kernel
set_option maxHeartbeats 8000000 in
set_option maxRecDepth 100000 in
theorem wv_mK_scriptsHold_20 {p : Program} {l : Launch} {e : Env} {s : State} {m : MethodId} {args : Array Value} {below : List Frame} {meth : Method} {c : Code} {D : va_G} {cy : Nat → ClassId} {A : Nat → Prop} {ad : Nat → Nat} {mi MC MS : Nat} {Φ : Int32 → Mm → Prop} {fu : Nat} {k_2 : Nat → Nat → Mm → Nat → Int32 → Prop} {k_20 : Nat → Nat → Mm → Nat → Int32 → Int32 → Prop} (F : FxM p s m args meth c b_K_scriptsHold 4 "CoinKeeper" "scriptsHold" (some .boolean) D cy ad mi A) (hk_2 : Iw_mK_scriptsHold_2 p l e s m args below meth c D cy A ad mi MC MS Φ k_2) (hk_20 : Iw_mK_scriptsHold_20 p l e s m args below meth c D cy A ad mi MC MS Φ k_20) : Iw_mK_scriptsHold_20 p l e s m args below meth c D cy A ad mi MC MS Φ (xv_mK_scriptsHold_20 fu MC MS cy ad mi Φ k_2 k_20) := by
  obtain ⟨⟨hx, hb, hr, hml, hown, hts, hlocks, hK, hA, hSt, hnm, hex⟩, hT, hMi⟩ := id F
  intro κ σ M x0 x1 x2 hf hkc hks H locs ls hP hD hS hl
  unfold xv_mK_scriptsHold_20 at hf
  refine lv_iload_n hx hb d_K_scriptsHold_20 rfl (lv_at hl 2 rfl) ?_
  refine lv_aload_n hx hb d_K_scriptsHold_21 rfl (lv_at hl 0 rfl) ?_
  obtain ⟨fs_, hm_, r1, hv_, hf⟩ := hf
  obtain ⟨ix_, hi_⟩ := m_ix hm_
  refine va_get (D := D) (ci := 0) (v := va_rf r1) (C := "CoinKeeper") (T := F_0) (N := 13) hx hb hts i_0 hown hK hP ix_ hi_ rfl 6 (by decide) (hts _ gw_506) (fun _ h9 => h9) hv_ d_K_scriptsHold_22 ?_
  clear hv_ hi_ hm_
  obtain ⟨q2, rfl, hf⟩ := hf
  refine W.eq (g2 := F0 m 25 ls [.ref q2, .int x2]) rfl ?_
  obtain ⟨fs_, hm_, r3, hv_, hf⟩ := hf
  obtain ⟨ix_, hi_⟩ := m_ix hm_
  refine va_get (D := D) (ci := 4) (v := va_rf r3) (C := "CoinKeeper$Layout") (T := F_4) (N := 15) hx hb hts i_4 hown hK hP ix_ hi_ rfl 3 (by decide) (hts _ gw_277) (fun _ h9 => h9) hv_ d_K_scriptsHold_25 ?_
  clear hv_ hi_ hm_
  obtain ⟨q4, rfl, hf⟩ := hf
  refine W.eq (g2 := F0 m 28 ls [.ref q4, .int x2]) rfl ?_
  refine lv_iload_n hx hb d_K_scriptsHold_28 rfl (lv_at hl 1 rfl) ?_
  refine lv_iconst (v := 1) hx hb d_K_scriptsHold_29 (by decide) ?_
  refine lv_iadd hx hb d_K_scriptsHold_30 ?_
  refine lv_topi (fun v5 ev => ?_)
  have hf := bnQ ev hf
  clear ev
  obtain ⟨n_, f_, hm_, hin_, hf⟩ := hf
  obtain ⟨ix_, hi_⟩ := m_ix hm_
  refine va_iald hx hb hK hP ix_ 1 hi_ rfl (inb_in hin_) d_K_scriptsHold_31 ?_
  obtain ⟨v6, ev⟩ : ∃ z, z = f_ v5.toNatClampNeg := ⟨_, rfl⟩
  first | rw [← ev] at hf ⊢ | rw [← ev]
  clear ev hi_ hm_ hin_
  refine lv_icmp_ge (tgt := 152) hx hb d_K_scriptsHold_32 (by decide) (fun cx => ?_) (fun cx => ?_)
  · have hf := ifpP cx hf
    obtain ⟨v7, ev, hf⟩ := bnP hf
    refine lv_iinc (v := v7) (lv' := [(1, .int v7), (0, .ref x0), (2, .int x2)]) hx hb d_K_scriptsHold_152 hl (k := 1) rfl (by rw [ev]; rfl) (by decide) rfl (fun ls hl => ?_)
    clear ev
    refine lv_goto (tgt := 2) hx hb d_K_scriptsHold_155 (by decide) ?_
    exact hk_2 _ _ _ _ _ hf hkc hks _ _ _ hP hD hS (lv_sub hl [1, 0] rfl)
  · have hf := ifnP cx hf
    refine lv_aload_n hx hb d_K_scriptsHold_35 rfl (lv_at hl 0 rfl) ?_
    obtain ⟨fs_, hm_, r8, hv_, hf⟩ := hf
    obtain ⟨ix_, hi_⟩ := m_ix hm_
    refine va_get (D := D) (ci := 0) (v := va_rf r8) (C := "CoinKeeper") (T := F_0) (N := 13) hx hb hts i_0 hown hK hP ix_ hi_ rfl 9 (by decide) (hts _ gw_509) (fun _ h9 => h9) hv_ d_K_scriptsHold_36 ?_
    clear hv_ hi_ hm_
    obtain ⟨q9, rfl, hf⟩ := hf
    refine W.eq (g2 := F0 m 39 ls [.ref q9]) rfl ?_
    refine lv_iload_n hx hb d_K_scriptsHold_39 rfl (lv_at hl 2 rfl) ?_
    obtain ⟨n_, f_, hm_, hin_, hf⟩ := hf
    obtain ⟨ix_, hi_⟩ := m_ix hm_
    refine va_aldq hx hb hK hP ix_ 6 hi_ rfl (inb_in hin_) d_K_scriptsHold_40 ?_
    obtain ⟨r10, ev⟩ : ∃ z, z = f_ x2.toNatClampNeg := ⟨_, rfl⟩
    first | rw [← ev] at hf ⊢ | rw [← ev]
    clear ev hi_ hm_ hin_
    have hq_ := ospp hf
    clear hf
    rcases hq_ with ⟨rfl, hf⟩ | ⟨q11, rfl, hf⟩
    · refine W.eq (g2 := F0 m 41 ls [.null]) rfl ?_
      refine lv_astore_nN (lv' := [(3, .null), (0, .ref x0), (1, .int x1), (2, .int x2)]) hx hb d_K_scriptsHold_41 rfl hl (by decide) rfl (fun ls hl => ?_)
      refine lv_aload_n hx hb d_K_scriptsHold_42 rfl (lv_at hl 1 rfl) ?_
      obtain ⟨fs_, hm_, r12, hv_, hf⟩ := hf
      obtain ⟨ix_, hi_⟩ := m_ix hm_
      refine va_get (D := D) (ci := 0) (v := va_rf r12) (C := "CoinKeeper") (T := F_0) (N := 13) hx hb hts i_0 hown hK hP ix_ hi_ rfl 5 (by decide) (hts _ gw_505) (fun _ h9 => h9) hv_ d_K_scriptsHold_43 ?_
      clear hv_ hi_ hm_
      obtain ⟨q13, rfl, hf⟩ := hf
      refine W.eq (g2 := F0 m 46 ls [.ref q13]) rfl ?_
      refine lv_iconst (v := 0) hx hb d_K_scriptsHold_46 (by decide) ?_
      refine lv_aload_n hx hb d_K_scriptsHold_47 rfl (lv_at hl 1 rfl) ?_
      obtain ⟨fs_, hm_, r14, hv_, hf⟩ := hf
      obtain ⟨ix_, hi_⟩ := m_ix hm_
      refine va_get (D := D) (ci := 0) (v := va_rf r14) (C := "CoinKeeper") (T := F_0) (N := 13) hx hb hts i_0 hown hK hP ix_ hi_ rfl 6 (by decide) (hts _ gw_506) (fun _ h9 => h9) hv_ d_K_scriptsHold_48 ?_
      clear hv_ hi_ hm_
      obtain ⟨q15, rfl, hf⟩ := hf
      refine W.eq (g2 := F0 m 51 ls [.ref q15, .int (0 : Int32), .ref q13]) rfl ?_
      obtain ⟨fs_, hm_, r16, hv_, hf⟩ := hf
      obtain ⟨ix_, hi_⟩ := m_ix hm_
      refine va_get (D := D) (ci := 4) (v := va_rf r16) (C := "CoinKeeper$Layout") (T := F_4) (N := 15) hx hb hts i_4 hown hK hP ix_ hi_ rfl 0 (by decide) (hts _ gw_270) (fun _ h9 => h9) hv_ d_K_scriptsHold_51 ?_
      clear hv_ hi_ hm_
      have hq_ := ospp hf
      clear hf
      rcases hq_ with ⟨rfl, hf⟩ | ⟨q17, rfl, hf⟩
      · refine W.eq (g2 := F0 m 54 ls [.null, .int (0 : Int32), .ref q13]) rfl ?_
        refine lv_aload_n hx hb d_K_scriptsHold_54 rfl (lv_at hl 1 rfl) ?_
        obtain ⟨fs_, hm_, r18, hv_, hf⟩ := hf
        obtain ⟨ix_, hi_⟩ := m_ix hm_
        refine va_get (D := D) (ci := 0) (v := va_rf r18) (C := "CoinKeeper") (T := F_0) (N := 13) hx hb hts i_0 hown hK hP ix_ hi_ rfl 6 (by decide) (hts _ gw_506) (fun _ h9 => h9) hv_ d_K_scriptsHold_55 ?_
        clear hv_ hi_ hm_
        obtain ⟨q19, rfl, hf⟩ := hf
        refine W.eq (g2 := F0 m 58 ls [.ref q19, .null, .int (0 : Int32), .ref q13]) rfl ?_
        obtain ⟨fs_, hm_, r20, hv_, hf⟩ := hf
        obtain ⟨ix_, hi_⟩ := m_ix hm_
        refine va_get (D := D) (ci := 4) (v := va_rf r20) (C := "CoinKeeper$Layout") (T := F_4) (N := 15) hx hb hts i_4 hown hK hP ix_ hi_ rfl 6 (by decide) (hts _ gw_286) (fun _ h9 => h9) hv_ d_K_scriptsHold_58 ?_
        clear hv_ hi_ hm_
        obtain ⟨q21, rfl, hf⟩ := hf
        refine W.eq (g2 := F0 m 61 ls [.ref q21, .null, .int (0 : Int32), .ref q13]) rfl ?_
        refine lv_iload_n hx hb d_K_scriptsHold_61 rfl (lv_at hl 3 rfl) ?_
        obtain ⟨n_, f_, hm_, hin_, hf⟩ := hf
        obtain ⟨ix_, hi_⟩ := m_ix hm_
        refine va_iald hx hb hK hP ix_ 1 hi_ rfl (inb_in hin_) d_K_scriptsHold_62 ?_
        obtain ⟨v22, ev⟩ : ∃ z, z = f_ x2.toNatClampNeg := ⟨_, rfl⟩
        first | rw [← ev] at hf ⊢ | rw [← ev]
        clear ev hi_ hm_ hin_
        refine lv_aload_n hx hb d_K_scriptsHold_63 rfl (lv_at hl 1 rfl) ?_
        obtain ⟨fs_, hm_, r23, hv_, hf⟩ := hf
        obtain ⟨ix_, hi_⟩ := m_ix hm_
        refine va_get (D := D) (ci := 0) (v := va_rf r23) (C := "CoinKeeper") (T := F_0) (N := 13) hx hb hts i_0 hown hK hP ix_ hi_ rfl 6 (by decide) (hts _ gw_506) (fun _ h9 => h9) hv_ d_K_scriptsHold_64 ?_
        clear hv_ hi_ hm_
        obtain ⟨q24, rfl, hf⟩ := hf
        refine W.eq (g2 := F0 m 67 ls [.ref q24, .int v22, .null, .int (0 : Int32), .ref q13]) rfl ?_
        obtain ⟨fs_, hm_, r25, hv_, hf⟩ := hf
        obtain ⟨ix_, hi_⟩ := m_ix hm_
        refine va_get (D := D) (ci := 4) (v := va_rf r25) (C := "CoinKeeper$Layout") (T := F_4) (N := 15) hx hb hts i_4 hown hK hP ix_ hi_ rfl 7 (by decide) (hts _ gw_288) (fun _ h9 => h9) hv_ d_K_scriptsHold_67 ?_
        clear hv_ hi_ hm_
        obtain ⟨q26, rfl, hf⟩ := hf
        refine W.eq (g2 := F0 m 70 ls [.ref q26, .int v22, .null, .int (0 : Int32), .ref q13]) rfl ?_
        refine lv_iload_n hx hb d_K_scriptsHold_70 rfl (lv_at hl 3 rfl) ?_
        obtain ⟨n_, f_, hm_, hin_, hf⟩ := hf
        obtain ⟨ix_, hi_⟩ := m_ix hm_
        refine va_iald hx hb hK hP ix_ 1 hi_ rfl (inb_in hin_) d_K_scriptsHold_71 ?_
        obtain ⟨v27, ev⟩ : ∃ z, z = f_ x2.toNatClampNeg := ⟨_, rfl⟩
        first | rw [← ev] at hf ⊢ | rw [← ev]
        clear ev hi_ hm_ hin_
        exact hf.elim
      · refine W.eq (g2 := F0 m 54 ls [.ref q17, .int (0 : Int32), .ref q13]) rfl ?_
        refine lv_aload_n hx hb d_K_scriptsHold_54 rfl (lv_at hl 1 rfl) ?_
        obtain ⟨fs_, hm_, r28, hv_, hf⟩ := hf
        obtain ⟨ix_, hi_⟩ := m_ix hm_
        refine va_get (D := D) (ci := 0) (v := va_rf r28) (C := "CoinKeeper") (T := F_0) (N := 13) hx hb hts i_0 hown hK hP ix_ hi_ rfl 6 (by decide) (hts _ gw_506) (fun _ h9 => h9) hv_ d_K_scriptsHold_55 ?_
        clear hv_ hi_ hm_
        obtain ⟨q29, rfl, hf⟩ := hf
        refine W.eq (g2 := F0 m 58 ls [.ref q29, .ref q17, .int (0 : Int32), .ref q13]) rfl ?_
        obtain ⟨fs_, hm_, r30, hv_, hf⟩ := hf
        obtain ⟨ix_, hi_⟩ := m_ix hm_
        refine va_get (D := D) (ci := 4) (v := va_rf r30) (C := "CoinKeeper$Layout") (T := F_4) (N := 15) hx hb hts i_4 hown hK hP ix_ hi_ rfl 6 (by decide) (hts _ gw_286) (fun _ h9 => h9) hv_ d_K_scriptsHold_58 ?_
        clear hv_ hi_ hm_
        obtain ⟨q31, rfl, hf⟩ := hf
        refine W.eq (g2 := F0 m 61 ls [.ref q31, .ref q17, .int (0 : Int32), .ref q13]) rfl ?_
        refine lv_iload_n hx hb d_K_scriptsHold_61 rfl (lv_at hl 3 rfl) ?_
        obtain ⟨n_, f_, hm_, hin_, hf⟩ := hf
        obtain ⟨ix_, hi_⟩ := m_ix hm_
        refine va_iald hx hb hK hP ix_ 1 hi_ rfl (inb_in hin_) d_K_scriptsHold_62 ?_
        obtain ⟨v32, ev⟩ : ∃ z, z = f_ x2.toNatClampNeg := ⟨_, rfl⟩
        first | rw [← ev] at hf ⊢ | rw [← ev]
        clear ev hi_ hm_ hin_
        refine lv_aload_n hx hb d_K_scriptsHold_63 rfl (lv_at hl 1 rfl) ?_
        obtain ⟨fs_, hm_, r33, hv_, hf⟩ := hf
        obtain ⟨ix_, hi_⟩ := m_ix hm_
        refine va_get (D := D) (ci := 0) (v := va_rf r33) (C := "CoinKeeper") (T := F_0) (N := 13) hx hb hts i_0 hown hK hP ix_ hi_ rfl 6 (by decide) (hts _ gw_506) (fun _ h9 => h9) hv_ d_K_scriptsHold_64 ?_
        clear hv_ hi_ hm_
        obtain ⟨q34, rfl, hf⟩ := hf
        refine W.eq (g2 := F0 m 67 ls [.ref q34, .int v32, .ref q17, .int (0 : Int32), .ref q13]) rfl ?_
        obtain ⟨fs_, hm_, r35, hv_, hf⟩ := hf
        obtain ⟨ix_, hi_⟩ := m_ix hm_
        refine va_get (D := D) (ci := 4) (v := va_rf r35) (C := "CoinKeeper$Layout") (T := F_4) (N := 15) hx hb hts i_4 hown hK hP ix_ hi_ rfl 7 (by decide) (hts _ gw_288) (fun _ h9 => h9) hv_ d_K_scriptsHold_67 ?_
        clear hv_ hi_ hm_
        obtain ⟨q36, rfl, hf⟩ := hf
        refine W.eq (g2 := F0 m 70 ls [.ref q36, .int v32, .ref q17, .int (0 : Int32), .ref q13]) rfl ?_
        refine lv_iload_n hx hb d_K_scriptsHold_70 rfl (lv_at hl 3 rfl) ?_
        obtain ⟨n_, f_, hm_, hin_, hf⟩ := hf
        obtain ⟨ix_, hi_⟩ := m_ix hm_
        refine va_iald hx hb hK hP ix_ 1 hi_ rfl (inb_in hin_) d_K_scriptsHold_71 ?_
        obtain ⟨v37, ev⟩ : ∃ z, z = f_ x2.toNatClampNeg := ⟨_, rfl⟩
        first | rw [← ev] at hf ⊢ | rw [← ev]
        clear ev hi_ hm_ hin_
        obtain ⟨b38, b39, b40, b41, b42, b43, b44, b45, b46, b47, c48, c49, c50, c51, c52, c53, c54, c55, c56, c57, c58, c59, c60, hal_, hnd_, c61, c62, hc, hf⟩ := hf
        refine m_lv (va_runV (C := "CoinKeeper$Machine") (As := [.int (0 : Int32), .ref q17, .int v32, .int v37]) (rest := []) ⟨hx, hb, hml, hown, hts⟩ (c_Ma_load l D cy ad fu q13 b38 b39 b40 b41 b42 b43 b44 b45 b46 b47 q17 c48 c49 c50 c51 c52 c53 c54 c55 c56 c57 c58 (0 : Int32) v32 v37 c59 c60 _ hc H.size) ⟨q_cB hts gw_975 gw_6 gw_972 hds_91 ⟨Nat.le_of_ble_eq_true rfl, Nat.le_of_ble_eq_true rfl⟩, hts _ gw_973, hts _ gw_974⟩ (q_preV (q_pre (m_subP hP hal_) (m_subD hD hal_ hnd_) hK hSt hS (m_lF hD hS hA hal_) _) (va_recv hK (m_subP hP hal_) (ci := 6) (q0 := 0) rfl rfl)) rfl rfl hl.1 rfl (lv_room (Nat.le_of_ble_eq_true rfl)) d_K_scriptsHold_72 ⟨hkc, hks⟩) hP hD hS hA hal_ rfl (fun H locs hP hD hS => ?_)
        refine W.widen (k := κ) (n := σ) (Nat.le_refl _) (Nat.le_refl _) ?_
        obtain ⟨M63, eM_, hf⟩ := bnP hf
        have hP : va_P D classes (mw M63) H := by rw [eM_]; exact hP
        have hD : va_D A (mw M63) := by rw [eM_]; exact hD
        clear eM_ hal_ hnd_ hc
        refine lv_aload_n hx hb d_K_scriptsHold_75 rfl (lv_at hl 1 rfl) ?_
        obtain ⟨fs_, hm_, r64, hv_, hf⟩ := hf
        obtain ⟨ix_, hi_⟩ := m_ix hm_
        refine va_get (D := D) (ci := 0) (v := va_rf r64) (C := "CoinKeeper") (T := F_0) (N := 13) hx hb hts i_0 hown hK hP ix_ hi_ rfl 5 (by decide) (hts _ gw_505) (fun _ h9 => h9) hv_ d_K_scriptsHold_76 ?_
        clear hv_ hi_ hm_
        obtain ⟨q65, rfl, hf⟩ := hf
        refine W.eq (g2 := F0 m 79 ls [.ref q65]) rfl ?_
        refine lv_iconst (v := 1) hx hb d_K_scriptsHold_79 (by decide) ?_
        refine lv_aload_nN hx hb d_K_scriptsHold_80 rfl (lv_at hl 0 rfl) ?_
        exact hf.elim
    · refine W.eq (g2 := F0 m 41 ls [.ref q11]) rfl ?_
      refine lv_astore_n (lv' := [(3, .ref q11), (0, .ref x0), (1, .int x1), (2, .int x2)]) hx hb d_K_scriptsHold_41 rfl hl (by decide) rfl (fun ls hl => ?_)
      refine lv_aload_n hx hb d_K_scriptsHold_42 rfl (lv_at hl 1 rfl) ?_
      obtain ⟨fs_, hm_, r66, hv_, hf⟩ := hf
      obtain ⟨ix_, hi_⟩ := m_ix hm_
      refine va_get (D := D) (ci := 0) (v := va_rf r66) (C := "CoinKeeper") (T := F_0) (N := 13) hx hb hts i_0 hown hK hP ix_ hi_ rfl 5 (by decide) (hts _ gw_505) (fun _ h9 => h9) hv_ d_K_scriptsHold_43 ?_
      clear hv_ hi_ hm_
      obtain ⟨q67, rfl, hf⟩ := hf
      refine W.eq (g2 := F0 m 46 ls [.ref q67]) rfl ?_
      refine lv_iconst (v := 0) hx hb d_K_scriptsHold_46 (by decide) ?_
      refine lv_aload_n hx hb d_K_scriptsHold_47 rfl (lv_at hl 1 rfl) ?_
      obtain ⟨fs_, hm_, r68, hv_, hf⟩ := hf
      obtain ⟨ix_, hi_⟩ := m_ix hm_
      refine va_get (D := D) (ci := 0) (v := va_rf r68) (C := "CoinKeeper") (T := F_0) (N := 13) hx hb hts i_0 hown hK hP ix_ hi_ rfl 6 (by decide) (hts _ gw_506) (fun _ h9 => h9) hv_ d_K_scriptsHold_48 ?_
      clear hv_ hi_ hm_
      obtain ⟨q69, rfl, hf⟩ := hf
      refine W.eq (g2 := F0 m 51 ls [.ref q69, .int (0 : Int32), .ref q67]) rfl ?_
      obtain ⟨fs_, hm_, r70, hv_, hf⟩ := hf
      obtain ⟨ix_, hi_⟩ := m_ix hm_
      refine va_get (D := D) (ci := 4) (v := va_rf r70) (C := "CoinKeeper$Layout") (T := F_4) (N := 15) hx hb hts i_4 hown hK hP ix_ hi_ rfl 0 (by decide) (hts _ gw_270) (fun _ h9 => h9) hv_ d_K_scriptsHold_51 ?_
      clear hv_ hi_ hm_
      have hq_ := ospp hf
      clear hf
      rcases hq_ with ⟨rfl, hf⟩ | ⟨q71, rfl, hf⟩
      · refine W.eq (g2 := F0 m 54 ls [.null, .int (0 : Int32), .ref q67]) rfl ?_
        refine lv_aload_n hx hb d_K_scriptsHold_54 rfl (lv_at hl 1 rfl) ?_
        obtain ⟨fs_, hm_, r72, hv_, hf⟩ := hf
        obtain ⟨ix_, hi_⟩ := m_ix hm_
        refine va_get (D := D) (ci := 0) (v := va_rf r72) (C := "CoinKeeper") (T := F_0) (N := 13) hx hb hts i_0 hown hK hP ix_ hi_ rfl 6 (by decide) (hts _ gw_506) (fun _ h9 => h9) hv_ d_K_scriptsHold_55 ?_
        clear hv_ hi_ hm_
        obtain ⟨q73, rfl, hf⟩ := hf
        refine W.eq (g2 := F0 m 58 ls [.ref q73, .null, .int (0 : Int32), .ref q67]) rfl ?_
        obtain ⟨fs_, hm_, r74, hv_, hf⟩ := hf
        obtain ⟨ix_, hi_⟩ := m_ix hm_
        refine va_get (D := D) (ci := 4) (v := va_rf r74) (C := "CoinKeeper$Layout") (T := F_4) (N := 15) hx hb hts i_4 hown hK hP ix_ hi_ rfl 6 (by decide) (hts _ gw_286) (fun _ h9 => h9) hv_ d_K_scriptsHold_58 ?_
        clear hv_ hi_ hm_
        obtain ⟨q75, rfl, hf⟩ := hf
        refine W.eq (g2 := F0 m 61 ls [.ref q75, .null, .int (0 : Int32), .ref q67]) rfl ?_
        refine lv_iload_n hx hb d_K_scriptsHold_61 rfl (lv_at hl 3 rfl) ?_
        obtain ⟨n_, f_, hm_, hin_, hf⟩ := hf
        obtain ⟨ix_, hi_⟩ := m_ix hm_
        refine va_iald hx hb hK hP ix_ 1 hi_ rfl (inb_in hin_) d_K_scriptsHold_62 ?_
        obtain ⟨v76, ev⟩ : ∃ z, z = f_ x2.toNatClampNeg := ⟨_, rfl⟩
        first | rw [← ev] at hf ⊢ | rw [← ev]
        clear ev hi_ hm_ hin_
        refine lv_aload_n hx hb d_K_scriptsHold_63 rfl (lv_at hl 1 rfl) ?_
        obtain ⟨fs_, hm_, r77, hv_, hf⟩ := hf
        obtain ⟨ix_, hi_⟩ := m_ix hm_
        refine va_get (D := D) (ci := 0) (v := va_rf r77) (C := "CoinKeeper") (T := F_0) (N := 13) hx hb hts i_0 hown hK hP ix_ hi_ rfl 6 (by decide) (hts _ gw_506) (fun _ h9 => h9) hv_ d_K_scriptsHold_64 ?_
        clear hv_ hi_ hm_
        obtain ⟨q78, rfl, hf⟩ := hf
        refine W.eq (g2 := F0 m 67 ls [.ref q78, .int v76, .null, .int (0 : Int32), .ref q67]) rfl ?_
        obtain ⟨fs_, hm_, r79, hv_, hf⟩ := hf
        obtain ⟨ix_, hi_⟩ := m_ix hm_
        refine va_get (D := D) (ci := 4) (v := va_rf r79) (C := "CoinKeeper$Layout") (T := F_4) (N := 15) hx hb hts i_4 hown hK hP ix_ hi_ rfl 7 (by decide) (hts _ gw_288) (fun _ h9 => h9) hv_ d_K_scriptsHold_67 ?_
        clear hv_ hi_ hm_
        obtain ⟨q80, rfl, hf⟩ := hf
        refine W.eq (g2 := F0 m 70 ls [.ref q80, .int v76, .null, .int (0 : Int32), .ref q67]) rfl ?_
        refine lv_iload_n hx hb d_K_scriptsHold_70 rfl (lv_at hl 3 rfl) ?_
        obtain ⟨n_, f_, hm_, hin_, hf⟩ := hf
        obtain ⟨ix_, hi_⟩ := m_ix hm_
        refine va_iald hx hb hK hP ix_ 1 hi_ rfl (inb_in hin_) d_K_scriptsHold_71 ?_
        obtain ⟨v81, ev⟩ : ∃ z, z = f_ x2.toNatClampNeg := ⟨_, rfl⟩
        first | rw [← ev] at hf ⊢ | rw [← ev]
        clear ev hi_ hm_ hin_
        exact hf.elim
      · refine W.eq (g2 := F0 m 54 ls [.ref q71, .int (0 : Int32), .ref q67]) rfl ?_
        refine lv_aload_n hx hb d_K_scriptsHold_54 rfl (lv_at hl 1 rfl) ?_
        obtain ⟨fs_, hm_, r82, hv_, hf⟩ := hf
        obtain ⟨ix_, hi_⟩ := m_ix hm_
        refine va_get (D := D) (ci := 0) (v := va_rf r82) (C := "CoinKeeper") (T := F_0) (N := 13) hx hb hts i_0 hown hK hP ix_ hi_ rfl 6 (by decide) (hts _ gw_506) (fun _ h9 => h9) hv_ d_K_scriptsHold_55 ?_
        clear hv_ hi_ hm_
        obtain ⟨q83, rfl, hf⟩ := hf
        refine W.eq (g2 := F0 m 58 ls [.ref q83, .ref q71, .int (0 : Int32), .ref q67]) rfl ?_
        obtain ⟨fs_, hm_, r84, hv_, hf⟩ := hf
        obtain ⟨ix_, hi_⟩ := m_ix hm_
        refine va_get (D := D) (ci := 4) (v := va_rf r84) (C := "CoinKeeper$Layout") (T := F_4) (N := 15) hx hb hts i_4 hown hK hP ix_ hi_ rfl 6 (by decide) (hts _ gw_286) (fun _ h9 => h9) hv_ d_K_scriptsHold_58 ?_
        clear hv_ hi_ hm_
        obtain ⟨q85, rfl, hf⟩ := hf
        refine W.eq (g2 := F0 m 61 ls [.ref q85, .ref q71, .int (0 : Int32), .ref q67]) rfl ?_
        refine lv_iload_n hx hb d_K_scriptsHold_61 rfl (lv_at hl 3 rfl) ?_
        obtain ⟨n_, f_, hm_, hin_, hf⟩ := hf
        obtain ⟨ix_, hi_⟩ := m_ix hm_
        refine va_iald hx hb hK hP ix_ 1 hi_ rfl (inb_in hin_) d_K_scriptsHold_62 ?_
        obtain ⟨v86, ev⟩ : ∃ z, z = f_ x2.toNatClampNeg := ⟨_, rfl⟩
        first | rw [← ev] at hf ⊢ | rw [← ev]
        clear ev hi_ hm_ hin_
        refine lv_aload_n hx hb d_K_scriptsHold_63 rfl (lv_at hl 1 rfl) ?_
        obtain ⟨fs_, hm_, r87, hv_, hf⟩ := hf
        obtain ⟨ix_, hi_⟩ := m_ix hm_
        refine va_get (D := D) (ci := 0) (v := va_rf r87) (C := "CoinKeeper") (T := F_0) (N := 13) hx hb hts i_0 hown hK hP ix_ hi_ rfl 6 (by decide) (hts _ gw_506) (fun _ h9 => h9) hv_ d_K_scriptsHold_64 ?_
        clear hv_ hi_ hm_
        obtain ⟨q88, rfl, hf⟩ := hf
        refine W.eq (g2 := F0 m 67 ls [.ref q88, .int v86, .ref q71, .int (0 : Int32), .ref q67]) rfl ?_
        obtain ⟨fs_, hm_, r89, hv_, hf⟩ := hf
        obtain ⟨ix_, hi_⟩ := m_ix hm_
        refine va_get (D := D) (ci := 4) (v := va_rf r89) (C := "CoinKeeper$Layout") (T := F_4) (N := 15) hx hb hts i_4 hown hK hP ix_ hi_ rfl 7 (by decide) (hts _ gw_288) (fun _ h9 => h9) hv_ d_K_scriptsHold_67 ?_
        clear hv_ hi_ hm_
        obtain ⟨q90, rfl, hf⟩ := hf
        refine W.eq (g2 := F0 m 70 ls [.ref q90, .int v86, .ref q71, .int (0 : Int32), .ref q67]) rfl ?_
        refine lv_iload_n hx hb d_K_scriptsHold_70 rfl (lv_at hl 3 rfl) ?_
        obtain ⟨n_, f_, hm_, hin_, hf⟩ := hf
        obtain ⟨ix_, hi_⟩ := m_ix hm_
        refine va_iald hx hb hK hP ix_ 1 hi_ rfl (inb_in hin_) d_K_scriptsHold_71 ?_
        obtain ⟨v91, ev⟩ : ∃ z, z = f_ x2.toNatClampNeg := ⟨_, rfl⟩
        first | rw [← ev] at hf ⊢ | rw [← ev]
        clear ev hi_ hm_ hin_
        obtain ⟨b92, b93, b94, b95, b96, b97, b98, b99, b100, b101, c102, c103, c104, c105, c106, c107, c108, c109, c110, c111, c112, c113, c114, hal_, hnd_, c115, c116, hc, hf⟩ := hf
        refine m_lv (va_runV (C := "CoinKeeper$Machine") (As := [.int (0 : Int32), .ref q71, .int v86, .int v91]) (rest := []) ⟨hx, hb, hml, hown, hts⟩ (c_Ma_load l D cy ad fu q67 b92 b93 b94 b95 b96 b97 b98 b99 b100 b101 q71 c102 c103 c104 c105 c106 c107 c108 c109 c110 c111 c112 (0 : Int32) v86 v91 c113 c114 _ hc H.size) ⟨q_cB hts gw_975 gw_6 gw_972 hds_91 ⟨Nat.le_of_ble_eq_true rfl, Nat.le_of_ble_eq_true rfl⟩, hts _ gw_973, hts _ gw_974⟩ (q_preV (q_pre (m_subP hP hal_) (m_subD hD hal_ hnd_) hK hSt hS (m_lF hD hS hA hal_) _) (va_recv hK (m_subP hP hal_) (ci := 6) (q0 := 0) rfl rfl)) rfl rfl hl.1 rfl (lv_room (Nat.le_of_ble_eq_true rfl)) d_K_scriptsHold_72 ⟨hkc, hks⟩) hP hD hS hA hal_ rfl (fun H locs hP hD hS => ?_)
        refine W.widen (k := κ) (n := σ) (Nat.le_refl _) (Nat.le_refl _) ?_
        obtain ⟨M117, eM_, hf⟩ := bnP hf
        have hP : va_P D classes (mw M117) H := by rw [eM_]; exact hP
        have hD : va_D A (mw M117) := by rw [eM_]; exact hD
        clear eM_ hal_ hnd_ hc
        refine lv_aload_n hx hb d_K_scriptsHold_75 rfl (lv_at hl 1 rfl) ?_
        obtain ⟨fs_, hm_, r118, hv_, hf⟩ := hf
        obtain ⟨ix_, hi_⟩ := m_ix hm_
        refine va_get (D := D) (ci := 0) (v := va_rf r118) (C := "CoinKeeper") (T := F_0) (N := 13) hx hb hts i_0 hown hK hP ix_ hi_ rfl 5 (by decide) (hts _ gw_505) (fun _ h9 => h9) hv_ d_K_scriptsHold_76 ?_
        clear hv_ hi_ hm_
        obtain ⟨q119, rfl, hf⟩ := hf
        refine W.eq (g2 := F0 m 79 ls [.ref q119]) rfl ?_
        refine lv_iconst (v := 1) hx hb d_K_scriptsHold_79 (by decide) ?_
        refine lv_aload_n hx hb d_K_scriptsHold_80 rfl (lv_at hl 0 rfl) ?_
        obtain ⟨fs_, hm_, r120, hv_, hf⟩ := hf
        obtain ⟨ix_, hi_⟩ := m_ix hm_
        refine va_get (D := D) (ci := 2) (v := va_rf r120) (C := "CoinKeeper$Coin") (T := F_2) (N := 10) hx hb hts i_2 hown hK hP ix_ hi_ rfl 0 (by decide) (hts _ gw_852) (fun _ h9 => h9) hv_ d_K_scriptsHold_81 ?_
        clear hv_ hi_ hm_
        obtain ⟨q121, rfl, hf⟩ := hf
        refine W.eq (g2 := F0 m 84 ls [.ref q121, .int (1 : Int32), .ref q119]) rfl ?_
        obtain ⟨fs_, hm_, r122, hv_, hf⟩ := hf
        obtain ⟨ix_, hi_⟩ := m_ix hm_
        refine va_get (D := D) (ci := 1) (v := va_rf r122) (C := "CoinKeeper$Block") (T := F_1) (N := 12) hx hb hts i_1 hown hK hP ix_ hi_ rfl 1 (by decide) (hts _ gw_393) (fun _ h9 => h9) hv_ d_K_scriptsHold_84 ?_
        clear hv_ hi_ hm_
        obtain ⟨q123, rfl, hf⟩ := hf
        refine W.eq (g2 := F0 m 87 ls [.ref q123, .int (1 : Int32), .ref q119]) rfl ?_
        refine lv_aload_n hx hb d_K_scriptsHold_87 rfl (lv_at hl 0 rfl) ?_
        obtain ⟨fs_, hm_, v124, hv_, hf⟩ := hf
        obtain ⟨ix_, hi_⟩ := m_ix hm_
        refine va_get (D := D) (ci := 2) (v := .int v124) (C := "CoinKeeper$Coin") (T := F_2) (N := 10) hx hb hts i_2 hown hK hP ix_ hi_ rfl 7 (by decide) (hts _ gw_868) (fun _ h9 => h9) hv_ d_K_scriptsHold_88 ?_
        clear hv_ hi_ hm_
        refine lv_aload_n hx hb d_K_scriptsHold_91 rfl (lv_at hl 0 rfl) ?_
        obtain ⟨fs_, hm_, v125, hv_, hf⟩ := hf
        obtain ⟨ix_, hi_⟩ := m_ix hm_
        refine va_get (D := D) (ci := 2) (v := .int v125) (C := "CoinKeeper$Coin") (T := F_2) (N := 10) hx hb hts i_2 hown hK hP ix_ hi_ rfl 8 (by decide) (hts _ gw_870) (fun _ h9 => h9) hv_ d_K_scriptsHold_92 ?_
        clear hv_ hi_ hm_
        obtain ⟨b126, b127, b128, b129, b130, b131, b132, b133, b134, b135, c136, c137, c138, c139, c140, c141, c142, c143, c144, c145, c146, c147, c148, hal_, hnd_, c149, c150, hc, hf⟩ := hf
        refine m_lv (va_runV (C := "CoinKeeper$Machine") (As := [.int (1 : Int32), .ref q123, .int v124, .int v125]) (rest := []) ⟨hx, hb, hml, hown, hts⟩ (c_Ma_load l D cy ad fu q119 b126 b127 b128 b129 b130 b131 b132 b133 b134 b135 q123 c136 c137 c138 c139 c140 c141 c142 c143 c144 c145 c146 (1 : Int32) v124 v125 c147 c148 _ hc H.size) ⟨q_cB hts gw_975 gw_6 gw_972 hds_91 ⟨Nat.le_of_ble_eq_true rfl, Nat.le_of_ble_eq_true rfl⟩, hts _ gw_973, hts _ gw_974⟩ (q_preV (q_pre (m_subP hP hal_) (m_subD hD hal_ hnd_) hK hSt hS (m_lF hD hS hA hal_) _) (va_recv hK (m_subP hP hal_) (ci := 6) (q0 := 0) rfl rfl)) rfl rfl hl.1 rfl (lv_room (Nat.le_of_ble_eq_true rfl)) d_K_scriptsHold_95 ⟨hkc, hks⟩) hP hD hS hA hal_ rfl (fun H locs hP hD hS => ?_)
        refine W.widen (k := κ) (n := σ) (Nat.le_refl _) (Nat.le_refl _) ?_
        obtain ⟨M151, eM_, hf⟩ := bnP hf
        have hP : va_P D classes (mw M151) H := by rw [eM_]; exact hP
        have hD : va_D A (mw M151) := by rw [eM_]; exact hD
        clear eM_ hal_ hnd_ hc
        refine lv_aload_n hx hb d_K_scriptsHold_98 rfl (lv_at hl 1 rfl) ?_
        obtain ⟨fs_, hm_, r152, hv_, hf⟩ := hf
        obtain ⟨ix_, hi_⟩ := m_ix hm_
        refine va_get (D := D) (ci := 0) (v := va_rf r152) (C := "CoinKeeper") (T := F_0) (N := 13) hx hb hts i_0 hown hK hP ix_ hi_ rfl 5 (by decide) (hts _ gw_505) (fun _ h9 => h9) hv_ d_K_scriptsHold_99 ?_
        clear hv_ hi_ hm_
        obtain ⟨q153, rfl, hf⟩ := hf
        refine W.eq (g2 := F0 m 102 ls [.ref q153]) rfl ?_
        refine lv_aload_n hx hb d_K_scriptsHold_102 rfl (lv_at hl 1 rfl) ?_
        obtain ⟨fs_, hm_, r154, hv_, hf⟩ := hf
        obtain ⟨ix_, hi_⟩ := m_ix hm_
        refine va_get (D := D) (ci := 0) (v := va_rf r154) (C := "CoinKeeper") (T := F_0) (N := 13) hx hb hts i_0 hown hK hP ix_ hi_ rfl 6 (by decide) (hts _ gw_506) (fun _ h9 => h9) hv_ d_K_scriptsHold_103 ?_
        clear hv_ hi_ hm_
        obtain ⟨q155, rfl, hf⟩ := hf
        refine W.eq (g2 := F0 m 106 ls [.ref q155, .ref q153]) rfl ?_
        refine lv_iload_n hx hb d_K_scriptsHold_106 rfl (lv_at hl 2 rfl) ?_
        refine lv_iload_n hx hb d_K_scriptsHold_107 rfl (lv_at hl 3 rfl) ?_
        refine lv_aload_n hx hb d_K_scriptsHold_108 rfl (lv_at hl 0 rfl) ?_
        obtain ⟨fs_, hm_, hf⟩ := hf
        obtain ⟨ix_, hi_⟩ := m_ix hm_
        obtain ⟨mc156, ms157, ⟨hc_, hd_⟩, hf⟩ := hf
        refine m_av (va_runV (C := "CoinKeeper$Machine") (As := [.ref q155, .int x1, .int x2, .ref q11]) (rest := []) ⟨hx, hb, hml, hown, hts⟩ (cw_mMa_spend l D cy ad mi fu mc156 ms157 q153 q155 x1 x2 q11 M151 _ hf H.size) ⟨q_cB hts gw_980 gw_6 gw_977 hds_92 ⟨Nat.le_of_ble_eq_true rfl, Nat.le_of_ble_eq_true rfl⟩, hts _ gw_978, hts _ gw_979⟩ (q_preVM (q_preM hP hD hK hSt hT hMi hS (m_free hD hS hA) _) (va_recv hK hP (ci := 6) (q0 := ix_) rfl hi_)) rfl rfl hl.1 rfl (lv_room (Nat.le_of_ble_eq_true rfl)) d_K_scriptsHold_109 ⟨hc_, hd_⟩) hD hS hA (fun M158 H locs hf hP hD hS => ?_)
        have hkc : κ + mc156 ≤ MC := hc_
        have hks : σ + ms157 ≤ MS := hd_
        clear hc_ hd_
        refine lv_aload_n hx hb d_K_scriptsHold_112 rfl (lv_at hl 1 rfl) ?_
        obtain ⟨fs_, hm_, r159, hv_, hf⟩ := hf
        obtain ⟨ix_, hi_⟩ := m_ix hm_
        refine va_get (D := D) (ci := 0) (v := va_rf r159) (C := "CoinKeeper") (T := F_0) (N := 13) hx hb hts i_0 hown hK hP ix_ hi_ rfl 5 (by decide) (hts _ gw_505) (fun _ h9 => h9) hv_ d_K_scriptsHold_113 ?_
        clear hv_ hi_ hm_
        obtain ⟨q160, rfl, hf⟩ := hf
        refine W.eq (g2 := F0 m 116 ls [.ref q160]) rfl ?_
        refine lv_iconst (v := 0) hx hb d_K_scriptsHold_116 (by decide) ?_
        obtain ⟨fs_, hm_, hf⟩ := hf
        obtain ⟨ix_, hi_⟩ := m_ix hm_
        obtain ⟨mc161, ms162, ⟨hc_, hd_⟩, hf⟩ := hf
        refine mm_ai (va_runV (C := "CoinKeeper$Machine") (As := [.int (0 : Int32)]) (rest := []) ⟨hx, hb, hml, hown, hts⟩ (cw_mMa_run l D cy ad mi fu mc161 ms162 q160 (0 : Int32) M158 _ hf H.size) ⟨q_cB hts gw_984 gw_6 gw_981 hds_93 ⟨Nat.le_of_ble_eq_true rfl, Nat.le_of_ble_eq_true rfl⟩, hts _ gw_982, hts _ gw_983⟩ (q_preVM (q_preM hP hD hK hSt hT hMi hS (m_free hD hS hA) _) (va_recv hK hP (ci := 6) (q0 := ix_) rfl hi_)) rfl rfl hl.1 rfl (lv_room (Nat.le_of_ble_eq_true rfl)) d_K_scriptsHold_117 ⟨hc_, hd_⟩) hD hS hA (fun v164 M163 H locs hf hP hD hS => ?_)
        have hkc : κ + mc156 + mc161 ≤ MC := hc_
        have hks : σ + ms157 + ms162 ≤ MS := hd_
        clear hc_ hd_
        refine lv_if_eq (tgt := 144) hx hb d_K_scriptsHold_120 (by decide) (fun cx => ?_) (fun cx => ?_)
        · have hf := ifpP cx hf
          refine lv_iconst (v := 0) hx hb d_K_scriptsHold_144 (by decide) ?_
          refine W.widen (k := MC) (n := MS) hkc hks ?_
          exact m_rz hf hx hb hr hlocks hK hP hD hS (isb_n (v := 0) (by decide)) d_K_scriptsHold_145
        · have hf := ifnP cx hf
          refine lv_aload_n hx hb d_K_scriptsHold_123 rfl (lv_at hl 1 rfl) ?_
          obtain ⟨fs_, hm_, r165, hv_, hf⟩ := hf
          obtain ⟨ix_, hi_⟩ := m_ix hm_
          refine va_get (D := D) (ci := 0) (v := va_rf r165) (C := "CoinKeeper") (T := F_0) (N := 13) hx hb hts i_0 hown hK hP ix_ hi_ rfl 5 (by decide) (hts _ gw_505) (fun _ h9 => h9) hv_ d_K_scriptsHold_124 ?_
          clear hv_ hi_ hm_
          obtain ⟨q166, rfl, hf⟩ := hf
          refine W.eq (g2 := F0 m 127 ls [.ref q166]) rfl ?_
          refine lv_iconst (v := 1) hx hb d_K_scriptsHold_127 (by decide) ?_
          obtain ⟨fs_, hm_, hf⟩ := hf
          obtain ⟨ix_, hi_⟩ := m_ix hm_
          obtain ⟨mc167, ms168, ⟨hc_, hd_⟩, hf⟩ := hf
          refine mm_ai (va_runV (C := "CoinKeeper$Machine") (As := [.int (1 : Int32)]) (rest := []) ⟨hx, hb, hml, hown, hts⟩ (cw_mMa_run l D cy ad mi fu mc167 ms168 q166 (1 : Int32) M163 _ hf H.size) ⟨q_cB hts gw_984 gw_6 gw_981 hds_93 ⟨Nat.le_of_ble_eq_true rfl, Nat.le_of_ble_eq_true rfl⟩, hts _ gw_982, hts _ gw_983⟩ (q_preVM (q_preM hP hD hK hSt hT hMi hS (m_free hD hS hA) _) (va_recv hK hP (ci := 6) (q0 := ix_) rfl hi_)) rfl rfl hl.1 rfl (lv_room (Nat.le_of_ble_eq_true rfl)) d_K_scriptsHold_128 ⟨hc_, hd_⟩) hD hS hA (fun v170 M169 H locs hf hP hD hS => ?_)
          have hkc : κ + mc156 + mc161 + mc167 ≤ MC := hc_
          have hks : σ + ms157 + ms162 + ms168 ≤ MS := hd_
          clear hc_ hd_
          refine lv_if_eq (tgt := 144) hx hb d_K_scriptsHold_131 (by decide) (fun cx => ?_) (fun cx => ?_)
          · have hf := ifpP cx hf
            refine lv_iconst (v := 0) hx hb d_K_scriptsHold_144 (by decide) ?_
            refine W.widen (k := MC) (n := MS) hkc hks ?_
            exact m_rz hf hx hb hr hlocks hK hP hD hS (isb_n (v := 0) (by decide)) d_K_scriptsHold_145
          · have hf := ifnP cx hf
            refine lv_aload_n hx hb d_K_scriptsHold_134 rfl (lv_at hl 1 rfl) ?_
            obtain ⟨fs_, hm_, r171, hv_, hf⟩ := hf
            obtain ⟨ix_, hi_⟩ := m_ix hm_
            refine va_get (D := D) (ci := 0) (v := va_rf r171) (C := "CoinKeeper") (T := F_0) (N := 13) hx hb hts i_0 hown hK hP ix_ hi_ rfl 5 (by decide) (hts _ gw_505) (fun _ h9 => h9) hv_ d_K_scriptsHold_135 ?_
            clear hv_ hi_ hm_
            obtain ⟨q172, rfl, hf⟩ := hf
            refine W.eq (g2 := F0 m 138 ls [.ref q172]) rfl ?_
            obtain ⟨b173, b174, b175, b176, b177, b178, b179, b180, b181, b182, c183, c184, c185, c186, c187, c188, c189, c190, c191, c192, c193, hal_, hnd_, v194, hc, hf⟩ := hf
            refine m_li (va_runV (C := "CoinKeeper$Machine") (As := []) (rest := []) ⟨hx, hb, hml, hown, hts⟩ (c_Ma_endsTrue l D cy ad fu q172 b173 b174 b175 b176 b177 b178 b179 b180 b181 b182 c183 c184 c185 c186 c187 c188 c189 c190 c191 c192 c193 _ hc H.size) ⟨q_cB hts gw_1271 gw_6 gw_1268 hds_94 ⟨Nat.le_of_ble_eq_true rfl, Nat.le_of_ble_eq_true rfl⟩, hts _ gw_1269, hts _ gw_1270⟩ (q_preV (q_pre (m_subP hP hal_) (m_subD hD hal_ hnd_) hK hSt hS (m_lF hD hS hA hal_) _) (va_recv hK (m_subP hP hal_) (ci := 6) (q0 := 0) rfl rfl)) rfl rfl hl.1 rfl (lv_room (Nat.le_of_ble_eq_true rfl)) d_K_scriptsHold_138 ⟨hkc, hks⟩) hP hD hS hA hal_ rfl (fun H locs hP hD hS => ?_)
            refine W.widen (k := κ + mc156 + mc161 + mc167) (n := σ + ms157 + ms162 + ms168) (Nat.le_refl _) (Nat.le_refl _) ?_
            obtain ⟨M195, eM_, hf⟩ := bnP hf
            have hP : va_P D classes (mw M195) H := by rw [eM_]; exact hP
            have hD : va_D A (mw M195) := by rw [eM_]; exact hD
            clear eM_ hal_ hnd_ hc
            refine lv_if_ne (tgt := 146) hx hb d_K_scriptsHold_141 (by decide) (fun cx => ?_) (fun cx => ?_)
            · have hf := ifnP cx hf
              obtain ⟨v196, ev, hf⟩ := bnP hf
              refine lv_iinc (v := v196) (lv' := [(2, .int v196), (3, .ref q11), (0, .ref x0), (1, .int x1)]) hx hb d_K_scriptsHold_146 hl (k := 3) rfl (by rw [ev]; rfl) (by decide) rfl (fun ls hl => ?_)
              clear ev
              refine lv_goto (tgt := 20) hx hb d_K_scriptsHold_149 (by decide) ?_
              exact hk_20 _ _ _ _ _ _ hf hkc hks _ _ _ hP hD hS (lv_sub hl [2, 3, 0] rfl)
            · have hf := ifpP cx hf
              refine lv_iconst (v := 0) hx hb d_K_scriptsHold_144 (by decide) ?_
              refine W.widen (k := MC) (n := MS) hkc hks ?_
              exact m_rz hf hx hb hr hlocks hK hP hD hS (isb_n (v := 0) (by decide)) d_K_scriptsHold_145
theorem ww_mK_scriptsHold_20 {p : Program} {l : Launch} {e : Env} {s : State} {m : MethodId} {args : Array Value} {below : List Frame} {meth : Method} {c : Code} {D : va_G} {cy : Nat → ClassId} {A : Nat → Prop} {ad : Nat → Nat} {mi MC MS : Nat} {Φ : Int32 → Mm → Prop} {fu : Nat} {k_2 : Nat → Nat → Mm → Nat → Int32 → Prop} (F : FxM p s m args meth c b_K_scriptsHold 4 "CoinKeeper" "scriptsHold" (some .boolean) D cy ad mi A) (hk_2 : Iw_mK_scriptsHold_2 p l e s m args below meth c D cy A ad mi MC MS Φ k_2) : ∀ n : Nat, Iw_mK_scriptsHold_20 p l e s m args below meth c D cy A ad mi MC MS Φ (xw_mK_scriptsHold_20 fu MC MS cy ad mi Φ k_2 n)
  | 0 => fun _ _ _ _ _ _ hf => False.elim hf
  | n + 1 => wv_mK_scriptsHold_20 F hk_2 (ww_mK_scriptsHold_20 F hk_2 n)
set_option maxHeartbeats 8000000 in
set_option maxRecDepth 100000 in
theorem wv_mK_scriptsHold_2 {p : Program} {l : Launch} {e : Env} {s : State} {m : MethodId} {args : Array Value} {below : List Frame} {meth : Method} {c : Code} {D : va_G} {cy : Nat → ClassId} {A : Nat → Prop} {ad : Nat → Nat} {mi MC MS : Nat} {Φ : Int32 → Mm → Prop} {fu : Nat} {k_2 : Nat → Nat → Mm → Nat → Int32 → Prop} (F : FxM p s m args meth c b_K_scriptsHold 4 "CoinKeeper" "scriptsHold" (some .boolean) D cy ad mi A) (hk_2 : Iw_mK_scriptsHold_2 p l e s m args below meth c D cy A ad mi MC MS Φ k_2) : Iw_mK_scriptsHold_2 p l e s m args below meth c D cy A ad mi MC MS Φ (xv_mK_scriptsHold_2 fu MC MS cy ad mi Φ k_2) := by
  obtain ⟨⟨hx, hb, hr, hml, hown, hts, hlocks, hK, hA, hSt, hnm, hex⟩, hT, hMi⟩ := id F
  intro κ σ M x0 x1 hf hkc hks H locs ls hP hD hS hl
  unfold xv_mK_scriptsHold_2 at hf
  refine lv_iload_n hx hb d_K_scriptsHold_2 rfl (lv_at hl 1 rfl) ?_
  refine lv_aload_n hx hb d_K_scriptsHold_3 rfl (lv_at hl 0 rfl) ?_
  obtain ⟨fs_, hm_, v1, hv_, hf⟩ := hf
  obtain ⟨ix_, hi_⟩ := m_ix hm_
  refine va_get (D := D) (ci := 0) (v := .int v1) (C := "CoinKeeper") (T := F_0) (N := 13) hx hb hts i_0 hown hK hP ix_ hi_ rfl 12 (by decide) (hts _ gw_512) (fun _ h9 => h9) hv_ d_K_scriptsHold_4 ?_
  clear hv_ hi_ hm_
  refine lv_icmp_ge (tgt := 158) hx hb d_K_scriptsHold_7 (by decide) (fun cx => ?_) (fun cx => ?_)
  · have hf := ifpP cx hf
    refine lv_iconst (v := 1) hx hb d_K_scriptsHold_158 (by decide) ?_
    refine W.widen (k := MC) (n := MS) hkc hks ?_
    exact m_rz hf hx hb hr hlocks hK hP hD hS (isb_n (v := 1) (by decide)) d_K_scriptsHold_159
  · have hf := ifnP cx hf
    refine lv_aload_n hx hb d_K_scriptsHold_10 rfl (lv_at hl 0 rfl) ?_
    obtain ⟨fs_, hm_, r2, hv_, hf⟩ := hf
    obtain ⟨ix_, hi_⟩ := m_ix hm_
    refine va_get (D := D) (ci := 0) (v := va_rf r2) (C := "CoinKeeper") (T := F_0) (N := 13) hx hb hts i_0 hown hK hP ix_ hi_ rfl 6 (by decide) (hts _ gw_506) (fun _ h9 => h9) hv_ d_K_scriptsHold_11 ?_
    clear hv_ hi_ hm_
    obtain ⟨q3, rfl, hf⟩ := hf
    refine W.eq (g2 := F0 m 14 ls [.ref q3]) rfl ?_
    obtain ⟨fs_, hm_, r4, hv_, hf⟩ := hf
    obtain ⟨ix_, hi_⟩ := m_ix hm_
    refine va_get (D := D) (ci := 4) (v := va_rf r4) (C := "CoinKeeper$Layout") (T := F_4) (N := 15) hx hb hts i_4 hown hK hP ix_ hi_ rfl 3 (by decide) (hts _ gw_277) (fun _ h9 => h9) hv_ d_K_scriptsHold_14 ?_
    clear hv_ hi_ hm_
    obtain ⟨q5, rfl, hf⟩ := hf
    refine W.eq (g2 := F0 m 17 ls [.ref q5]) rfl ?_
    refine lv_iload_n hx hb d_K_scriptsHold_17 rfl (lv_at hl 1 rfl) ?_
    obtain ⟨n_, f_, hm_, hin_, hf⟩ := hf
    obtain ⟨ix_, hi_⟩ := m_ix hm_
    refine va_iald hx hb hK hP ix_ 1 hi_ rfl (inb_in hin_) d_K_scriptsHold_18 ?_
    obtain ⟨v6, ev⟩ : ∃ z, z = f_ x1.toNatClampNeg := ⟨_, rfl⟩
    first | rw [← ev] at hf ⊢ | rw [← ev]
    clear ev hi_ hm_ hin_
    refine lv_istore_n (lv' := [(2, .int v6), (0, .ref x0), (1, .int x1)]) hx hb d_K_scriptsHold_19 rfl hl (by decide) rfl (fun ls hl => ?_)
    exact ww_mK_scriptsHold_20 F hk_2 fu _ _ _ _ _ _ hf hkc hks _ _ _ hP hD hS (lv_sub hl [1, 2, 0] rfl)
theorem ww_mK_scriptsHold_2 {p : Program} {l : Launch} {e : Env} {s : State} {m : MethodId} {args : Array Value} {below : List Frame} {meth : Method} {c : Code} {D : va_G} {cy : Nat → ClassId} {A : Nat → Prop} {ad : Nat → Nat} {mi MC MS : Nat} {Φ : Int32 → Mm → Prop} {fu : Nat} (F : FxM p s m args meth c b_K_scriptsHold 4 "CoinKeeper" "scriptsHold" (some .boolean) D cy ad mi A) : ∀ n : Nat, Iw_mK_scriptsHold_2 p l e s m args below meth c D cy A ad mi MC MS Φ (xw_mK_scriptsHold_2 fu MC MS cy ad mi Φ n)
  | 0 => fun _ _ _ _ _ hf => False.elim hf
  | n + 1 => wv_mK_scriptsHold_2 F (ww_mK_scriptsHold_2 F n)
set_option maxHeartbeats 8000000 in
set_option maxRecDepth 100000 in
theorem wew_mK_scriptsHold {p : Program} {l : Launch} {e : Env} {s : State} {m : MethodId} {args : Array Value} {below : List Frame} {meth : Method} {c : Code} {D : va_G} {cy : Nat → ClassId} {A : Nat → Prop} {ad : Nat → Nat} {mi MC MS : Nat} {Φ : Int32 → Mm → Prop} {fu : Nat} (F : FxM p s m args meth c b_K_scriptsHold 4 "CoinKeeper" "scriptsHold" (some .boolean) D cy ad mi A) : Iw_mK_scriptsHold_e p l e s m args below meth c D cy A ad mi MC MS Φ (xw_mK_scriptsHold fu MC MS cy ad mi Φ) := by
  obtain ⟨⟨hx, hb, hr, hml, hown, hts, hlocks, hK, hA, hSt, hnm, hex⟩, hT, hMi⟩ := id F
  intro κ σ M a0 hf hkc hks H locs ls hP hD hS hl
  unfold xw_mK_scriptsHold at hf
  refine lv_iconst (v := 1) hx hb d_K_scriptsHold_0 (by decide) ?_
  refine lv_istore_n (lv' := [(1, .int (1 : Int32)), (0, .ref a0)]) hx hb d_K_scriptsHold_1 rfl hl (by decide) rfl (fun ls hl => ?_)
  exact ww_mK_scriptsHold_2 F fu _ _ _ _ _ hf hkc hks _ _ _ hP hD hS (lv_sub hl [1, 0] rfl)
theorem cw_mK_scriptsHold (l : Launch) (D : va_G) (cy : Nat → ClassId) (ad : Nat → Nat) (mi fu MC MS : Nat) (a0 : Nat) (M : Mm) (Φ : Int32 → Mm → Prop) (hf : xw_mK_scriptsHold fu MC MS cy ad mi Φ 0 0 M a0) (sz : Nat) : Met l ({ cls := "CoinKeeper", name := "scriptsHold", desc := "()Z" } : Jvm.MethodName) (.code ({ cls := "CoinKeeper", name := "scriptsHold", desc := "()Z" } : Jvm.MethodName) b_K_scriptsHold 4 (some .boolean) :: gw) (rmw_mK_scriptsHold MC MS) (va_Pc [.ref a0] (PrM D cy ad mi (mw M) sz)) (va_Qi Φ (fun u t => Po D cy (va_A (mw M) sz) (mw u) t) (va_A (mw M) sz)) MC MS (va_A (mw M) sz) :=
  q_metM (Qc := fun A => va_Qi Φ (fun u t => Po D cy A (mw u) t) A) (by decide) rfl rfl (Nat.le_of_ble_eq_true rfl) (fun p e s m below meth c ls F hP hD hS hl => wew_mK_scriptsHold (fu := fu) F 0 0 M a0 hf (Nat.zero_le _) (Nat.zero_le _) _ _ _ hP hD hS hl) sz
abbrev b_K_submit : ByteArray := prog_1_method_4_code
theorem d_K_submit_0 : decode b_K_submit 0 = .ok (.aload_n 0, 1) := by decide +kernel
theorem d_K_submit_1 : decode b_K_submit 1 = .ok (.getfield 56, 3) := by decide +kernel
theorem d_K_submit_4 : decode b_K_submit 4 = .ok (.invokevirtual 93, 3) := by decide +kernel
theorem d_K_submit_7 : decode b_K_submit 7 = .ok (.sipush 200, 3) := by decide +kernel
theorem d_K_submit_10 : decode b_K_submit 10 = .ok (.if_icmp .gt 17, 3) := by decide +kernel
theorem d_K_submit_13 : decode b_K_submit 13 = .ok (.aload_n 0, 1) := by decide +kernel
theorem d_K_submit_14 : decode b_K_submit 14 = .ok (.getfield 97, 3) := by decide +kernel
theorem d_K_submit_17 : decode b_K_submit 17 = .ok (.aload_n 0, 1) := by decide +kernel
theorem d_K_submit_18 : decode b_K_submit 18 = .ok (.getfield 79, 3) := by decide +kernel
theorem d_K_submit_21 : decode b_K_submit 21 = .ok (.iadd, 1) := by decide +kernel
theorem d_K_submit_22 : decode b_K_submit 22 = .ok (.ldc 100, 2) := by decide +kernel
theorem d_K_submit_24 : decode b_K_submit 24 = .ok (.if_icmp .le 11, 3) := by decide +kernel
theorem d_K_submit_27 : decode b_K_submit 27 = .ok (.new 83, 3) := by decide +kernel
theorem d_K_submit_30 : decode b_K_submit 30 = .ok (.dup, 1) := by decide +kernel
theorem d_K_submit_31 : decode b_K_submit 31 = .ok (.invokespecial 85, 3) := by decide +kernel
theorem d_K_submit_34 : decode b_K_submit 34 = .ok (.athrow, 1) := by decide +kernel
theorem d_K_submit_35 : decode b_K_submit 35 = .ok (.aload_n 0, 1) := by decide +kernel
theorem d_K_submit_36 : decode b_K_submit 36 = .ok (.getfield 79, 3) := by decide +kernel
theorem d_K_submit_39 : decode b_K_submit 39 = .ok (.istore_n 1, 1) := by decide +kernel
theorem d_K_submit_40 : decode b_K_submit 40 = .ok (.aload_n 0, 1) := by decide +kernel
theorem d_K_submit_41 : decode b_K_submit 41 = .ok (.iconst 0, 1) := by decide +kernel
theorem d_K_submit_42 : decode b_K_submit 42 = .ok (.putfield 79, 3) := by decide +kernel
theorem d_K_submit_45 : decode b_K_submit 45 = .ok (.aload_n 0, 1) := by decide +kernel
theorem d_K_submit_46 : decode b_K_submit 46 = .ok (.iload_n 1, 1) := by decide +kernel
theorem d_K_submit_47 : decode b_K_submit 47 = .ok (.invokevirtual 101, 3) := by decide +kernel
theorem d_K_submit_50 : decode b_K_submit 50 = .ok (.istore_n 2, 1) := by decide +kernel
theorem d_K_submit_51 : decode b_K_submit 51 = .ok (.iload_n 2, 1) := by decide +kernel
theorem d_K_submit_52 : decode b_K_submit 52 = .ok (.ifCond .eq 5, 3) := by decide +kernel
theorem d_K_submit_55 : decode b_K_submit 55 = .ok (.iload_n 2, 1) := by decide +kernel
theorem d_K_submit_56 : decode b_K_submit 56 = .ok (.ireturn, 1) := by decide +kernel
theorem d_K_submit_57 : decode b_K_submit 57 = .ok (.aload_n 0, 1) := by decide +kernel
theorem d_K_submit_58 : decode b_K_submit 58 = .ok (.iload_n 1, 1) := by decide +kernel
theorem d_K_submit_59 : decode b_K_submit 59 = .ok (.invokevirtual 105, 3) := by decide +kernel
theorem d_K_submit_62 : decode b_K_submit 62 = .ok (.astore_n 3, 1) := by decide +kernel
theorem d_K_submit_63 : decode b_K_submit 63 = .ok (.aload_n 3, 1) := by decide +kernel
theorem d_K_submit_64 : decode b_K_submit 64 = .ok (.getfield 109, 3) := by decide +kernel
theorem d_K_submit_67 : decode b_K_submit 67 = .ok (.aload_n 0, 1) := by decide +kernel
theorem d_K_submit_68 : decode b_K_submit 68 = .ok (.getfield 71, 3) := by decide +kernel
theorem d_K_submit_71 : decode b_K_submit 71 = .ok (.getfield 109, 3) := by decide +kernel
theorem d_K_submit_74 : decode b_K_submit 74 = .ok (.lcmp, 1) := by decide +kernel
theorem d_K_submit_75 : decode b_K_submit 75 = .ok (.ifCond .gt 5, 3) := by decide +kernel
theorem d_K_submit_78 : decode b_K_submit 78 = .ok (.iconst 1, 1) := by decide +kernel
theorem d_K_submit_79 : decode b_K_submit 79 = .ok (.ireturn, 1) := by decide +kernel
theorem d_K_submit_80 : decode b_K_submit 80 = .ok (.aload_n 3, 1) := by decide +kernel
theorem d_K_submit_81 : decode b_K_submit 81 = .ok (.aload_n 0, 1) := by decide +kernel
theorem d_K_submit_82 : decode b_K_submit 82 = .ok (.getfield 71, 3) := by decide +kernel
theorem d_K_submit_85 : decode b_K_submit 85 = .ok (.invokevirtual 113, 3) := by decide +kernel
theorem d_K_submit_88 : decode b_K_submit 88 = .ok (.astore 4, 2) := by decide +kernel
theorem d_K_submit_90 : decode b_K_submit 90 = .ok (.aload_n 0, 1) := by decide +kernel
theorem d_K_submit_91 : decode b_K_submit 91 = .ok (.getfield 49, 3) := by decide +kernel
theorem d_K_submit_94 : decode b_K_submit 94 = .ok (.aload 4, 2) := by decide +kernel
theorem d_K_submit_96 : decode b_K_submit 96 = .ok (.getfield 117, 3) := by decide +kernel
theorem d_K_submit_99 : decode b_K_submit 99 = .ok (.invokevirtual 120, 3) := by decide +kernel
theorem d_K_submit_102 : decode b_K_submit 102 = .ok (.aload 4, 2) := by decide +kernel
theorem d_K_submit_104 : decode b_K_submit 104 = .ok (.getfield 123, 3) := by decide +kernel
theorem d_K_submit_107 : decode b_K_submit 107 = .ok (.iconst 1, 1) := by decide +kernel
theorem d_K_submit_108 : decode b_K_submit 108 = .ok (.iadd, 1) := by decide +kernel
theorem d_K_submit_109 : decode b_K_submit 109 = .ok (.istore 5, 2) := by decide +kernel
theorem d_K_submit_111 : decode b_K_submit 111 = .ok (.iload 5, 2) := by decide +kernel
theorem d_K_submit_113 : decode b_K_submit 113 = .ok (.aload_n 3, 1) := by decide +kernel
theorem d_K_submit_114 : decode b_K_submit 114 = .ok (.getfield 123, 3) := by decide +kernel
theorem d_K_submit_117 : decode b_K_submit 117 = .ok (.if_icmp .gt 66, 3) := by decide +kernel
theorem d_K_submit_120 : decode b_K_submit 120 = .ok (.aload_n 3, 1) := by decide +kernel
theorem d_K_submit_121 : decode b_K_submit 121 = .ok (.iload 5, 2) := by decide +kernel
theorem d_K_submit_123 : decode b_K_submit 123 = .ok (.invokevirtual 126, 3) := by decide +kernel
theorem d_K_submit_126 : decode b_K_submit 126 = .ok (.astore 6, 2) := by decide +kernel
theorem d_K_submit_128 : decode b_K_submit 128 = .ok (.aload_n 0, 1) := by decide +kernel
theorem d_K_submit_129 : decode b_K_submit 129 = .ok (.aload 6, 2) := by decide +kernel
theorem d_K_submit_131 : decode b_K_submit 131 = .ok (.invokevirtual 129, 3) := by decide +kernel
theorem d_K_submit_134 : decode b_K_submit 134 = .ok (.istore_n 2, 1) := by decide +kernel
theorem d_K_submit_135 : decode b_K_submit 135 = .ok (.aload 6, 2) := by decide +kernel
theorem d_K_submit_137 : decode b_K_submit 137 = .ok (.getfield 133, 3) := by decide +kernel
theorem d_K_submit_140 : decode b_K_submit 140 = .ok (.ifCond .ne 13, 3) := by decide +kernel
theorem d_K_submit_143 : decode b_K_submit 143 = .ok (.aload_n 0, 1) := by decide +kernel
theorem d_K_submit_144 : decode b_K_submit 144 = .ok (.invokevirtual 137, 3) := by decide +kernel
theorem d_K_submit_147 : decode b_K_submit 147 = .ok (.ifCond .ne 6, 3) := by decide +kernel
theorem d_K_submit_150 : decode b_K_submit 150 = .ok (.bipush 13, 2) := by decide +kernel
theorem d_K_submit_152 : decode b_K_submit 152 = .ok (.istore_n 2, 1) := by decide +kernel
theorem d_K_submit_153 : decode b_K_submit 153 = .ok (.iload_n 2, 1) := by decide +kernel
theorem d_K_submit_154 : decode b_K_submit 154 = .ok (.ifCond .eq 17, 3) := by decide +kernel
theorem d_K_submit_157 : decode b_K_submit 157 = .ok (.aload_n 0, 1) := by decide +kernel
theorem d_K_submit_158 : decode b_K_submit 158 = .ok (.aload 6, 2) := by decide +kernel
theorem d_K_submit_160 : decode b_K_submit 160 = .ok (.invokevirtual 141, 3) := by decide +kernel
theorem d_K_submit_163 : decode b_K_submit 163 = .ok (.aload_n 0, 1) := by decide +kernel
theorem d_K_submit_164 : decode b_K_submit 164 = .ok (.aload 4, 2) := by decide +kernel
theorem d_K_submit_166 : decode b_K_submit 166 = .ok (.invokevirtual 145, 3) := by decide +kernel
theorem d_K_submit_169 : decode b_K_submit 169 = .ok (.iload_n 2, 1) := by decide +kernel
theorem d_K_submit_170 : decode b_K_submit 170 = .ok (.ireturn, 1) := by decide +kernel
theorem d_K_submit_171 : decode b_K_submit 171 = .ok (.aload 6, 2) := by decide +kernel
theorem d_K_submit_173 : decode b_K_submit 173 = .ok (.iconst 1, 1) := by decide +kernel
theorem d_K_submit_174 : decode b_K_submit 174 = .ok (.putfield 133, 3) := by decide +kernel
theorem d_K_submit_177 : decode b_K_submit 177 = .ok (.iinc 5 1, 3) := by decide +kernel
theorem d_K_submit_180 : decode b_K_submit 180 = .ok (.goto (-69), 3) := by decide +kernel
theorem d_K_submit_183 : decode b_K_submit 183 = .ok (.aload_n 0, 1) := by decide +kernel
theorem d_K_submit_184 : decode b_K_submit 184 = .ok (.aload_n 3, 1) := by decide +kernel
theorem d_K_submit_185 : decode b_K_submit 185 = .ok (.putfield 71, 3) := by decide +kernel
theorem d_K_submit_188 : decode b_K_submit 188 = .ok (.iconst 0, 1) := by decide +kernel
theorem d_K_submit_189 : decode b_K_submit 189 = .ok (.ireturn, 1) := by decide +kernel
abbrev rmw_mK_submit (MC MS : Nat) : Room := { frames := 13, cells := MC, slots := MS, locals := 298 }
def Iw_mK_submit_27 (p : Program) (l : Launch) (e : Env) (s : State) (m : MethodId) (args : Array Value) (below : List Frame) (meth : Method) (c : Code) (D : va_G) (cy : Nat → ClassId) (A : Nat → Prop) (ad : Nat → Nat) (mi MC MS : Nat) (Φ : Int32 → Mm → Prop) (k : Nat → Nat → Mm → Prop) : Prop :=
  ∀ (κ σ : Nat) (M : Mm), k κ σ M → κ ≤ MC → σ ≤ MS → ∀ (H : Heap) (locs : List Loc) (ls : Array Slot), va_P D classes (mw M) H → va_D A (mw M) → va_S A s.heap H locs → lv_has ls 7 [] → W p l e (rmw_mK_submit MC MS) s m args below meth c H locs κ σ (MQ below (va_Qi Φ (fun u t => Po D cy A (mw u) t) A) args s MC MS A) (F0 m 27 ls [])
def Iw_mK_submit_153 (p : Program) (l : Launch) (e : Env) (s : State) (m : MethodId) (args : Array Value) (below : List Frame) (meth : Method) (c : Code) (D : va_G) (cy : Nat → ClassId) (A : Nat → Prop) (ad : Nat → Nat) (mi MC MS : Nat) (Φ : Int32 → Mm → Prop) (k : Nat → Nat → Mm → Nat → Int32 → Nat → Nat → Int32 → Nat → Prop) : Prop :=
  ∀ (κ σ : Nat) (M : Mm) (x0 : Nat) (x2 : Int32) (x3 : Nat) (x4 : Nat) (x5 : Int32) (x6 : Nat), k κ σ M x0 x2 x3 x4 x5 x6 → κ ≤ MC → σ ≤ MS → ∀ (H : Heap) (locs : List Loc) (ls : Array Slot), va_P D classes (mw M) H → va_D A (mw M) → va_S A s.heap H locs → lv_has ls 7 [(0, .ref x0), (2, .int x2), (3, .ref x3), (4, .ref x4), (5, .int x5), (6, .ref x6)] → W p l e (rmw_mK_submit MC MS) s m args below meth c H locs κ σ (MQ below (va_Qi Φ (fun u t => Po D cy A (mw u) t) A) args s MC MS A) (F0 m 153 ls [])
def Iw_mK_submit_111 (p : Program) (l : Launch) (e : Env) (s : State) (m : MethodId) (args : Array Value) (below : List Frame) (meth : Method) (c : Code) (D : va_G) (cy : Nat → ClassId) (A : Nat → Prop) (ad : Nat → Nat) (mi MC MS : Nat) (Φ : Int32 → Mm → Prop) (k : Nat → Nat → Mm → Nat → Nat → Nat → Int32 → Prop) : Prop :=
  ∀ (κ σ : Nat) (M : Mm) (x0 : Nat) (x3 : Nat) (x4 : Nat) (x5 : Int32), k κ σ M x0 x3 x4 x5 → κ ≤ MC → σ ≤ MS → ∀ (H : Heap) (locs : List Loc) (ls : Array Slot), va_P D classes (mw M) H → va_D A (mw M) → va_S A s.heap H locs → lv_has ls 7 [(0, .ref x0), (3, .ref x3), (4, .ref x4), (5, .int x5)] → W p l e (rmw_mK_submit MC MS) s m args below meth c H locs κ σ (MQ below (va_Qi Φ (fun u t => Po D cy A (mw u) t) A) args s MC MS A) (F0 m 111 ls [])
def Iw_mK_submit_e (p : Program) (l : Launch) (e : Env) (s : State) (m : MethodId) (args : Array Value) (below : List Frame) (meth : Method) (c : Code) (D : va_G) (cy : Nat → ClassId) (A : Nat → Prop) (ad : Nat → Nat) (mi MC MS : Nat) (Φ : Int32 → Mm → Prop) (k : Nat → Nat → Mm → Nat → Prop) : Prop :=
  ∀ (κ σ : Nat) (M : Mm) (a0 : Nat), k κ σ M a0 → κ ≤ MC → σ ≤ MS → ∀ (H : Heap) (locs : List Loc) (ls : Array Slot), va_P D classes (mw M) H → va_D A (mw M) → va_S A s.heap H locs → lv_has ls 7 [(0, .ref a0)] → W p l e (rmw_mK_submit MC MS) s m args below meth c H locs κ σ (MQ below (va_Qi Φ (fun u t => Po D cy A (mw u) t) A) args s MC MS A) (F0 m 0 ls [])
set_option maxHeartbeats 8000000 in
set_option maxRecDepth 100000 in
theorem wv_mK_submit_27 {p : Program} {l : Launch} {e : Env} {s : State} {m : MethodId} {args : Array Value} {below : List Frame} {meth : Method} {c : Code} {D : va_G} {cy : Nat → ClassId} {A : Nat → Prop} {ad : Nat → Nat} {mi MC MS : Nat} {Φ : Int32 → Mm → Prop} {fu : Nat} (F : FxM p s m args meth c b_K_submit 7 "CoinKeeper" "submit" (some .int) D cy ad mi A) : Iw_mK_submit_27 p l e s m args below meth c D cy A ad mi MC MS Φ (xv_mK_submit_27 fu MC MS cy ad mi Φ) := by
  obtain ⟨⟨hx, hb, hr, hml, hown, hts, hlocks, hK, hA, hSt, hnm, hex⟩, hT, hMi⟩ := id F
  intro κ σ M hf hkc hks H locs ls hP hD hS hl
  unfold xv_mK_submit_27 at hf
  exact hf.elim
theorem hds_95 : ({ cls := "CoinKeeper", name := "spoil", desc := "(LCoinKeeper$Block;)V" } : Jvm.MethodName).cls ≠ "java/lang/invoke/MethodHandle" ∧ ({ cls := "CoinKeeper", name := "spoil", desc := "(LCoinKeeper$Block;)V" } : Jvm.MethodName).cls ≠ "java/lang/invoke/VarHandle" ∧ (parseMethodDescriptor ({ cls := "CoinKeeper", name := "spoil", desc := "(LCoinKeeper$Block;)V" } : Jvm.MethodName).desc).map (fun d => d.parameters.length) = some 1 := by decide +kernel
theorem hds_96 : ({ cls := "CoinKeeper", name := "comeBack", desc := "(LCoinKeeper$Block;)V" } : Jvm.MethodName).cls ≠ "java/lang/invoke/MethodHandle" ∧ ({ cls := "CoinKeeper", name := "comeBack", desc := "(LCoinKeeper$Block;)V" } : Jvm.MethodName).cls ≠ "java/lang/invoke/VarHandle" ∧ (parseMethodDescriptor ({ cls := "CoinKeeper", name := "comeBack", desc := "(LCoinKeeper$Block;)V" } : Jvm.MethodName).desc).map (fun d => d.parameters.length) = some 1 := by decide +kernel
set_option maxHeartbeats 8000000 in
set_option maxRecDepth 100000 in
theorem wv_mK_submit_153 {p : Program} {l : Launch} {e : Env} {s : State} {m : MethodId} {args : Array Value} {below : List Frame} {meth : Method} {c : Code} {D : va_G} {cy : Nat → ClassId} {A : Nat → Prop} {ad : Nat → Nat} {mi MC MS : Nat} {Φ : Int32 → Mm → Prop} {fu : Nat} {k_111 : Nat → Nat → Mm → Nat → Nat → Nat → Int32 → Prop} (F : FxM p s m args meth c b_K_submit 7 "CoinKeeper" "submit" (some .int) D cy ad mi A) (hk_111 : Iw_mK_submit_111 p l e s m args below meth c D cy A ad mi MC MS Φ k_111) : Iw_mK_submit_153 p l e s m args below meth c D cy A ad mi MC MS Φ (xv_mK_submit_153 fu MC MS cy ad mi Φ k_111) := by
  obtain ⟨⟨hx, hb, hr, hml, hown, hts, hlocks, hK, hA, hSt, hnm, hex⟩, hT, hMi⟩ := id F
  intro κ σ M x0 x2 x3 x4 x5 x6 hf hkc hks H locs ls hP hD hS hl
  unfold xv_mK_submit_153 at hf
  refine lv_iload_n hx hb d_K_submit_153 rfl (lv_at hl 1 rfl) ?_
  refine lv_if_eq (tgt := 171) hx hb d_K_submit_154 (by decide) (fun cx => ?_) (fun cx => ?_)
  · have hf := ifpP cx hf
    refine lv_aload hx hb d_K_submit_171 (lv_at hl 5 rfl) ?_
    refine lv_iconst (v := 1) hx hb d_K_submit_173 (by decide) ?_
    obtain ⟨fs_, hm_, hlen_, hf⟩ := hf
    obtain ⟨ix_, hi_⟩ := m_ix hm_
    have hE_ := m_set (y := .inr (1, fs_.set 10 (.int (1 : Int32)))) hD hi_
    refine va_put (D := D) (ci := 1) (v := .int (1 : Int32)) (ty := .boolean) (C := "CoinKeeper$Block") (T := F_1) (N := 12) hx hb hts i_1 t_1 t_1_ok n_1 hown hK hP hD hS ix_ hi_ rfl 10 (by decide) (hts _ gw_410) (fun _ h9 => h9) rfl (by decide +kernel) (isb_n (v := 1) (by decide)) (isb_f (v := 1) (by decide)) hlen_ d_K_submit_174 (fun H locs hP hD hS => ?_)
    obtain ⟨M1, eM_⟩ : ∃ z, z = mu M x6 (.inr (1, fs_.set 10 (.int (1 : Int32)))) := ⟨_, rfl⟩
    rw [← eM_] at hf hE_
    rw [hE_] at hP hD
    clear hE_ eM_ hi_ hm_
    obtain ⟨v2, ev, hf⟩ := bnP hf
    refine lv_iinc (v := v2) (lv' := [(5, .int v2), (0, .ref x0), (2, .int x2), (3, .ref x3), (4, .ref x4), (6, .ref x6)]) hx hb d_K_submit_177 hl (k := 4) rfl (by rw [ev]; rfl) (by decide) rfl (fun ls hl => ?_)
    clear ev
    refine lv_goto (tgt := 111) hx hb d_K_submit_180 (by decide) ?_
    exact hk_111 _ _ _ _ _ _ _ hf hkc hks _ _ _ hP hD hS (lv_sub hl [1, 3, 4, 0] rfl)
  · have hf := ifnP cx hf
    refine lv_aload_n hx hb d_K_submit_157 rfl (lv_at hl 0 rfl) ?_
    refine lv_aload hx hb d_K_submit_158 (lv_at hl 5 rfl) ?_
    obtain ⟨fs_, hm_, hf⟩ := hf
    obtain ⟨ix_, hi_⟩ := m_ix hm_
    obtain ⟨mc3, ms4, ⟨hc_, hd_⟩, hf⟩ := hf
    refine m_av (va_runV (C := "CoinKeeper") (As := [.ref x6]) (rest := []) ⟨hx, hb, hml, hown, hts⟩ (cw_mK_spoil l D cy ad mi fu mc3 ms4 x0 x6 M _ hf H.size) ⟨q_cB hts gw_1275 gw_1 gw_1272 hds_95 ⟨Nat.le_of_ble_eq_true rfl, Nat.le_of_ble_eq_true rfl⟩, hts _ gw_1274, hts _ gs_58⟩ (q_preVM (q_preM hP hD hK hSt hT hMi hS (m_free hD hS hA) _) (va_recv hK hP (ci := 0) (q0 := ix_) rfl hi_)) rfl rfl hl.1 rfl (lv_room (Nat.le_of_ble_eq_true rfl)) d_K_submit_160 ⟨hc_, hd_⟩) hD hS hA (fun M5 H locs hf hP hD hS => ?_)
    have hkc : κ + mc3 ≤ MC := hc_
    have hks : σ + ms4 ≤ MS := hd_
    clear hc_ hd_
    refine lv_aload_n hx hb d_K_submit_163 rfl (lv_at hl 0 rfl) ?_
    refine lv_aload hx hb d_K_submit_164 (lv_at hl 3 rfl) ?_
    obtain ⟨fs_, hm_, hf⟩ := hf
    obtain ⟨ix_, hi_⟩ := m_ix hm_
    obtain ⟨mc6, ms7, ⟨hc_, hd_⟩, hf⟩ := hf
    refine m_av (va_runV (C := "CoinKeeper") (As := [.ref x4]) (rest := []) ⟨hx, hb, hml, hown, hts⟩ (cw_mK_comeBack l D cy ad mi fu mc6 ms7 x0 x4 M5 _ hf H.size) ⟨q_cB hts gw_1279 gw_1 gw_1276 hds_96 ⟨Nat.le_of_ble_eq_true rfl, Nat.le_of_ble_eq_true rfl⟩, hts _ gw_1278, hts _ gs_59⟩ (q_preVM (q_preM hP hD hK hSt hT hMi hS (m_free hD hS hA) _) (va_recv hK hP (ci := 0) (q0 := ix_) rfl hi_)) rfl rfl hl.1 rfl (lv_room (Nat.le_of_ble_eq_true rfl)) d_K_submit_166 ⟨hc_, hd_⟩) hD hS hA (fun M8 H locs hf hP hD hS => ?_)
    have hkc : κ + mc3 + mc6 ≤ MC := hc_
    have hks : σ + ms4 + ms7 ≤ MS := hd_
    clear hc_ hd_
    refine lv_iload_n hx hb d_K_submit_169 rfl (lv_at hl 1 rfl) ?_
    refine W.widen (k := MC) (n := MS) hkc hks ?_
    exact m_ri hf hx hb hr hlocks hK hP hD hS d_K_submit_170
theorem hds_97 : ({ cls := "CoinKeeper", name := "scriptsHold", desc := "()Z" } : Jvm.MethodName).cls ≠ "java/lang/invoke/MethodHandle" ∧ ({ cls := "CoinKeeper", name := "scriptsHold", desc := "()Z" } : Jvm.MethodName).cls ≠ "java/lang/invoke/VarHandle" ∧ (parseMethodDescriptor ({ cls := "CoinKeeper", name := "scriptsHold", desc := "()Z" } : Jvm.MethodName).desc).map (fun d => d.parameters.length) = some 0 := by decide +kernel
set_option maxHeartbeats 8000000 in
set_option maxRecDepth 100000 in
theorem wv_mK_submit_111 {p : Program} {l : Launch} {e : Env} {s : State} {m : MethodId} {args : Array Value} {below : List Frame} {meth : Method} {c : Code} {D : va_G} {cy : Nat → ClassId} {A : Nat → Prop} {ad : Nat → Nat} {mi MC MS : Nat} {Φ : Int32 → Mm → Prop} {fu : Nat} {k_111 : Nat → Nat → Mm → Nat → Nat → Nat → Int32 → Prop} (F : FxM p s m args meth c b_K_submit 7 "CoinKeeper" "submit" (some .int) D cy ad mi A) (hk_111 : Iw_mK_submit_111 p l e s m args below meth c D cy A ad mi MC MS Φ k_111) : Iw_mK_submit_111 p l e s m args below meth c D cy A ad mi MC MS Φ (xv_mK_submit_111 fu MC MS cy ad mi Φ k_111) := by
  obtain ⟨⟨hx, hb, hr, hml, hown, hts, hlocks, hK, hA, hSt, hnm, hex⟩, hT, hMi⟩ := id F
  intro κ σ M x0 x3 x4 x5 hf hkc hks H locs ls hP hD hS hl
  unfold xv_mK_submit_111 at hf
  refine lv_iload hx hb d_K_submit_111 (lv_at hl 3 rfl) ?_
  refine lv_aload_n hx hb d_K_submit_113 rfl (lv_at hl 1 rfl) ?_
  obtain ⟨fs_, hm_, v1, hv_, hf⟩ := hf
  obtain ⟨ix_, hi_⟩ := m_ix hm_
  refine va_get (D := D) (ci := 1) (v := .int v1) (C := "CoinKeeper$Block") (T := F_1) (N := 12) hx hb hts i_1 hown hK hP ix_ hi_ rfl 4 (by decide) (hts _ gw_401) (fun _ h9 => h9) hv_ d_K_submit_114 ?_
  clear hv_ hi_ hm_
  refine lv_icmp_gt (tgt := 183) hx hb d_K_submit_117 (by decide) (fun cx => ?_) (fun cx => ?_)
  · have hf := ifpP cx hf
    refine lv_aload_n hx hb d_K_submit_183 rfl (lv_at hl 0 rfl) ?_
    refine lv_aload_n hx hb d_K_submit_184 rfl (lv_at hl 1 rfl) ?_
    obtain ⟨fs_, hm_, hlen_, hf⟩ := hf
    obtain ⟨ix_, hi_⟩ := m_ix hm_
    have hE_ := m_set (y := .inr (0, fs_.set 10 (.ref x3))) hD hi_
    refine va_put (D := D) (ci := 0) (v := .ref x3) (ty := .object "CoinKeeper$Block") (C := "CoinKeeper") (T := F_0) (N := 13) hx hb hts i_0 t_0 t_0_ok n_0 hown hK hP hD hS ix_ hi_ rfl 10 (by decide) (hts _ gw_510) (fun _ h9 => h9) rfl (by decide +kernel) rfl rfl hlen_ d_K_submit_185 (fun H locs hP hD hS => ?_)
    obtain ⟨M2, eM_⟩ : ∃ z, z = mu M x0 (.inr (0, fs_.set 10 (.ref x3))) := ⟨_, rfl⟩
    rw [← eM_] at hf hE_
    rw [hE_] at hP hD
    clear hE_ eM_ hi_ hm_
    refine lv_iconst (v := 0) hx hb d_K_submit_188 (by decide) ?_
    refine W.widen (k := MC) (n := MS) hkc hks ?_
    exact m_ri hf hx hb hr hlocks hK hP hD hS d_K_submit_189
  · have hf := ifnP cx hf
    refine lv_aload_n hx hb d_K_submit_120 rfl (lv_at hl 1 rfl) ?_
    refine lv_iload hx hb d_K_submit_121 (lv_at hl 3 rfl) ?_
    obtain ⟨fs_, hm_, hf⟩ := hf
    obtain ⟨ix_, hi_⟩ := m_ix hm_
    obtain ⟨mc3, ms4, ⟨hc_, hd_⟩, hf⟩ := hf
    refine m_aq (va_runV (C := "CoinKeeper$Block") (As := [.int x5]) (rest := []) ⟨hx, hb, hml, hown, hts⟩ (cw_mBl_ancestor l D cy ad mi fu mc3 ms4 x3 x5 M _ hf H.size) ⟨q_cB hts gw_755 gw_13 gw_922 hdq_0 ⟨Nat.le_of_ble_eq_true rfl, Nat.le_of_ble_eq_true rfl⟩, hts _ gw_753, hts _ gw_754⟩ (q_preVM (q_preM hP hD hK hSt hT hMi hS (m_free hD hS hA) _) (va_recv hK hP (ci := 1) (q0 := ix_) rfl hi_)) rfl rfl hl.1 rfl (lv_room (Nat.le_of_ble_eq_true rfl)) d_K_submit_123 ⟨hc_, hd_⟩) hD hS hA (fun v6 M5 H locs hf hP hD hS => ?_)
    have hkc : κ + mc3 ≤ MC := hc_
    have hks : σ + ms4 ≤ MS := hd_
    clear hc_ hd_
    obtain ⟨q7, rfl, hf⟩ := hf
    refine W.eq (g2 := F0 m 126 ls [.ref q7]) rfl ?_
    refine lv_astore (lv' := [(6, .ref q7), (0, .ref x0), (3, .ref x3), (4, .ref x4), (5, .int x5)]) hx hb d_K_submit_126 hl (by decide) rfl (fun ls hl => ?_)
    refine lv_aload_n hx hb d_K_submit_128 rfl (lv_at hl 1 rfl) ?_
    refine lv_aload hx hb d_K_submit_129 (lv_at hl 0 rfl) ?_
    obtain ⟨fs_, hm_, hf⟩ := hf
    obtain ⟨ix_, hi_⟩ := m_ix hm_
    obtain ⟨mc8, ms9, ⟨hc_, hd_⟩, hf⟩ := hf
    refine mm_ai (va_runV (C := "CoinKeeper") (As := [.ref q7]) (rest := []) ⟨hx, hb, hml, hown, hts⟩ (cw_mK_connect l D cy ad mi fu mc8 ms9 x0 q7 M5 _ hf H.size) ⟨q_cB hts gw_926 gw_1 gw_923 hdq_38 ⟨Nat.le_of_ble_eq_true rfl, Nat.le_of_ble_eq_true rfl⟩, hts _ gw_925, hts _ gs_23⟩ (q_preVM (q_preM hP hD hK hSt hT hMi hS (m_free hD hS hA) _) (va_recv hK hP (ci := 0) (q0 := ix_) rfl hi_)) rfl rfl hl.1 rfl (lv_room (Nat.le_of_ble_eq_true rfl)) d_K_submit_131 ⟨hc_, hd_⟩) hD hS hA (fun v11 M10 H locs hf hP hD hS => ?_)
    have hkc : κ + mc3 + mc8 ≤ MC := hc_
    have hks : σ + ms4 + ms9 ≤ MS := hd_
    clear hc_ hd_
    refine lv_istore_n (lv' := [(2, .int v11), (6, .ref q7), (0, .ref x0), (3, .ref x3), (4, .ref x4), (5, .int x5)]) hx hb d_K_submit_134 rfl hl (by decide) rfl (fun ls hl => ?_)
    refine lv_aload hx hb d_K_submit_135 (lv_at hl 1 rfl) ?_
    obtain ⟨fs_, hm_, v12, hv_, hf⟩ := hf
    obtain ⟨ix_, hi_⟩ := m_ix hm_
    refine va_get (D := D) (ci := 1) (v := .int v12) (C := "CoinKeeper$Block") (T := F_1) (N := 12) hx hb hts i_1 hown hK hP ix_ hi_ rfl 10 (by decide) (hts _ gw_410) (fun _ h9 => h9) hv_ d_K_submit_137 ?_
    clear hv_ hi_ hm_
    refine lv_if_ne (tgt := 153) hx hb d_K_submit_140 (by decide) (fun cx => ?_) (fun cx => ?_)
    · have hf := ifnP cx hf
      exact wv_mK_submit_153 (fu := fu) F hk_111 _ _ _ _ _ _ _ _ _ hf hkc hks _ _ _ hP hD hS (lv_sub hl [2, 0, 3, 4, 5, 1] rfl)
    · have hf := ifpP cx hf
      refine lv_aload_n hx hb d_K_submit_143 rfl (lv_at hl 2 rfl) ?_
      obtain ⟨fs_, hm_, hf⟩ := hf
      obtain ⟨ix_, hi_⟩ := m_ix hm_
      obtain ⟨mc13, ms14, ⟨hc_, hd_⟩, hf⟩ := hf
      refine mm_ai (va_runV (C := "CoinKeeper") (As := []) (rest := []) ⟨hx, hb, hml, hown, hts⟩ (cw_mK_scriptsHold l D cy ad mi fu mc13 ms14 x0 M10 _ hf H.size) ⟨q_cB hts gw_971 gw_1 gw_968 hds_97 ⟨Nat.le_of_ble_eq_true rfl, Nat.le_of_ble_eq_true rfl⟩, hts _ gw_970, hts _ gs_27⟩ (q_preVM (q_preM hP hD hK hSt hT hMi hS (m_free hD hS hA) _) (va_recv hK hP (ci := 0) (q0 := ix_) rfl hi_)) rfl rfl hl.1 rfl (lv_room (Nat.le_of_ble_eq_true rfl)) d_K_submit_144 ⟨hc_, hd_⟩) hD hS hA (fun v16 M15 H locs hf hP hD hS => ?_)
      have hkc : κ + mc3 + mc8 + mc13 ≤ MC := hc_
      have hks : σ + ms4 + ms9 + ms14 ≤ MS := hd_
      clear hc_ hd_
      refine lv_if_ne (tgt := 153) hx hb d_K_submit_147 (by decide) (fun cx => ?_) (fun cx => ?_)
      · have hf := ifnP cx hf
        exact wv_mK_submit_153 (fu := fu) F hk_111 _ _ _ _ _ _ _ _ _ hf hkc hks _ _ _ hP hD hS (lv_sub hl [2, 0, 3, 4, 5, 1] rfl)
      · have hf := ifpP cx hf
        refine lv_bipush (v := 13) hx hb d_K_submit_150 (by decide) ?_
        refine lv_istore_n (lv' := [(2, .int (13 : Int32)), (6, .ref q7), (0, .ref x0), (3, .ref x3), (4, .ref x4), (5, .int x5)]) hx hb d_K_submit_152 rfl hl (by decide) rfl (fun ls hl => ?_)
        exact wv_mK_submit_153 (fu := fu) F hk_111 _ _ _ _ _ _ _ _ _ hf hkc hks _ _ _ hP hD hS (lv_sub hl [2, 0, 3, 4, 5, 1] rfl)
theorem ww_mK_submit_111 {p : Program} {l : Launch} {e : Env} {s : State} {m : MethodId} {args : Array Value} {below : List Frame} {meth : Method} {c : Code} {D : va_G} {cy : Nat → ClassId} {A : Nat → Prop} {ad : Nat → Nat} {mi MC MS : Nat} {Φ : Int32 → Mm → Prop} {fu : Nat} (F : FxM p s m args meth c b_K_submit 7 "CoinKeeper" "submit" (some .int) D cy ad mi A) : ∀ n : Nat, Iw_mK_submit_111 p l e s m args below meth c D cy A ad mi MC MS Φ (xw_mK_submit_111 fu MC MS cy ad mi Φ n)
  | 0 => fun _ _ _ _ _ _ _ hf => False.elim hf
  | n + 1 => wv_mK_submit_111 F (ww_mK_submit_111 F n)
theorem hds_98 : ({ cls := "CoinKeeper", name := "refusal", desc := "(I)I" } : Jvm.MethodName).cls ≠ "java/lang/invoke/MethodHandle" ∧ ({ cls := "CoinKeeper", name := "refusal", desc := "(I)I" } : Jvm.MethodName).cls ≠ "java/lang/invoke/VarHandle" ∧ (parseMethodDescriptor ({ cls := "CoinKeeper", name := "refusal", desc := "(I)I" } : Jvm.MethodName).desc).map (fun d => d.parameters.length) = some 1 := by decide +kernel
theorem hds_99 : ({ cls := "CoinKeeper", name := "take", desc := "(I)LCoinKeeper$Block;" } : Jvm.MethodName).cls ≠ "java/lang/invoke/MethodHandle" ∧ ({ cls := "CoinKeeper", name := "take", desc := "(I)LCoinKeeper$Block;" } : Jvm.MethodName).cls ≠ "java/lang/invoke/VarHandle" ∧ (parseMethodDescriptor ({ cls := "CoinKeeper", name := "take", desc := "(I)LCoinKeeper$Block;" } : Jvm.MethodName).desc).map (fun d => d.parameters.length) = some 1 := by decide +kernel
theorem hds_100 : ({ cls := "CoinKeeper$Block", name := "meets", desc := "(LCoinKeeper$Block;)LCoinKeeper$Block;" } : Jvm.MethodName).cls ≠ "java/lang/invoke/MethodHandle" ∧ ({ cls := "CoinKeeper$Block", name := "meets", desc := "(LCoinKeeper$Block;)LCoinKeeper$Block;" } : Jvm.MethodName).cls ≠ "java/lang/invoke/VarHandle" ∧ (parseMethodDescriptor ({ cls := "CoinKeeper$Block", name := "meets", desc := "(LCoinKeeper$Block;)LCoinKeeper$Block;" } : Jvm.MethodName).desc).map (fun d => d.parameters.length) = some 1 := by decide +kernel
set_option maxHeartbeats 8000000 in
set_option maxRecDepth 100000 in
theorem wew_mK_submit {p : Program} {l : Launch} {e : Env} {s : State} {m : MethodId} {args : Array Value} {below : List Frame} {meth : Method} {c : Code} {D : va_G} {cy : Nat → ClassId} {A : Nat → Prop} {ad : Nat → Nat} {mi MC MS : Nat} {Φ : Int32 → Mm → Prop} {fu : Nat} (F : FxM p s m args meth c b_K_submit 7 "CoinKeeper" "submit" (some .int) D cy ad mi A) : Iw_mK_submit_e p l e s m args below meth c D cy A ad mi MC MS Φ (xw_mK_submit fu MC MS cy ad mi Φ) := by
  obtain ⟨⟨hx, hb, hr, hml, hown, hts, hlocks, hK, hA, hSt, hnm, hex⟩, hT, hMi⟩ := id F
  intro κ σ M a0 hf hkc hks H locs ls hP hD hS hl
  unfold xw_mK_submit at hf
  refine lv_aload_n hx hb d_K_submit_0 rfl (lv_at hl 0 rfl) ?_
  obtain ⟨fs_, hm_, r1, hv_, hf⟩ := hf
  obtain ⟨ix_, hi_⟩ := m_ix hm_
  refine va_get (D := D) (ci := 0) (v := va_rf r1) (C := "CoinKeeper") (T := F_0) (N := 13) hx hb hts i_0 hown hK hP ix_ hi_ rfl 8 (by decide) (hts _ gw_508) (fun _ h9 => h9) hv_ d_K_submit_1 ?_
  clear hv_ hi_ hm_
  obtain ⟨q2, rfl, hf⟩ := hf
  refine W.eq (g2 := F0 m 4 ls [.ref q2]) rfl ?_
  obtain ⟨fs_, hm_, hf⟩ := hf
  obtain ⟨ix_, hi_⟩ := m_ix hm_
  obtain ⟨mc3, ms4, ⟨hc_, hd_⟩, hf⟩ := hf
  refine mm_ai (va_runV (C := "java/util/ArrayList") (As := []) (rest := []) ⟨hx, hb, hml, hown, hts⟩ (cw_mAl_size l D cy ad mi fu mc3 ms4 q2 M _ hf H.size) ⟨q_cB hts gw_551 gw_12 gw_673 hdq_13 ⟨Nat.le_of_ble_eq_true rfl, Nat.le_of_ble_eq_true rfl⟩, hts _ gw_549, hts _ gw_550⟩ (q_preVM (q_preM hP hD hK hSt hT hMi hS (m_free hD hS hA) _) (va_recv hK hP (ci := 11) (q0 := ix_) rfl hi_)) rfl rfl hl.1 rfl (lv_room (Nat.le_of_ble_eq_true rfl)) d_K_submit_4 ⟨hc_, hd_⟩) hD hS hA (fun v6 M5 H locs hf hP hD hS => ?_)
  have hkc : κ + mc3 ≤ MC := hc_
  have hks : σ + ms4 ≤ MS := hd_
  clear hc_ hd_
  refine lv_sipush (v := 200) hx hb d_K_submit_7 (by decide) ?_
  refine lv_icmp_gt (tgt := 27) hx hb d_K_submit_10 (by decide) (fun cx => ?_) (fun cx => ?_)
  · have hf := ifpP cx hf
    exact wv_mK_submit_27 (fu := fu) F _ _ _  hf hkc hks _ _ _ hP hD hS (lv_sub hl [] rfl)
  · have hf := ifnP cx hf
    refine lv_aload_n hx hb d_K_submit_13 rfl (lv_at hl 0 rfl) ?_
    obtain ⟨fs_, hm_, v7, hv_, hf⟩ := hf
    obtain ⟨ix_, hi_⟩ := m_ix hm_
    refine va_get (D := D) (ci := 0) (v := .int v7) (C := "CoinKeeper") (T := F_0) (N := 13) hx hb hts i_0 hown hK hP ix_ hi_ rfl 11 (by decide) (hts _ gw_511) (fun _ h9 => h9) hv_ d_K_submit_14 ?_
    clear hv_ hi_ hm_
    refine lv_aload_n hx hb d_K_submit_17 rfl (lv_at hl 0 rfl) ?_
    obtain ⟨fs_, hm_, v8, hv_, hf⟩ := hf
    obtain ⟨ix_, hi_⟩ := m_ix hm_
    refine va_get (D := D) (ci := 0) (v := .int v8) (C := "CoinKeeper") (T := F_0) (N := 13) hx hb hts i_0 hown hK hP ix_ hi_ rfl 1 (by decide) (hts _ gw_501) (fun _ h9 => h9) hv_ d_K_submit_18 ?_
    clear hv_ hi_ hm_
    refine lv_iadd hx hb d_K_submit_21 ?_
    refine lv_topi (fun v9 ev => ?_)
    have hf := bnQ ev hf
    clear ev
    refine lv_ldc (v := 100000) hx hb hown (hts _ gw_674) d_K_submit_22 ?_
    refine lv_icmp_le (tgt := 35) hx hb d_K_submit_24 (by decide) (fun cx => ?_) (fun cx => ?_)
    · have hf := ifpP cx hf
      refine lv_aload_n hx hb d_K_submit_35 rfl (lv_at hl 0 rfl) ?_
      obtain ⟨fs_, hm_, v10, hv_, hf⟩ := hf
      obtain ⟨ix_, hi_⟩ := m_ix hm_
      refine va_get (D := D) (ci := 0) (v := .int v10) (C := "CoinKeeper") (T := F_0) (N := 13) hx hb hts i_0 hown hK hP ix_ hi_ rfl 1 (by decide) (hts _ gw_501) (fun _ h9 => h9) hv_ d_K_submit_36 ?_
      clear hv_ hi_ hm_
      refine lv_istore_n (lv' := [(1, .int v10), (0, .ref a0)]) hx hb d_K_submit_39 rfl hl (by decide) rfl (fun ls hl => ?_)
      refine lv_aload_n hx hb d_K_submit_40 rfl (lv_at hl 1 rfl) ?_
      refine lv_iconst (v := 0) hx hb d_K_submit_41 (by decide) ?_
      obtain ⟨fs_, hm_, hlen_, hf⟩ := hf
      obtain ⟨ix_, hi_⟩ := m_ix hm_
      have hE_ := m_set (y := .inr (0, fs_.set 1 (.int (0 : Int32)))) hD hi_
      refine va_put (D := D) (ci := 0) (v := .int (0 : Int32)) (ty := .int) (C := "CoinKeeper") (T := F_0) (N := 13) hx hb hts i_0 t_0 t_0_ok n_0 hown hK hP hD hS ix_ hi_ rfl 1 (by decide) (hts _ gw_501) (fun _ h9 => h9) rfl (by decide +kernel) rfl rfl hlen_ d_K_submit_42 (fun H locs hP hD hS => ?_)
      obtain ⟨M11, eM_⟩ : ∃ z, z = mu M5 a0 (.inr (0, fs_.set 1 (.int (0 : Int32)))) := ⟨_, rfl⟩
      rw [← eM_] at hf hE_
      rw [hE_] at hP hD
      clear hE_ eM_ hi_ hm_
      refine lv_aload_n hx hb d_K_submit_45 rfl (lv_at hl 1 rfl) ?_
      refine lv_iload_n hx hb d_K_submit_46 rfl (lv_at hl 0 rfl) ?_
      obtain ⟨fs_, hm_, hf⟩ := hf
      obtain ⟨ix_, hi_⟩ := m_ix hm_
      obtain ⟨mc12, ms13, ⟨hc_, hd_⟩, hf⟩ := hf
      refine mm_ai (va_runV (C := "CoinKeeper") (As := [.int v10]) (rest := []) ⟨hx, hb, hml, hown, hts⟩ (cw_mK_refusal l D cy ad mi fu mc12 ms13 a0 v10 M11 _ hf H.size) ⟨q_cB hts gw_678 gw_1 gw_675 hds_98 ⟨Nat.le_of_ble_eq_true rfl, Nat.le_of_ble_eq_true rfl⟩, hts _ gw_677, hts _ gs_5⟩ (q_preVM (q_preM hP hD hK hSt hT hMi hS (m_free hD hS hA) _) (va_recv hK hP (ci := 0) (q0 := ix_) rfl hi_)) rfl rfl hl.1 rfl (lv_room (Nat.le_of_ble_eq_true rfl)) d_K_submit_47 ⟨hc_, hd_⟩) hD hS hA (fun v15 M14 H locs hf hP hD hS => ?_)
      have hkc : κ + mc3 + mc12 ≤ MC := hc_
      have hks : σ + ms4 + ms13 ≤ MS := hd_
      clear hc_ hd_
      refine lv_istore_n (lv' := [(2, .int v15), (1, .int v10), (0, .ref a0)]) hx hb d_K_submit_50 rfl hl (by decide) rfl (fun ls hl => ?_)
      refine lv_iload_n hx hb d_K_submit_51 rfl (lv_at hl 0 rfl) ?_
      refine lv_if_eq (tgt := 57) hx hb d_K_submit_52 (by decide) (fun cx => ?_) (fun cx => ?_)
      · have hf := ifpP cx hf
        refine lv_aload_n hx hb d_K_submit_57 rfl (lv_at hl 2 rfl) ?_
        refine lv_iload_n hx hb d_K_submit_58 rfl (lv_at hl 1 rfl) ?_
        obtain ⟨fs_, hm_, hf⟩ := hf
        obtain ⟨ix_, hi_⟩ := m_ix hm_
        obtain ⟨mc16, ms17, ⟨hc_, hd_⟩, hf⟩ := hf
        refine m_aq (va_runV (C := "CoinKeeper") (As := [.int v10]) (rest := []) ⟨hx, hb, hml, hown, hts⟩ (cw_mK_take l D cy ad mi fu mc16 ms17 a0 v10 M14 _ hf H.size) ⟨q_cB hts gw_833 gw_1 gw_830 hds_99 ⟨Nat.le_of_ble_eq_true rfl, Nat.le_of_ble_eq_true rfl⟩, hts _ gw_832, hts _ gs_20⟩ (q_preVM (q_preM hP hD hK hSt hT hMi hS (m_free hD hS hA) _) (va_recv hK hP (ci := 0) (q0 := ix_) rfl hi_)) rfl rfl hl.1 rfl (lv_room (Nat.le_of_ble_eq_true rfl)) d_K_submit_59 ⟨hc_, hd_⟩) hD hS hA (fun v19 M18 H locs hf hP hD hS => ?_)
        have hkc : κ + mc3 + mc12 + mc16 ≤ MC := hc_
        have hks : σ + ms4 + ms13 + ms17 ≤ MS := hd_
        clear hc_ hd_
        obtain ⟨q20, rfl, hf⟩ := hf
        refine W.eq (g2 := F0 m 62 ls [.ref q20]) rfl ?_
        refine lv_astore_n (lv' := [(3, .ref q20), (2, .int v15), (1, .int v10), (0, .ref a0)]) hx hb d_K_submit_62 rfl hl (by decide) rfl (fun ls hl => ?_)
        refine lv_aload_n hx hb d_K_submit_63 rfl (lv_at hl 0 rfl) ?_
        obtain ⟨fs_, hm_, v21, hv_, hf⟩ := hf
        obtain ⟨ix_, hi_⟩ := m_ix hm_
        refine va_get (D := D) (ci := 1) (v := .long v21) (C := "CoinKeeper$Block") (T := F_1) (N := 12) hx hb hts i_1 hown hK hP ix_ hi_ rfl 7 (by decide) (hts _ gw_407) (fun _ h9 => h9) hv_ d_K_submit_64 ?_
        clear hv_ hi_ hm_
        refine lv_aload_n hx hb d_K_submit_67 rfl (lv_at hl 3 rfl) ?_
        obtain ⟨fs_, hm_, r22, hv_, hf⟩ := hf
        obtain ⟨ix_, hi_⟩ := m_ix hm_
        refine va_get (D := D) (ci := 0) (v := va_rf r22) (C := "CoinKeeper") (T := F_0) (N := 13) hx hb hts i_0 hown hK hP ix_ hi_ rfl 10 (by decide) (hts _ gw_510) (fun _ h9 => h9) hv_ d_K_submit_68 ?_
        clear hv_ hi_ hm_
        obtain ⟨q23, rfl, hf⟩ := hf
        refine W.eq (g2 := F0 m 71 ls [.ref q23, .long v21]) rfl ?_
        obtain ⟨fs_, hm_, v24, hv_, hf⟩ := hf
        obtain ⟨ix_, hi_⟩ := m_ix hm_
        refine va_get (D := D) (ci := 1) (v := .long v24) (C := "CoinKeeper$Block") (T := F_1) (N := 12) hx hb hts i_1 hown hK hP ix_ hi_ rfl 7 (by decide) (hts _ gw_407) (fun _ h9 => h9) hv_ d_K_submit_71 ?_
        clear hv_ hi_ hm_
        refine W.lcmp hx hb d_K_submit_74 ?_
        refine lv_if_gt (tgt := 80) hx hb d_K_submit_75 (by decide) (fun cx => ?_) (fun cx => ?_)
        · have hf := ifpP cx hf
          refine lv_aload_n hx hb d_K_submit_80 rfl (lv_at hl 0 rfl) ?_
          refine lv_aload_n hx hb d_K_submit_81 rfl (lv_at hl 3 rfl) ?_
          obtain ⟨fs_, hm_, r25, hv_, hf⟩ := hf
          obtain ⟨ix_, hi_⟩ := m_ix hm_
          refine va_get (D := D) (ci := 0) (v := va_rf r25) (C := "CoinKeeper") (T := F_0) (N := 13) hx hb hts i_0 hown hK hP ix_ hi_ rfl 10 (by decide) (hts _ gw_510) (fun _ h9 => h9) hv_ d_K_submit_82 ?_
          clear hv_ hi_ hm_
          obtain ⟨q26, rfl, hf⟩ := hf
          refine W.eq (g2 := F0 m 85 ls [.ref q26, .ref q20]) rfl ?_
          obtain ⟨fs_, hm_, hf⟩ := hf
          obtain ⟨ix_, hi_⟩ := m_ix hm_
          obtain ⟨mc27, ms28, ⟨hc_, hd_⟩, hf⟩ := hf
          refine m_aq (va_runV (C := "CoinKeeper$Block") (As := [.ref q26]) (rest := []) ⟨hx, hb, hml, hown, hts⟩ (cw_mBl_meets l D cy ad mi fu mc27 ms28 q20 q26 M18 _ hf H.size) ⟨q_cB hts gw_898 gw_13 gw_895 hds_100 ⟨Nat.le_of_ble_eq_true rfl, Nat.le_of_ble_eq_true rfl⟩, hts _ gw_896, hts _ gw_897⟩ (q_preVM (q_preM hP hD hK hSt hT hMi hS (m_free hD hS hA) _) (va_recv hK hP (ci := 1) (q0 := ix_) rfl hi_)) rfl rfl hl.1 rfl (lv_room (Nat.le_of_ble_eq_true rfl)) d_K_submit_85 ⟨hc_, hd_⟩) hD hS hA (fun v30 M29 H locs hf hP hD hS => ?_)
          have hkc : κ + mc3 + mc12 + mc16 + mc27 ≤ MC := hc_
          have hks : σ + ms4 + ms13 + ms17 + ms28 ≤ MS := hd_
          clear hc_ hd_
          have hq_ := ospp hf
          clear hf
          rcases hq_ with ⟨rfl, hf⟩ | ⟨q31, rfl, hf⟩
          · refine W.eq (g2 := F0 m 88 ls [.null]) rfl ?_
            refine lv_astoreN (lv' := [(4, .null), (3, .ref q20), (2, .int v15), (1, .int v10), (0, .ref a0)]) hx hb d_K_submit_88 hl (by decide) rfl (fun ls hl => ?_)
            refine lv_aload_n hx hb d_K_submit_90 rfl (lv_at hl 4 rfl) ?_
            obtain ⟨fs_, hm_, r32, hv_, hf⟩ := hf
            obtain ⟨ix_, hi_⟩ := m_ix hm_
            refine va_get (D := D) (ci := 0) (v := va_rf r32) (C := "CoinKeeper") (T := F_0) (N := 13) hx hb hts i_0 hown hK hP ix_ hi_ rfl 7 (by decide) (hts _ gw_507) (fun _ h9 => h9) hv_ d_K_submit_91 ?_
            clear hv_ hi_ hm_
            obtain ⟨q33, rfl, hf⟩ := hf
            refine W.eq (g2 := F0 m 94 ls [.ref q33]) rfl ?_
            refine lv_aloadN hx hb d_K_submit_94 (lv_at hl 0 rfl) ?_
            exact hf.elim
          · refine W.eq (g2 := F0 m 88 ls [.ref q31]) rfl ?_
            refine lv_astore (lv' := [(4, .ref q31), (3, .ref q20), (2, .int v15), (1, .int v10), (0, .ref a0)]) hx hb d_K_submit_88 hl (by decide) rfl (fun ls hl => ?_)
            refine lv_aload_n hx hb d_K_submit_90 rfl (lv_at hl 4 rfl) ?_
            obtain ⟨fs_, hm_, r34, hv_, hf⟩ := hf
            obtain ⟨ix_, hi_⟩ := m_ix hm_
            refine va_get (D := D) (ci := 0) (v := va_rf r34) (C := "CoinKeeper") (T := F_0) (N := 13) hx hb hts i_0 hown hK hP ix_ hi_ rfl 7 (by decide) (hts _ gw_507) (fun _ h9 => h9) hv_ d_K_submit_91 ?_
            clear hv_ hi_ hm_
            obtain ⟨q35, rfl, hf⟩ := hf
            refine W.eq (g2 := F0 m 94 ls [.ref q35]) rfl ?_
            refine lv_aload hx hb d_K_submit_94 (lv_at hl 0 rfl) ?_
            obtain ⟨fs_, hm_, v36, hv_, hf⟩ := hf
            obtain ⟨ix_, hi_⟩ := m_ix hm_
            refine va_get (D := D) (ci := 1) (v := .int v36) (C := "CoinKeeper$Block") (T := F_1) (N := 12) hx hb hts i_1 hown hK hP ix_ hi_ rfl 11 (by decide) (hts _ gw_411) (fun _ h9 => h9) hv_ d_K_submit_96 ?_
            clear hv_ hi_ hm_
            obtain ⟨fs_, hm_, hf⟩ := hf
            obtain ⟨ix_, hi_⟩ := m_ix hm_
            obtain ⟨mc37, ms38, ⟨hc_, hd_⟩, hf⟩ := hf
            refine m_av (va_runV (C := "CoinKeeper$Ledger") (As := [.int v36]) (rest := []) ⟨hx, hb, hml, hown, hts⟩ (cw_mLe_rollBack l D cy ad mi fu mc37 ms38 q35 v36 M29 _ hf H.size) ⟨q_cB hts gw_903 gw_9 gw_900 hdq_39 ⟨Nat.le_of_ble_eq_true rfl, Nat.le_of_ble_eq_true rfl⟩, hts _ gw_901, hts _ gw_902⟩ (q_preVM (q_preM hP hD hK hSt hT hMi hS (m_free hD hS hA) _) (va_recv hK hP (ci := 5) (q0 := ix_) rfl hi_)) rfl rfl hl.1 rfl (lv_room (Nat.le_of_ble_eq_true rfl)) d_K_submit_99 ⟨hc_, hd_⟩) hD hS hA (fun M39 H locs hf hP hD hS => ?_)
            have hkc : κ + mc3 + mc12 + mc16 + mc27 + mc37 ≤ MC := hc_
            have hks : σ + ms4 + ms13 + ms17 + ms28 + ms38 ≤ MS := hd_
            clear hc_ hd_
            refine lv_aload hx hb d_K_submit_102 (lv_at hl 0 rfl) ?_
            obtain ⟨fs_, hm_, v40, hv_, hf⟩ := hf
            obtain ⟨ix_, hi_⟩ := m_ix hm_
            refine va_get (D := D) (ci := 1) (v := .int v40) (C := "CoinKeeper$Block") (T := F_1) (N := 12) hx hb hts i_1 hown hK hP ix_ hi_ rfl 4 (by decide) (hts _ gw_401) (fun _ h9 => h9) hv_ d_K_submit_104 ?_
            clear hv_ hi_ hm_
            refine lv_iconst (v := 1) hx hb d_K_submit_107 (by decide) ?_
            refine lv_iadd hx hb d_K_submit_108 ?_
            refine lv_topi (fun v41 ev => ?_)
            have hf := bnQ ev hf
            clear ev
            refine lv_istore (lv' := [(5, .int v41), (4, .ref q31), (3, .ref q20), (2, .int v15), (1, .int v10), (0, .ref a0)]) hx hb d_K_submit_109 hl (by decide) rfl (fun ls hl => ?_)
            exact ww_mK_submit_111 F fu _ _ _ _ _ _ _ hf hkc hks _ _ _ hP hD hS (lv_sub hl [5, 2, 1, 0] rfl)
        · have hf := ifnP cx hf
          refine lv_iconst (v := 1) hx hb d_K_submit_78 (by decide) ?_
          refine W.widen (k := MC) (n := MS) hkc hks ?_
          exact m_ri hf hx hb hr hlocks hK hP hD hS d_K_submit_79
      · have hf := ifnP cx hf
        refine lv_iload_n hx hb d_K_submit_55 rfl (lv_at hl 0 rfl) ?_
        refine W.widen (k := MC) (n := MS) hkc hks ?_
        exact m_ri hf hx hb hr hlocks hK hP hD hS d_K_submit_56
    · have hf := ifnP cx hf
      exact wv_mK_submit_27 (fu := fu) F _ _ _  hf hkc hks _ _ _ hP hD hS (lv_sub hl [] rfl)
theorem cw_mK_submit (l : Launch) (D : va_G) (cy : Nat → ClassId) (ad : Nat → Nat) (mi fu MC MS : Nat) (a0 : Nat) (M : Mm) (Φ : Int32 → Mm → Prop) (hf : xw_mK_submit fu MC MS cy ad mi Φ 0 0 M a0) (sz : Nat) : Met l ({ cls := "CoinKeeper", name := "submit", desc := "()I" } : Jvm.MethodName) (.code ({ cls := "CoinKeeper", name := "submit", desc := "()I" } : Jvm.MethodName) b_K_submit 7 (some .int) :: gw) (rmw_mK_submit MC MS) (va_Pc [.ref a0] (PrM D cy ad mi (mw M) sz)) (va_Qi Φ (fun u t => Po D cy (va_A (mw M) sz) (mw u) t) (va_A (mw M) sz)) MC MS (va_A (mw M) sz) :=
  q_metM (Qc := fun A => va_Qi Φ (fun u t => Po D cy A (mw u) t) A) (by decide) rfl rfl (Nat.le_of_ble_eq_true rfl) (fun p e s m below meth c ls F hP hD hS hl => wew_mK_submit (fu := fu) F 0 0 M a0 hf (Nat.zero_le _) (Nat.zero_le _) _ _ _ hP hD hS hl) sz
abbrev b_K_script : ByteArray := prog_1_method_5_code
theorem d_K_script_0 : decode b_K_script 0 = .ok (.iload_n 1, 1) := by decide +kernel
theorem d_K_script_1 : decode b_K_script 1 = .ok (.ifCond .lt 30, 3) := by decide +kernel
theorem d_K_script_4 : decode b_K_script 4 = .ok (.iload_n 1, 1) := by decide +kernel
theorem d_K_script_5 : decode b_K_script 5 = .ok (.aload_n 0, 1) := by decide +kernel
theorem d_K_script_6 : decode b_K_script 6 = .ok (.getfield 79, 3) := by decide +kernel
theorem d_K_script_9 : decode b_K_script 9 = .ok (.if_icmp .gt 22, 3) := by decide +kernel
theorem d_K_script_12 : decode b_K_script 12 = .ok (.iload_n 1, 1) := by decide +kernel
theorem d_K_script_13 : decode b_K_script 13 = .ok (.sipush 1000, 3) := by decide +kernel
theorem d_K_script_16 : decode b_K_script 16 = .ok (.if_icmp .gt 15, 3) := by decide +kernel
theorem d_K_script_19 : decode b_K_script 19 = .ok (.aload_n 0, 1) := by decide +kernel
theorem d_K_script_20 : decode b_K_script 20 = .ok (.getfield 79, 3) := by decide +kernel
theorem d_K_script_23 : decode b_K_script 23 = .ok (.iload_n 1, 1) := by decide +kernel
theorem d_K_script_24 : decode b_K_script 24 = .ok (.isub, 1) := by decide +kernel
theorem d_K_script_25 : decode b_K_script 25 = .ok (.sipush 1000, 3) := by decide +kernel
theorem d_K_script_28 : decode b_K_script 28 = .ok (.if_icmp .le 11, 3) := by decide +kernel
theorem d_K_script_31 : decode b_K_script 31 = .ok (.new 90, 3) := by decide +kernel
theorem d_K_script_34 : decode b_K_script 34 = .ok (.dup, 1) := by decide +kernel
theorem d_K_script_35 : decode b_K_script 35 = .ok (.invokespecial 92, 3) := by decide +kernel
theorem d_K_script_38 : decode b_K_script 38 = .ok (.athrow, 1) := by decide +kernel
theorem d_K_script_39 : decode b_K_script 39 = .ok (.aload_n 0, 1) := by decide +kernel
theorem d_K_script_40 : decode b_K_script 40 = .ok (.getfield 35, 3) := by decide +kernel
theorem d_K_script_43 : decode b_K_script 43 = .ok (.iconst 0, 1) := by decide +kernel
theorem d_K_script_44 : decode b_K_script 44 = .ok (.aload_n 0, 1) := by decide +kernel
theorem d_K_script_45 : decode b_K_script 45 = .ok (.getfield 9, 3) := by decide +kernel
theorem d_K_script_48 : decode b_K_script 48 = .ok (.iconst 0, 1) := by decide +kernel
theorem d_K_script_49 : decode b_K_script 49 = .ok (.iload_n 1, 1) := by decide +kernel
theorem d_K_script_50 : decode b_K_script 50 = .ok (.invokevirtual 148, 3) := by decide +kernel
theorem d_K_script_53 : decode b_K_script 53 = .ok (.aload_n 0, 1) := by decide +kernel
theorem d_K_script_54 : decode b_K_script 54 = .ok (.getfield 35, 3) := by decide +kernel
theorem d_K_script_57 : decode b_K_script 57 = .ok (.iconst 1, 1) := by decide +kernel
theorem d_K_script_58 : decode b_K_script 58 = .ok (.aload_n 0, 1) := by decide +kernel
theorem d_K_script_59 : decode b_K_script 59 = .ok (.getfield 9, 3) := by decide +kernel
theorem d_K_script_62 : decode b_K_script 62 = .ok (.iload_n 1, 1) := by decide +kernel
theorem d_K_script_63 : decode b_K_script 63 = .ok (.aload_n 0, 1) := by decide +kernel
theorem d_K_script_64 : decode b_K_script 64 = .ok (.getfield 79, 3) := by decide +kernel
theorem d_K_script_67 : decode b_K_script 67 = .ok (.invokevirtual 148, 3) := by decide +kernel
theorem d_K_script_70 : decode b_K_script 70 = .ok (.aload_n 0, 1) := by decide +kernel
theorem d_K_script_71 : decode b_K_script 71 = .ok (.getfield 35, 3) := by decide +kernel
theorem d_K_script_74 : decode b_K_script 74 = .ok (.invokevirtual 152, 3) := by decide +kernel
theorem d_K_script_77 : decode b_K_script 77 = .ok (.aload_n 0, 1) := by decide +kernel
theorem d_K_script_78 : decode b_K_script 78 = .ok (.iconst 0, 1) := by decide +kernel
theorem d_K_script_79 : decode b_K_script 79 = .ok (.putfield 79, 3) := by decide +kernel
theorem d_K_script_82 : decode b_K_script 82 = .ok (.aload_n 0, 1) := by decide +kernel
theorem d_K_script_83 : decode b_K_script 83 = .ok (.getfield 35, 3) := by decide +kernel
theorem d_K_script_86 : decode b_K_script 86 = .ok (.iconst 0, 1) := by decide +kernel
theorem d_K_script_87 : decode b_K_script 87 = .ok (.invokevirtual 155, 3) := by decide +kernel
theorem d_K_script_90 : decode b_K_script 90 = .ok (.ifCond .eq 28, 3) := by decide +kernel
theorem d_K_script_93 : decode b_K_script 93 = .ok (.aload_n 0, 1) := by decide +kernel
theorem d_K_script_94 : decode b_K_script 94 = .ok (.getfield 35, 3) := by decide +kernel
theorem d_K_script_97 : decode b_K_script 97 = .ok (.iconst 1, 1) := by decide +kernel
theorem d_K_script_98 : decode b_K_script 98 = .ok (.invokevirtual 155, 3) := by decide +kernel
theorem d_K_script_101 : decode b_K_script 101 = .ok (.ifCond .eq 17, 3) := by decide +kernel
theorem d_K_script_104 : decode b_K_script 104 = .ok (.aload_n 0, 1) := by decide +kernel
theorem d_K_script_105 : decode b_K_script 105 = .ok (.getfield 35, 3) := by decide +kernel
theorem d_K_script_108 : decode b_K_script 108 = .ok (.invokevirtual 159, 3) := by decide +kernel
theorem d_K_script_111 : decode b_K_script 111 = .ok (.ifCond .eq 7, 3) := by decide +kernel
theorem d_K_script_114 : decode b_K_script 114 = .ok (.iconst 1, 1) := by decide +kernel
theorem d_K_script_115 : decode b_K_script 115 = .ok (.goto 4, 3) := by decide +kernel
theorem d_K_script_118 : decode b_K_script 118 = .ok (.iconst 0, 1) := by decide +kernel
theorem d_K_script_119 : decode b_K_script 119 = .ok (.ireturn, 1) := by decide +kernel
abbrev rmw_mK_script (MC MS : Nat) : Room := { frames := 7, cells := MC, slots := MS, locals := 214 }
def Iw_mK_script_31 (p : Program) (l : Launch) (e : Env) (s : State) (m : MethodId) (args : Array Value) (below : List Frame) (meth : Method) (c : Code) (D : va_G) (cy : Nat → ClassId) (A : Nat → Prop) (ad : Nat → Nat) (mi MC MS : Nat) (Φ : Int32 → Mm → Prop) (k : Nat → Nat → Mm → Prop) : Prop :=
  ∀ (κ σ : Nat) (M : Mm), k κ σ M → κ ≤ MC → σ ≤ MS → ∀ (H : Heap) (locs : List Loc) (ls : Array Slot), va_P D classes (mw M) H → va_D A (mw M) → va_S A s.heap H locs → lv_has ls 2 [] → W p l e (rmw_mK_script MC MS) s m args below meth c H locs κ σ (MQ below (va_Qi Φ (fun u t => Po D cy A (mw u) t) A) args s MC MS A) (F0 m 31 ls [])
def Iw_mK_script_e (p : Program) (l : Launch) (e : Env) (s : State) (m : MethodId) (args : Array Value) (below : List Frame) (meth : Method) (c : Code) (D : va_G) (cy : Nat → ClassId) (A : Nat → Prop) (ad : Nat → Nat) (mi MC MS : Nat) (Φ : Int32 → Mm → Prop) (k : Nat → Nat → Mm → Nat → Int32 → Prop) : Prop :=
  ∀ (κ σ : Nat) (M : Mm) (a0 : Nat) (a1 : Int32), k κ σ M a0 a1 → κ ≤ MC → σ ≤ MS → ∀ (H : Heap) (locs : List Loc) (ls : Array Slot), va_P D classes (mw M) H → va_D A (mw M) → va_S A s.heap H locs → lv_has ls 2 [(0, .ref a0), (1, .int a1)] → W p l e (rmw_mK_script MC MS) s m args below meth c H locs κ σ (MQ below (va_Qi Φ (fun u t => Po D cy A (mw u) t) A) args s MC MS A) (F0 m 0 ls [])
set_option maxHeartbeats 8000000 in
set_option maxRecDepth 100000 in
theorem wv_mK_script_31 {p : Program} {l : Launch} {e : Env} {s : State} {m : MethodId} {args : Array Value} {below : List Frame} {meth : Method} {c : Code} {D : va_G} {cy : Nat → ClassId} {A : Nat → Prop} {ad : Nat → Nat} {mi MC MS : Nat} {Φ : Int32 → Mm → Prop} {fu : Nat} (F : FxM p s m args meth c b_K_script 2 "CoinKeeper" "script" (some .boolean) D cy ad mi A) : Iw_mK_script_31 p l e s m args below meth c D cy A ad mi MC MS Φ (xv_mK_script_31 fu MC MS cy ad mi Φ) := by
  obtain ⟨⟨hx, hb, hr, hml, hown, hts, hlocks, hK, hA, hSt, hnm, hex⟩, hT, hMi⟩ := id F
  intro κ σ M hf hkc hks H locs ls hP hD hS hl
  unfold xv_mK_script_31 at hf
  exact hf.elim
theorem hds_101 : ({ cls := "CoinKeeper$Machine", name := "spendNothing", desc := "()V" } : Jvm.MethodName).cls ≠ "java/lang/invoke/MethodHandle" ∧ ({ cls := "CoinKeeper$Machine", name := "spendNothing", desc := "()V" } : Jvm.MethodName).cls ≠ "java/lang/invoke/VarHandle" ∧ (parseMethodDescriptor ({ cls := "CoinKeeper$Machine", name := "spendNothing", desc := "()V" } : Jvm.MethodName).desc).map (fun d => d.parameters.length) = some 0 := by decide +kernel
set_option maxHeartbeats 8000000 in
set_option maxRecDepth 100000 in
theorem wew_mK_script {p : Program} {l : Launch} {e : Env} {s : State} {m : MethodId} {args : Array Value} {below : List Frame} {meth : Method} {c : Code} {D : va_G} {cy : Nat → ClassId} {A : Nat → Prop} {ad : Nat → Nat} {mi MC MS : Nat} {Φ : Int32 → Mm → Prop} {fu : Nat} (F : FxM p s m args meth c b_K_script 2 "CoinKeeper" "script" (some .boolean) D cy ad mi A) : Iw_mK_script_e p l e s m args below meth c D cy A ad mi MC MS Φ (xw_mK_script fu MC MS cy ad mi Φ) := by
  obtain ⟨⟨hx, hb, hr, hml, hown, hts, hlocks, hK, hA, hSt, hnm, hex⟩, hT, hMi⟩ := id F
  intro κ σ M a0 a1 hf hkc hks H locs ls hP hD hS hl
  unfold xw_mK_script at hf
  refine lv_iload_n hx hb d_K_script_0 rfl (lv_at hl 1 rfl) ?_
  refine lv_if_lt (tgt := 31) hx hb d_K_script_1 (by decide) (fun cx => ?_) (fun cx => ?_)
  · have hf := ifpP cx hf
    exact wv_mK_script_31 (fu := fu) F _ _ _  hf hkc hks _ _ _ hP hD hS (lv_sub hl [] rfl)
  · have hf := ifnP cx hf
    refine lv_iload_n hx hb d_K_script_4 rfl (lv_at hl 1 rfl) ?_
    refine lv_aload_n hx hb d_K_script_5 rfl (lv_at hl 0 rfl) ?_
    obtain ⟨fs_, hm_, v1, hv_, hf⟩ := hf
    obtain ⟨ix_, hi_⟩ := m_ix hm_
    refine va_get (D := D) (ci := 0) (v := .int v1) (C := "CoinKeeper") (T := F_0) (N := 13) hx hb hts i_0 hown hK hP ix_ hi_ rfl 1 (by decide) (hts _ gw_501) (fun _ h9 => h9) hv_ d_K_script_6 ?_
    clear hv_ hi_ hm_
    refine lv_icmp_gt (tgt := 31) hx hb d_K_script_9 (by decide) (fun cx => ?_) (fun cx => ?_)
    · have hf := ifpP cx hf
      exact wv_mK_script_31 (fu := fu) F _ _ _  hf hkc hks _ _ _ hP hD hS (lv_sub hl [] rfl)
    · have hf := ifnP cx hf
      refine lv_iload_n hx hb d_K_script_12 rfl (lv_at hl 1 rfl) ?_
      refine lv_sipush (v := 1000) hx hb d_K_script_13 (by decide) ?_
      refine lv_icmp_gt (tgt := 31) hx hb d_K_script_16 (by decide) (fun cx => ?_) (fun cx => ?_)
      · have hf := ifpP cx hf
        exact wv_mK_script_31 (fu := fu) F _ _ _  hf hkc hks _ _ _ hP hD hS (lv_sub hl [] rfl)
      · have hf := ifnP cx hf
        refine lv_aload_n hx hb d_K_script_19 rfl (lv_at hl 0 rfl) ?_
        obtain ⟨fs_, hm_, v2, hv_, hf⟩ := hf
        obtain ⟨ix_, hi_⟩ := m_ix hm_
        refine va_get (D := D) (ci := 0) (v := .int v2) (C := "CoinKeeper") (T := F_0) (N := 13) hx hb hts i_0 hown hK hP ix_ hi_ rfl 1 (by decide) (hts _ gw_501) (fun _ h9 => h9) hv_ d_K_script_20 ?_
        clear hv_ hi_ hm_
        refine lv_iload_n hx hb d_K_script_23 rfl (lv_at hl 1 rfl) ?_
        refine lv_isub hx hb d_K_script_24 ?_
        refine lv_topi (fun v3 ev => ?_)
        have hf := bnQ ev hf
        clear ev
        refine lv_sipush (v := 1000) hx hb d_K_script_25 (by decide) ?_
        refine lv_icmp_le (tgt := 39) hx hb d_K_script_28 (by decide) (fun cx => ?_) (fun cx => ?_)
        · have hf := ifpP cx hf
          refine lv_aload_n hx hb d_K_script_39 rfl (lv_at hl 0 rfl) ?_
          obtain ⟨fs_, hm_, r4, hv_, hf⟩ := hf
          obtain ⟨ix_, hi_⟩ := m_ix hm_
          refine va_get (D := D) (ci := 0) (v := va_rf r4) (C := "CoinKeeper") (T := F_0) (N := 13) hx hb hts i_0 hown hK hP ix_ hi_ rfl 5 (by decide) (hts _ gw_505) (fun _ h9 => h9) hv_ d_K_script_40 ?_
          clear hv_ hi_ hm_
          obtain ⟨q5, rfl, hf⟩ := hf
          refine W.eq (g2 := F0 m 43 ls [.ref q5]) rfl ?_
          refine lv_iconst (v := 0) hx hb d_K_script_43 (by decide) ?_
          refine lv_aload_n hx hb d_K_script_44 rfl (lv_at hl 0 rfl) ?_
          obtain ⟨fs_, hm_, r6, hv_, hf⟩ := hf
          obtain ⟨ix_, hi_⟩ := m_ix hm_
          refine va_get (D := D) (ci := 0) (v := va_rf r6) (C := "CoinKeeper") (T := F_0) (N := 13) hx hb hts i_0 hown hK hP ix_ hi_ rfl 0 (by decide) (hts _ gw_500) (fun _ h9 => h9) hv_ d_K_script_45 ?_
          clear hv_ hi_ hm_
          obtain ⟨q7, rfl, hf⟩ := hf
          refine W.eq (g2 := F0 m 48 ls [.ref q7, .int (0 : Int32), .ref q5]) rfl ?_
          refine lv_iconst (v := 0) hx hb d_K_script_48 (by decide) ?_
          refine lv_iload_n hx hb d_K_script_49 rfl (lv_at hl 1 rfl) ?_
          obtain ⟨b8, b9, b10, b11, b12, b13, b14, b15, b16, b17, c18, c19, c20, c21, c22, c23, c24, c25, c26, c27, c28, c29, c30, hal_, hnd_, c31, c32, hc, hf⟩ := hf
          refine m_lv (va_runV (C := "CoinKeeper$Machine") (As := [.int (0 : Int32), .ref q7, .int (0 : Int32), .int a1]) (rest := []) ⟨hx, hb, hml, hown, hts⟩ (c_Ma_load l D cy ad fu q5 b8 b9 b10 b11 b12 b13 b14 b15 b16 b17 q7 c18 c19 c20 c21 c22 c23 c24 c25 c26 c27 c28 (0 : Int32) (0 : Int32) a1 c29 c30 _ hc H.size) ⟨q_cB hts gw_975 gw_6 gw_972 hds_91 ⟨Nat.le_of_ble_eq_true rfl, Nat.le_of_ble_eq_true rfl⟩, hts _ gw_973, hts _ gw_974⟩ (q_preV (q_pre (m_subP hP hal_) (m_subD hD hal_ hnd_) hK hSt hS (m_lF hD hS hA hal_) _) (va_recv hK (m_subP hP hal_) (ci := 6) (q0 := 0) rfl rfl)) rfl rfl hl.1 rfl (lv_room (Nat.le_of_ble_eq_true rfl)) d_K_script_50 ⟨hkc, hks⟩) hP hD hS hA hal_ rfl (fun H locs hP hD hS => ?_)
          refine W.widen (k := κ) (n := σ) (Nat.le_refl _) (Nat.le_refl _) ?_
          obtain ⟨M33, eM_, hf⟩ := bnP hf
          have hP : va_P D classes (mw M33) H := by rw [eM_]; exact hP
          have hD : va_D A (mw M33) := by rw [eM_]; exact hD
          clear eM_ hal_ hnd_ hc
          refine lv_aload_n hx hb d_K_script_53 rfl (lv_at hl 0 rfl) ?_
          obtain ⟨fs_, hm_, r34, hv_, hf⟩ := hf
          obtain ⟨ix_, hi_⟩ := m_ix hm_
          refine va_get (D := D) (ci := 0) (v := va_rf r34) (C := "CoinKeeper") (T := F_0) (N := 13) hx hb hts i_0 hown hK hP ix_ hi_ rfl 5 (by decide) (hts _ gw_505) (fun _ h9 => h9) hv_ d_K_script_54 ?_
          clear hv_ hi_ hm_
          obtain ⟨q35, rfl, hf⟩ := hf
          refine W.eq (g2 := F0 m 57 ls [.ref q35]) rfl ?_
          refine lv_iconst (v := 1) hx hb d_K_script_57 (by decide) ?_
          refine lv_aload_n hx hb d_K_script_58 rfl (lv_at hl 0 rfl) ?_
          obtain ⟨fs_, hm_, r36, hv_, hf⟩ := hf
          obtain ⟨ix_, hi_⟩ := m_ix hm_
          refine va_get (D := D) (ci := 0) (v := va_rf r36) (C := "CoinKeeper") (T := F_0) (N := 13) hx hb hts i_0 hown hK hP ix_ hi_ rfl 0 (by decide) (hts _ gw_500) (fun _ h9 => h9) hv_ d_K_script_59 ?_
          clear hv_ hi_ hm_
          obtain ⟨q37, rfl, hf⟩ := hf
          refine W.eq (g2 := F0 m 62 ls [.ref q37, .int (1 : Int32), .ref q35]) rfl ?_
          refine lv_iload_n hx hb d_K_script_62 rfl (lv_at hl 1 rfl) ?_
          refine lv_aload_n hx hb d_K_script_63 rfl (lv_at hl 0 rfl) ?_
          obtain ⟨fs_, hm_, v38, hv_, hf⟩ := hf
          obtain ⟨ix_, hi_⟩ := m_ix hm_
          refine va_get (D := D) (ci := 0) (v := .int v38) (C := "CoinKeeper") (T := F_0) (N := 13) hx hb hts i_0 hown hK hP ix_ hi_ rfl 1 (by decide) (hts _ gw_501) (fun _ h9 => h9) hv_ d_K_script_64 ?_
          clear hv_ hi_ hm_
          obtain ⟨b39, b40, b41, b42, b43, b44, b45, b46, b47, b48, c49, c50, c51, c52, c53, c54, c55, c56, c57, c58, c59, c60, c61, hal_, hnd_, c62, c63, hc, hf⟩ := hf
          refine m_lv (va_runV (C := "CoinKeeper$Machine") (As := [.int (1 : Int32), .ref q37, .int a1, .int v38]) (rest := []) ⟨hx, hb, hml, hown, hts⟩ (c_Ma_load l D cy ad fu q35 b39 b40 b41 b42 b43 b44 b45 b46 b47 b48 q37 c49 c50 c51 c52 c53 c54 c55 c56 c57 c58 c59 (1 : Int32) a1 v38 c60 c61 _ hc H.size) ⟨q_cB hts gw_975 gw_6 gw_972 hds_91 ⟨Nat.le_of_ble_eq_true rfl, Nat.le_of_ble_eq_true rfl⟩, hts _ gw_973, hts _ gw_974⟩ (q_preV (q_pre (m_subP hP hal_) (m_subD hD hal_ hnd_) hK hSt hS (m_lF hD hS hA hal_) _) (va_recv hK (m_subP hP hal_) (ci := 6) (q0 := 0) rfl rfl)) rfl rfl hl.1 rfl (lv_room (Nat.le_of_ble_eq_true rfl)) d_K_script_67 ⟨hkc, hks⟩) hP hD hS hA hal_ rfl (fun H locs hP hD hS => ?_)
          refine W.widen (k := κ) (n := σ) (Nat.le_refl _) (Nat.le_refl _) ?_
          obtain ⟨M64, eM_, hf⟩ := bnP hf
          have hP : va_P D classes (mw M64) H := by rw [eM_]; exact hP
          have hD : va_D A (mw M64) := by rw [eM_]; exact hD
          clear eM_ hal_ hnd_ hc
          refine lv_aload_n hx hb d_K_script_70 rfl (lv_at hl 0 rfl) ?_
          obtain ⟨fs_, hm_, r65, hv_, hf⟩ := hf
          obtain ⟨ix_, hi_⟩ := m_ix hm_
          refine va_get (D := D) (ci := 0) (v := va_rf r65) (C := "CoinKeeper") (T := F_0) (N := 13) hx hb hts i_0 hown hK hP ix_ hi_ rfl 5 (by decide) (hts _ gw_505) (fun _ h9 => h9) hv_ d_K_script_71 ?_
          clear hv_ hi_ hm_
          obtain ⟨q66, rfl, hf⟩ := hf
          refine W.eq (g2 := F0 m 74 ls [.ref q66]) rfl ?_
          obtain ⟨b67, b68, b69, b70, b71, b72, b73, b74, b75, b76, c77, c78, c79, c80, c81, c82, c83, c84, c85, hal_, hnd_, c86, c87, c88, c89, c90, hc, hf⟩ := hf
          refine m_lv (va_runV (C := "CoinKeeper$Machine") (As := []) (rest := []) ⟨hx, hb, hml, hown, hts⟩ (c_Ma_spendNothing l D cy ad fu q66 b67 b68 b69 b70 b71 b72 b73 b74 b75 b76 c77 c78 c79 c80 c81 c82 c83 c84 c85 _ hc H.size) ⟨q_cB hts gw_1290 gw_6 gw_1287 hds_101 ⟨Nat.le_of_ble_eq_true rfl, Nat.le_of_ble_eq_true rfl⟩, hts _ gw_1288, hts _ gw_1289⟩ (q_preV (q_pre (m_subP hP hal_) (m_subD hD hal_ hnd_) hK hSt hS (m_lF hD hS hA hal_) _) (va_recv hK (m_subP hP hal_) (ci := 6) (q0 := 0) rfl rfl)) rfl rfl hl.1 rfl (lv_room (Nat.le_of_ble_eq_true rfl)) d_K_script_74 ⟨hkc, hks⟩) hP hD hS hA hal_ rfl (fun H locs hP hD hS => ?_)
          refine W.widen (k := κ) (n := σ) (Nat.le_refl _) (Nat.le_refl _) ?_
          obtain ⟨M91, eM_, hf⟩ := bnP hf
          have hP : va_P D classes (mw M91) H := by rw [eM_]; exact hP
          have hD : va_D A (mw M91) := by rw [eM_]; exact hD
          clear eM_ hal_ hnd_ hc
          refine lv_aload_n hx hb d_K_script_77 rfl (lv_at hl 0 rfl) ?_
          refine lv_iconst (v := 0) hx hb d_K_script_78 (by decide) ?_
          obtain ⟨fs_, hm_, hlen_, hf⟩ := hf
          obtain ⟨ix_, hi_⟩ := m_ix hm_
          have hE_ := m_set (y := .inr (0, fs_.set 1 (.int (0 : Int32)))) hD hi_
          refine va_put (D := D) (ci := 0) (v := .int (0 : Int32)) (ty := .int) (C := "CoinKeeper") (T := F_0) (N := 13) hx hb hts i_0 t_0 t_0_ok n_0 hown hK hP hD hS ix_ hi_ rfl 1 (by decide) (hts _ gw_501) (fun _ h9 => h9) rfl (by decide +kernel) rfl rfl hlen_ d_K_script_79 (fun H locs hP hD hS => ?_)
          obtain ⟨M92, eM_⟩ : ∃ z, z = mu M91 a0 (.inr (0, fs_.set 1 (.int (0 : Int32)))) := ⟨_, rfl⟩
          rw [← eM_] at hf hE_
          rw [hE_] at hP hD
          clear hE_ eM_ hi_ hm_
          refine lv_aload_n hx hb d_K_script_82 rfl (lv_at hl 0 rfl) ?_
          obtain ⟨fs_, hm_, r93, hv_, hf⟩ := hf
          obtain ⟨ix_, hi_⟩ := m_ix hm_
          refine va_get (D := D) (ci := 0) (v := va_rf r93) (C := "CoinKeeper") (T := F_0) (N := 13) hx hb hts i_0 hown hK hP ix_ hi_ rfl 5 (by decide) (hts _ gw_505) (fun _ h9 => h9) hv_ d_K_script_83 ?_
          clear hv_ hi_ hm_
          obtain ⟨q94, rfl, hf⟩ := hf
          refine W.eq (g2 := F0 m 86 ls [.ref q94]) rfl ?_
          refine lv_iconst (v := 0) hx hb d_K_script_86 (by decide) ?_
          obtain ⟨fs_, hm_, hf⟩ := hf
          obtain ⟨ix_, hi_⟩ := m_ix hm_
          obtain ⟨mc95, ms96, ⟨hc_, hd_⟩, hf⟩ := hf
          refine mm_ai (va_runV (C := "CoinKeeper$Machine") (As := [.int (0 : Int32)]) (rest := []) ⟨hx, hb, hml, hown, hts⟩ (cw_mMa_run l D cy ad mi fu mc95 ms96 q94 (0 : Int32) M92 _ hf H.size) ⟨q_cB hts gw_984 gw_6 gw_981 hds_93 ⟨Nat.le_of_ble_eq_true rfl, Nat.le_of_ble_eq_true rfl⟩, hts _ gw_982, hts _ gw_983⟩ (q_preVM (q_preM hP hD hK hSt hT hMi hS (m_free hD hS hA) _) (va_recv hK hP (ci := 6) (q0 := ix_) rfl hi_)) rfl rfl hl.1 rfl (lv_room (Nat.le_of_ble_eq_true rfl)) d_K_script_87 ⟨hc_, hd_⟩) hD hS hA (fun v98 M97 H locs hf hP hD hS => ?_)
          have hkc : κ + mc95 ≤ MC := hc_
          have hks : σ + ms96 ≤ MS := hd_
          clear hc_ hd_
          refine lv_if_eq (tgt := 118) hx hb d_K_script_90 (by decide) (fun cx => ?_) (fun cx => ?_)
          · have hf := ifpP cx hf
            refine lv_iconst (v := 0) hx hb d_K_script_118 (by decide) ?_
            refine W.widen (k := MC) (n := MS) hkc hks ?_
            exact m_rz hf hx hb hr hlocks hK hP hD hS (isb_n (v := 0) (by decide)) d_K_script_119
          · have hf := ifnP cx hf
            refine lv_aload_n hx hb d_K_script_93 rfl (lv_at hl 0 rfl) ?_
            obtain ⟨fs_, hm_, r99, hv_, hf⟩ := hf
            obtain ⟨ix_, hi_⟩ := m_ix hm_
            refine va_get (D := D) (ci := 0) (v := va_rf r99) (C := "CoinKeeper") (T := F_0) (N := 13) hx hb hts i_0 hown hK hP ix_ hi_ rfl 5 (by decide) (hts _ gw_505) (fun _ h9 => h9) hv_ d_K_script_94 ?_
            clear hv_ hi_ hm_
            obtain ⟨q100, rfl, hf⟩ := hf
            refine W.eq (g2 := F0 m 97 ls [.ref q100]) rfl ?_
            refine lv_iconst (v := 1) hx hb d_K_script_97 (by decide) ?_
            obtain ⟨fs_, hm_, hf⟩ := hf
            obtain ⟨ix_, hi_⟩ := m_ix hm_
            obtain ⟨mc101, ms102, ⟨hc_, hd_⟩, hf⟩ := hf
            refine mm_ai (va_runV (C := "CoinKeeper$Machine") (As := [.int (1 : Int32)]) (rest := []) ⟨hx, hb, hml, hown, hts⟩ (cw_mMa_run l D cy ad mi fu mc101 ms102 q100 (1 : Int32) M97 _ hf H.size) ⟨q_cB hts gw_984 gw_6 gw_981 hds_93 ⟨Nat.le_of_ble_eq_true rfl, Nat.le_of_ble_eq_true rfl⟩, hts _ gw_982, hts _ gw_983⟩ (q_preVM (q_preM hP hD hK hSt hT hMi hS (m_free hD hS hA) _) (va_recv hK hP (ci := 6) (q0 := ix_) rfl hi_)) rfl rfl hl.1 rfl (lv_room (Nat.le_of_ble_eq_true rfl)) d_K_script_98 ⟨hc_, hd_⟩) hD hS hA (fun v104 M103 H locs hf hP hD hS => ?_)
            have hkc : κ + mc95 + mc101 ≤ MC := hc_
            have hks : σ + ms96 + ms102 ≤ MS := hd_
            clear hc_ hd_
            refine lv_if_eq (tgt := 118) hx hb d_K_script_101 (by decide) (fun cx => ?_) (fun cx => ?_)
            · have hf := ifpP cx hf
              refine lv_iconst (v := 0) hx hb d_K_script_118 (by decide) ?_
              refine W.widen (k := MC) (n := MS) hkc hks ?_
              exact m_rz hf hx hb hr hlocks hK hP hD hS (isb_n (v := 0) (by decide)) d_K_script_119
            · have hf := ifnP cx hf
              refine lv_aload_n hx hb d_K_script_104 rfl (lv_at hl 0 rfl) ?_
              obtain ⟨fs_, hm_, r105, hv_, hf⟩ := hf
              obtain ⟨ix_, hi_⟩ := m_ix hm_
              refine va_get (D := D) (ci := 0) (v := va_rf r105) (C := "CoinKeeper") (T := F_0) (N := 13) hx hb hts i_0 hown hK hP ix_ hi_ rfl 5 (by decide) (hts _ gw_505) (fun _ h9 => h9) hv_ d_K_script_105 ?_
              clear hv_ hi_ hm_
              obtain ⟨q106, rfl, hf⟩ := hf
              refine W.eq (g2 := F0 m 108 ls [.ref q106]) rfl ?_
              obtain ⟨b107, b108, b109, b110, b111, b112, b113, b114, b115, b116, c117, c118, c119, c120, c121, c122, c123, c124, c125, c126, c127, hal_, hnd_, v128, hc, hf⟩ := hf
              refine m_li (va_runV (C := "CoinKeeper$Machine") (As := []) (rest := []) ⟨hx, hb, hml, hown, hts⟩ (c_Ma_endsTrue l D cy ad fu q106 b107 b108 b109 b110 b111 b112 b113 b114 b115 b116 c117 c118 c119 c120 c121 c122 c123 c124 c125 c126 c127 _ hc H.size) ⟨q_cB hts gw_1271 gw_6 gw_1268 hds_94 ⟨Nat.le_of_ble_eq_true rfl, Nat.le_of_ble_eq_true rfl⟩, hts _ gw_1269, hts _ gw_1270⟩ (q_preV (q_pre (m_subP hP hal_) (m_subD hD hal_ hnd_) hK hSt hS (m_lF hD hS hA hal_) _) (va_recv hK (m_subP hP hal_) (ci := 6) (q0 := 0) rfl rfl)) rfl rfl hl.1 rfl (lv_room (Nat.le_of_ble_eq_true rfl)) d_K_script_108 ⟨hkc, hks⟩) hP hD hS hA hal_ rfl (fun H locs hP hD hS => ?_)
              refine W.widen (k := κ + mc95 + mc101) (n := σ + ms96 + ms102) (Nat.le_refl _) (Nat.le_refl _) ?_
              obtain ⟨M129, eM_, hf⟩ := bnP hf
              have hP : va_P D classes (mw M129) H := by rw [eM_]; exact hP
              have hD : va_D A (mw M129) := by rw [eM_]; exact hD
              clear eM_ hal_ hnd_ hc
              refine lv_if_eq (tgt := 118) hx hb d_K_script_111 (by decide) (fun cx => ?_) (fun cx => ?_)
              · have hf := ifpP cx hf
                refine lv_iconst (v := 0) hx hb d_K_script_118 (by decide) ?_
                refine W.widen (k := MC) (n := MS) hkc hks ?_
                exact m_rz hf hx hb hr hlocks hK hP hD hS (isb_n (v := 0) (by decide)) d_K_script_119
              · have hf := ifnP cx hf
                refine lv_iconst (v := 1) hx hb d_K_script_114 (by decide) ?_
                refine lv_goto (tgt := 119) hx hb d_K_script_115 (by decide) ?_
                refine W.widen (k := MC) (n := MS) hkc hks ?_
                exact m_rz hf hx hb hr hlocks hK hP hD hS (isb_n (v := 1) (by decide)) d_K_script_119
        · have hf := ifnP cx hf
          exact wv_mK_script_31 (fu := fu) F _ _ _  hf hkc hks _ _ _ hP hD hS (lv_sub hl [] rfl)
theorem cw_mK_script (l : Launch) (D : va_G) (cy : Nat → ClassId) (ad : Nat → Nat) (mi fu MC MS : Nat) (a0 : Nat) (a1 : Int32) (M : Mm) (Φ : Int32 → Mm → Prop) (hf : xw_mK_script fu MC MS cy ad mi Φ 0 0 M a0 a1) (sz : Nat) : Met l ({ cls := "CoinKeeper", name := "script", desc := "(I)Z" } : Jvm.MethodName) (.code ({ cls := "CoinKeeper", name := "script", desc := "(I)Z" } : Jvm.MethodName) b_K_script 2 (some .boolean) :: gw) (rmw_mK_script MC MS) (va_Pc [.ref a0, .int a1] (PrM D cy ad mi (mw M) sz)) (va_Qi Φ (fun u t => Po D cy (va_A (mw M) sz) (mw u) t) (va_A (mw M) sz)) MC MS (va_A (mw M) sz) :=
  q_metM (Qc := fun A => va_Qi Φ (fun u t => Po D cy A (mw u) t) A) (by decide) rfl rfl (Nat.le_of_ble_eq_true rfl) (fun p e s m below meth c ls F hP hD hS hl => wew_mK_script (fu := fu) F 0 0 M a0 a1 hf (Nat.zero_le _) (Nat.zero_le _) _ _ _ hP hD hS hl) sz
abbrev b_K_feed : ByteArray := prog_1_method_2_code
theorem d_K_feed_0 : decode b_K_feed 0 = .ok (.aload_n 0, 1) := by decide +kernel
theorem d_K_feed_1 : decode b_K_feed 1 = .ok (.getfield 79, 3) := by decide +kernel
theorem d_K_feed_4 : decode b_K_feed 4 = .ok (.bipush 20, 2) := by decide +kernel
theorem d_K_feed_6 : decode b_K_feed 6 = .ok (.iadd, 1) := by decide +kernel
theorem d_K_feed_7 : decode b_K_feed 7 = .ok (.sipush 3000, 3) := by decide +kernel
theorem d_K_feed_10 : decode b_K_feed 10 = .ok (.if_icmp .le 11, 3) := by decide +kernel
theorem d_K_feed_13 : decode b_K_feed 13 = .ok (.new 83, 3) := by decide +kernel
theorem d_K_feed_16 : decode b_K_feed 16 = .ok (.dup, 1) := by decide +kernel
theorem d_K_feed_17 : decode b_K_feed 17 = .ok (.invokespecial 85, 3) := by decide +kernel
theorem d_K_feed_20 : decode b_K_feed 20 = .ok (.athrow, 1) := by decide +kernel
theorem d_K_feed_21 : decode b_K_feed 21 = .ok (.aload_n 0, 1) := by decide +kernel
theorem d_K_feed_22 : decode b_K_feed 22 = .ok (.iload_n 1, 1) := by decide +kernel
theorem d_K_feed_23 : decode b_K_feed 23 = .ok (.invokevirtual 86, 3) := by decide +kernel
theorem d_K_feed_26 : decode b_K_feed 26 = .ok (.aload_n 0, 1) := by decide +kernel
theorem d_K_feed_27 : decode b_K_feed 27 = .ok (.iload_n 2, 1) := by decide +kernel
theorem d_K_feed_28 : decode b_K_feed 28 = .ok (.invokevirtual 86, 3) := by decide +kernel
theorem d_K_feed_31 : decode b_K_feed 31 = .ok (.aload_n 0, 1) := by decide +kernel
theorem d_K_feed_32 : decode b_K_feed 32 = .ok (.iload_n 3, 1) := by decide +kernel
theorem d_K_feed_33 : decode b_K_feed 33 = .ok (.invokevirtual 86, 3) := by decide +kernel
theorem d_K_feed_36 : decode b_K_feed 36 = .ok (.aload_n 0, 1) := by decide +kernel
theorem d_K_feed_37 : decode b_K_feed 37 = .ok (.iload 4, 2) := by decide +kernel
theorem d_K_feed_39 : decode b_K_feed 39 = .ok (.invokevirtual 86, 3) := by decide +kernel
theorem d_K_feed_42 : decode b_K_feed 42 = .ok (.aload_n 0, 1) := by decide +kernel
theorem d_K_feed_43 : decode b_K_feed 43 = .ok (.iload 5, 2) := by decide +kernel
theorem d_K_feed_45 : decode b_K_feed 45 = .ok (.invokevirtual 86, 3) := by decide +kernel
theorem d_K_feed_48 : decode b_K_feed 48 = .ok (.aload_n 0, 1) := by decide +kernel
theorem d_K_feed_49 : decode b_K_feed 49 = .ok (.getfield 79, 3) := by decide +kernel
theorem d_K_feed_52 : decode b_K_feed 52 = .ok (.ireturn, 1) := by decide +kernel
abbrev rmw_mK_feed (MC MS : Nat) : Room := { frames := 1, cells := MC, slots := MS, locals := 22 }
def Iw_mK_feed_e (p : Program) (l : Launch) (e : Env) (s : State) (m : MethodId) (args : Array Value) (below : List Frame) (meth : Method) (c : Code) (D : va_G) (cy : Nat → ClassId) (A : Nat → Prop) (ad : Nat → Nat) (mi MC MS : Nat) (Φ : Int32 → Mm → Prop) (k : Nat → Nat → Mm → Nat → Int32 → Int32 → Int32 → Int32 → Int32 → Prop) : Prop :=
  ∀ (κ σ : Nat) (M : Mm) (a0 : Nat) (a1 : Int32) (a2 : Int32) (a3 : Int32) (a4 : Int32) (a5 : Int32), k κ σ M a0 a1 a2 a3 a4 a5 → κ ≤ MC → σ ≤ MS → ∀ (H : Heap) (locs : List Loc) (ls : Array Slot), va_P D classes (mw M) H → va_D A (mw M) → va_S A s.heap H locs → lv_has ls 6 [(0, .ref a0), (1, .int a1), (2, .int a2), (3, .int a3), (4, .int a4), (5, .int a5)] → W p l e (rmw_mK_feed MC MS) s m args below meth c H locs κ σ (MQ below (va_Qi Φ (fun u t => Po D cy A (mw u) t) A) args s MC MS A) (F0 m 0 ls [])
theorem hds_102 : ({ cls := "CoinKeeper", name := "append", desc := "(I)V" } : Jvm.MethodName).cls ≠ "java/lang/invoke/MethodHandle" ∧ ({ cls := "CoinKeeper", name := "append", desc := "(I)V" } : Jvm.MethodName).cls ≠ "java/lang/invoke/VarHandle" ∧ (parseMethodDescriptor ({ cls := "CoinKeeper", name := "append", desc := "(I)V" } : Jvm.MethodName).desc).map (fun d => d.parameters.length) = some 1 := by decide +kernel
set_option maxHeartbeats 8000000 in
set_option maxRecDepth 100000 in
theorem wew_mK_feed {p : Program} {l : Launch} {e : Env} {s : State} {m : MethodId} {args : Array Value} {below : List Frame} {meth : Method} {c : Code} {D : va_G} {cy : Nat → ClassId} {A : Nat → Prop} {ad : Nat → Nat} {mi MC MS : Nat} {Φ : Int32 → Mm → Prop} {fu : Nat} (F : FxM p s m args meth c b_K_feed 6 "CoinKeeper" "feed" (some .int) D cy ad mi A) : Iw_mK_feed_e p l e s m args below meth c D cy A ad mi MC MS Φ (xw_mK_feed fu MC MS cy ad mi Φ) := by
  obtain ⟨⟨hx, hb, hr, hml, hown, hts, hlocks, hK, hA, hSt, hnm, hex⟩, hT, hMi⟩ := id F
  intro κ σ M a0 a1 a2 a3 a4 a5 hf hkc hks H locs ls hP hD hS hl
  unfold xw_mK_feed at hf
  refine lv_aload_n hx hb d_K_feed_0 rfl (lv_at hl 0 rfl) ?_
  obtain ⟨fs_, hm_, v1, hv_, hf⟩ := hf
  obtain ⟨ix_, hi_⟩ := m_ix hm_
  refine va_get (D := D) (ci := 0) (v := .int v1) (C := "CoinKeeper") (T := F_0) (N := 13) hx hb hts i_0 hown hK hP ix_ hi_ rfl 1 (by decide) (hts _ gw_501) (fun _ h9 => h9) hv_ d_K_feed_1 ?_
  clear hv_ hi_ hm_
  refine lv_bipush (v := 20) hx hb d_K_feed_4 (by decide) ?_
  refine lv_iadd hx hb d_K_feed_6 ?_
  refine lv_topi (fun v2 ev => ?_)
  have hf := bnQ ev hf
  clear ev
  refine lv_sipush (v := 3000) hx hb d_K_feed_7 (by decide) ?_
  refine lv_icmp_le (tgt := 21) hx hb d_K_feed_10 (by decide) (fun cx => ?_) (fun cx => ?_)
  · have hf := ifpP cx hf
    refine lv_aload_n hx hb d_K_feed_21 rfl (lv_at hl 0 rfl) ?_
    refine lv_iload_n hx hb d_K_feed_22 rfl (lv_at hl 1 rfl) ?_
    obtain ⟨b3, b4, b5, b6, b7, b8, b9, b10, b11, b12, c13, c14, c15, c16, hal_, hnd_, c17, c18, hc, hf⟩ := hf
    refine m_lv (va_runV (C := "CoinKeeper") (As := [.int a1]) (rest := []) ⟨hx, hb, hml, hown, hts⟩ (c_K_append l D cy ad fu a0 b3 b4 b5 b6 b7 b8 b9 b10 b11 b12 c13 c14 a1 c15 c16 _ hc H.size) ⟨q_cB hts gw_642 gw_1 gw_639 hds_102 ⟨Nat.le_of_ble_eq_true rfl, Nat.le_of_ble_eq_true rfl⟩, hts _ gw_641, hts _ gs_4⟩ (q_preV (q_pre (m_subP hP hal_) (m_subD hD hal_ hnd_) hK hSt hS (m_lF hD hS hA hal_) _) (va_recv hK (m_subP hP hal_) (ci := 0) (q0 := 0) rfl rfl)) rfl rfl hl.1 rfl (lv_room (Nat.le_of_ble_eq_true rfl)) d_K_feed_23 ⟨hkc, hks⟩) hP hD hS hA hal_ rfl (fun H locs hP hD hS => ?_)
    refine W.widen (k := κ) (n := σ) (Nat.le_refl _) (Nat.le_refl _) ?_
    obtain ⟨M19, eM_, hf⟩ := bnP hf
    have hP : va_P D classes (mw M19) H := by rw [eM_]; exact hP
    have hD : va_D A (mw M19) := by rw [eM_]; exact hD
    clear eM_ hal_ hnd_ hc
    refine lv_aload_n hx hb d_K_feed_26 rfl (lv_at hl 0 rfl) ?_
    refine lv_iload_n hx hb d_K_feed_27 rfl (lv_at hl 2 rfl) ?_
    obtain ⟨b20, b21, b22, b23, b24, b25, b26, b27, b28, b29, c30, c31, c32, c33, hal_, hnd_, c34, c35, hc, hf⟩ := hf
    refine m_lv (va_runV (C := "CoinKeeper") (As := [.int a2]) (rest := []) ⟨hx, hb, hml, hown, hts⟩ (c_K_append l D cy ad fu a0 b20 b21 b22 b23 b24 b25 b26 b27 b28 b29 c30 c31 a2 c32 c33 _ hc H.size) ⟨q_cB hts gw_642 gw_1 gw_639 hds_102 ⟨Nat.le_of_ble_eq_true rfl, Nat.le_of_ble_eq_true rfl⟩, hts _ gw_641, hts _ gs_4⟩ (q_preV (q_pre (m_subP hP hal_) (m_subD hD hal_ hnd_) hK hSt hS (m_lF hD hS hA hal_) _) (va_recv hK (m_subP hP hal_) (ci := 0) (q0 := 0) rfl rfl)) rfl rfl hl.1 rfl (lv_room (Nat.le_of_ble_eq_true rfl)) d_K_feed_28 ⟨hkc, hks⟩) hP hD hS hA hal_ rfl (fun H locs hP hD hS => ?_)
    refine W.widen (k := κ) (n := σ) (Nat.le_refl _) (Nat.le_refl _) ?_
    obtain ⟨M36, eM_, hf⟩ := bnP hf
    have hP : va_P D classes (mw M36) H := by rw [eM_]; exact hP
    have hD : va_D A (mw M36) := by rw [eM_]; exact hD
    clear eM_ hal_ hnd_ hc
    refine lv_aload_n hx hb d_K_feed_31 rfl (lv_at hl 0 rfl) ?_
    refine lv_iload_n hx hb d_K_feed_32 rfl (lv_at hl 3 rfl) ?_
    obtain ⟨b37, b38, b39, b40, b41, b42, b43, b44, b45, b46, c47, c48, c49, c50, hal_, hnd_, c51, c52, hc, hf⟩ := hf
    refine m_lv (va_runV (C := "CoinKeeper") (As := [.int a3]) (rest := []) ⟨hx, hb, hml, hown, hts⟩ (c_K_append l D cy ad fu a0 b37 b38 b39 b40 b41 b42 b43 b44 b45 b46 c47 c48 a3 c49 c50 _ hc H.size) ⟨q_cB hts gw_642 gw_1 gw_639 hds_102 ⟨Nat.le_of_ble_eq_true rfl, Nat.le_of_ble_eq_true rfl⟩, hts _ gw_641, hts _ gs_4⟩ (q_preV (q_pre (m_subP hP hal_) (m_subD hD hal_ hnd_) hK hSt hS (m_lF hD hS hA hal_) _) (va_recv hK (m_subP hP hal_) (ci := 0) (q0 := 0) rfl rfl)) rfl rfl hl.1 rfl (lv_room (Nat.le_of_ble_eq_true rfl)) d_K_feed_33 ⟨hkc, hks⟩) hP hD hS hA hal_ rfl (fun H locs hP hD hS => ?_)
    refine W.widen (k := κ) (n := σ) (Nat.le_refl _) (Nat.le_refl _) ?_
    obtain ⟨M53, eM_, hf⟩ := bnP hf
    have hP : va_P D classes (mw M53) H := by rw [eM_]; exact hP
    have hD : va_D A (mw M53) := by rw [eM_]; exact hD
    clear eM_ hal_ hnd_ hc
    refine lv_aload_n hx hb d_K_feed_36 rfl (lv_at hl 0 rfl) ?_
    refine lv_iload hx hb d_K_feed_37 (lv_at hl 4 rfl) ?_
    obtain ⟨b54, b55, b56, b57, b58, b59, b60, b61, b62, b63, c64, c65, c66, c67, hal_, hnd_, c68, c69, hc, hf⟩ := hf
    refine m_lv (va_runV (C := "CoinKeeper") (As := [.int a4]) (rest := []) ⟨hx, hb, hml, hown, hts⟩ (c_K_append l D cy ad fu a0 b54 b55 b56 b57 b58 b59 b60 b61 b62 b63 c64 c65 a4 c66 c67 _ hc H.size) ⟨q_cB hts gw_642 gw_1 gw_639 hds_102 ⟨Nat.le_of_ble_eq_true rfl, Nat.le_of_ble_eq_true rfl⟩, hts _ gw_641, hts _ gs_4⟩ (q_preV (q_pre (m_subP hP hal_) (m_subD hD hal_ hnd_) hK hSt hS (m_lF hD hS hA hal_) _) (va_recv hK (m_subP hP hal_) (ci := 0) (q0 := 0) rfl rfl)) rfl rfl hl.1 rfl (lv_room (Nat.le_of_ble_eq_true rfl)) d_K_feed_39 ⟨hkc, hks⟩) hP hD hS hA hal_ rfl (fun H locs hP hD hS => ?_)
    refine W.widen (k := κ) (n := σ) (Nat.le_refl _) (Nat.le_refl _) ?_
    obtain ⟨M70, eM_, hf⟩ := bnP hf
    have hP : va_P D classes (mw M70) H := by rw [eM_]; exact hP
    have hD : va_D A (mw M70) := by rw [eM_]; exact hD
    clear eM_ hal_ hnd_ hc
    refine lv_aload_n hx hb d_K_feed_42 rfl (lv_at hl 0 rfl) ?_
    refine lv_iload hx hb d_K_feed_43 (lv_at hl 5 rfl) ?_
    obtain ⟨b71, b72, b73, b74, b75, b76, b77, b78, b79, b80, c81, c82, c83, c84, hal_, hnd_, c85, c86, hc, hf⟩ := hf
    refine m_lv (va_runV (C := "CoinKeeper") (As := [.int a5]) (rest := []) ⟨hx, hb, hml, hown, hts⟩ (c_K_append l D cy ad fu a0 b71 b72 b73 b74 b75 b76 b77 b78 b79 b80 c81 c82 a5 c83 c84 _ hc H.size) ⟨q_cB hts gw_642 gw_1 gw_639 hds_102 ⟨Nat.le_of_ble_eq_true rfl, Nat.le_of_ble_eq_true rfl⟩, hts _ gw_641, hts _ gs_4⟩ (q_preV (q_pre (m_subP hP hal_) (m_subD hD hal_ hnd_) hK hSt hS (m_lF hD hS hA hal_) _) (va_recv hK (m_subP hP hal_) (ci := 0) (q0 := 0) rfl rfl)) rfl rfl hl.1 rfl (lv_room (Nat.le_of_ble_eq_true rfl)) d_K_feed_45 ⟨hkc, hks⟩) hP hD hS hA hal_ rfl (fun H locs hP hD hS => ?_)
    refine W.widen (k := κ) (n := σ) (Nat.le_refl _) (Nat.le_refl _) ?_
    obtain ⟨M87, eM_, hf⟩ := bnP hf
    have hP : va_P D classes (mw M87) H := by rw [eM_]; exact hP
    have hD : va_D A (mw M87) := by rw [eM_]; exact hD
    clear eM_ hal_ hnd_ hc
    refine lv_aload_n hx hb d_K_feed_48 rfl (lv_at hl 0 rfl) ?_
    obtain ⟨fs_, hm_, v88, hv_, hf⟩ := hf
    obtain ⟨ix_, hi_⟩ := m_ix hm_
    refine va_get (D := D) (ci := 0) (v := .int v88) (C := "CoinKeeper") (T := F_0) (N := 13) hx hb hts i_0 hown hK hP ix_ hi_ rfl 1 (by decide) (hts _ gw_501) (fun _ h9 => h9) hv_ d_K_feed_49 ?_
    clear hv_ hi_ hm_
    refine W.widen (k := MC) (n := MS) hkc hks ?_
    exact m_ri hf hx hb hr hlocks hK hP hD hS d_K_feed_52
  · have hf := ifnP cx hf
    exact hf.elim
theorem cw_mK_feed (l : Launch) (D : va_G) (cy : Nat → ClassId) (ad : Nat → Nat) (mi fu MC MS : Nat) (a0 : Nat) (a1 : Int32) (a2 : Int32) (a3 : Int32) (a4 : Int32) (a5 : Int32) (M : Mm) (Φ : Int32 → Mm → Prop) (hf : xw_mK_feed fu MC MS cy ad mi Φ 0 0 M a0 a1 a2 a3 a4 a5) (sz : Nat) : Met l ({ cls := "CoinKeeper", name := "feed", desc := "(IIIII)I" } : Jvm.MethodName) (.code ({ cls := "CoinKeeper", name := "feed", desc := "(IIIII)I" } : Jvm.MethodName) b_K_feed 6 (some .int) :: gw) (rmw_mK_feed MC MS) (va_Pc [.ref a0, .int a1, .int a2, .int a3, .int a4, .int a5] (PrM D cy ad mi (mw M) sz)) (va_Qi Φ (fun u t => Po D cy (va_A (mw M) sz) (mw u) t) (va_A (mw M) sz)) MC MS (va_A (mw M) sz) :=
  q_metM (Qc := fun A => va_Qi Φ (fun u t => Po D cy A (mw u) t) A) (by decide) rfl rfl (Nat.le_of_ble_eq_true rfl) (fun p e s m below meth c ls F hP hD hS hl => wew_mK_feed (fu := fu) F 0 0 M a0 a1 a2 a3 a4 a5 hf (Nat.zero_le _) (Nat.zero_le _) _ _ _ hP hD hS hl) sz
abbrev b_K_end : ByteArray := prog_1_method_3_code
theorem d_K_end_0 : decode b_K_end 0 = .ok (.iload_n 1, 1) := by decide +kernel
theorem d_K_end_1 : decode b_K_end 1 = .ok (.ifCond .lt 11, 3) := by decide +kernel
theorem d_K_end_4 : decode b_K_end 4 = .ok (.iload_n 1, 1) := by decide +kernel
theorem d_K_end_5 : decode b_K_end 5 = .ok (.aload_n 0, 1) := by decide +kernel
theorem d_K_end_6 : decode b_K_end 6 = .ok (.getfield 79, 3) := by decide +kernel
theorem d_K_end_9 : decode b_K_end 9 = .ok (.if_icmp .le 11, 3) := by decide +kernel
theorem d_K_end_12 : decode b_K_end 12 = .ok (.new 90, 3) := by decide +kernel
theorem d_K_end_15 : decode b_K_end 15 = .ok (.dup, 1) := by decide +kernel
theorem d_K_end_16 : decode b_K_end 16 = .ok (.invokespecial 92, 3) := by decide +kernel
theorem d_K_end_19 : decode b_K_end 19 = .ok (.athrow, 1) := by decide +kernel
theorem d_K_end_20 : decode b_K_end 20 = .ok (.aload_n 0, 1) := by decide +kernel
theorem d_K_end_21 : decode b_K_end 21 = .ok (.iload_n 1, 1) := by decide +kernel
theorem d_K_end_22 : decode b_K_end 22 = .ok (.putfield 79, 3) := by decide +kernel
theorem d_K_end_25 : decode b_K_end 25 = .ok (.iload_n 1, 1) := by decide +kernel
theorem d_K_end_26 : decode b_K_end 26 = .ok (.ireturn, 1) := by decide +kernel
abbrev rmw_mK_end (MC MS : Nat) : Room := { frames := 0, cells := MC, slots := MS, locals := 0 }
def Iw_mK_end_12 (p : Program) (l : Launch) (e : Env) (s : State) (m : MethodId) (args : Array Value) (below : List Frame) (meth : Method) (c : Code) (D : va_G) (cy : Nat → ClassId) (A : Nat → Prop) (ad : Nat → Nat) (mi MC MS : Nat) (Φ : Int32 → Mm → Prop) (k : Nat → Nat → Mm → Prop) : Prop :=
  ∀ (κ σ : Nat) (M : Mm), k κ σ M → κ ≤ MC → σ ≤ MS → ∀ (H : Heap) (locs : List Loc) (ls : Array Slot), va_P D classes (mw M) H → va_D A (mw M) → va_S A s.heap H locs → lv_has ls 2 [] → W p l e (rmw_mK_end MC MS) s m args below meth c H locs κ σ (MQ below (va_Qi Φ (fun u t => Po D cy A (mw u) t) A) args s MC MS A) (F0 m 12 ls [])
def Iw_mK_end_e (p : Program) (l : Launch) (e : Env) (s : State) (m : MethodId) (args : Array Value) (below : List Frame) (meth : Method) (c : Code) (D : va_G) (cy : Nat → ClassId) (A : Nat → Prop) (ad : Nat → Nat) (mi MC MS : Nat) (Φ : Int32 → Mm → Prop) (k : Nat → Nat → Mm → Nat → Int32 → Prop) : Prop :=
  ∀ (κ σ : Nat) (M : Mm) (a0 : Nat) (a1 : Int32), k κ σ M a0 a1 → κ ≤ MC → σ ≤ MS → ∀ (H : Heap) (locs : List Loc) (ls : Array Slot), va_P D classes (mw M) H → va_D A (mw M) → va_S A s.heap H locs → lv_has ls 2 [(0, .ref a0), (1, .int a1)] → W p l e (rmw_mK_end MC MS) s m args below meth c H locs κ σ (MQ below (va_Qi Φ (fun u t => Po D cy A (mw u) t) A) args s MC MS A) (F0 m 0 ls [])
set_option maxHeartbeats 8000000 in
set_option maxRecDepth 100000 in
theorem wv_mK_end_12 {p : Program} {l : Launch} {e : Env} {s : State} {m : MethodId} {args : Array Value} {below : List Frame} {meth : Method} {c : Code} {D : va_G} {cy : Nat → ClassId} {A : Nat → Prop} {ad : Nat → Nat} {mi MC MS : Nat} {Φ : Int32 → Mm → Prop} {fu : Nat} (F : FxM p s m args meth c b_K_end 2 "CoinKeeper" "end" (some .int) D cy ad mi A) : Iw_mK_end_12 p l e s m args below meth c D cy A ad mi MC MS Φ (xv_mK_end_12 fu MC MS cy ad mi Φ) := by
  obtain ⟨⟨hx, hb, hr, hml, hown, hts, hlocks, hK, hA, hSt, hnm, hex⟩, hT, hMi⟩ := id F
  intro κ σ M hf hkc hks H locs ls hP hD hS hl
  unfold xv_mK_end_12 at hf
  exact hf.elim
set_option maxHeartbeats 8000000 in
set_option maxRecDepth 100000 in
theorem wew_mK_end {p : Program} {l : Launch} {e : Env} {s : State} {m : MethodId} {args : Array Value} {below : List Frame} {meth : Method} {c : Code} {D : va_G} {cy : Nat → ClassId} {A : Nat → Prop} {ad : Nat → Nat} {mi MC MS : Nat} {Φ : Int32 → Mm → Prop} {fu : Nat} (F : FxM p s m args meth c b_K_end 2 "CoinKeeper" "end" (some .int) D cy ad mi A) : Iw_mK_end_e p l e s m args below meth c D cy A ad mi MC MS Φ (xw_mK_end fu MC MS cy ad mi Φ) := by
  obtain ⟨⟨hx, hb, hr, hml, hown, hts, hlocks, hK, hA, hSt, hnm, hex⟩, hT, hMi⟩ := id F
  intro κ σ M a0 a1 hf hkc hks H locs ls hP hD hS hl
  unfold xw_mK_end at hf
  refine lv_iload_n hx hb d_K_end_0 rfl (lv_at hl 1 rfl) ?_
  refine lv_if_lt (tgt := 12) hx hb d_K_end_1 (by decide) (fun cx => ?_) (fun cx => ?_)
  · have hf := ifpP cx hf
    exact wv_mK_end_12 (fu := fu) F _ _ _  hf hkc hks _ _ _ hP hD hS (lv_sub hl [] rfl)
  · have hf := ifnP cx hf
    refine lv_iload_n hx hb d_K_end_4 rfl (lv_at hl 1 rfl) ?_
    refine lv_aload_n hx hb d_K_end_5 rfl (lv_at hl 0 rfl) ?_
    obtain ⟨fs_, hm_, v1, hv_, hf⟩ := hf
    obtain ⟨ix_, hi_⟩ := m_ix hm_
    refine va_get (D := D) (ci := 0) (v := .int v1) (C := "CoinKeeper") (T := F_0) (N := 13) hx hb hts i_0 hown hK hP ix_ hi_ rfl 1 (by decide) (hts _ gw_501) (fun _ h9 => h9) hv_ d_K_end_6 ?_
    clear hv_ hi_ hm_
    refine lv_icmp_le (tgt := 20) hx hb d_K_end_9 (by decide) (fun cx => ?_) (fun cx => ?_)
    · have hf := ifpP cx hf
      refine lv_aload_n hx hb d_K_end_20 rfl (lv_at hl 0 rfl) ?_
      refine lv_iload_n hx hb d_K_end_21 rfl (lv_at hl 1 rfl) ?_
      obtain ⟨fs_, hm_, hlen_, hf⟩ := hf
      obtain ⟨ix_, hi_⟩ := m_ix hm_
      have hE_ := m_set (y := .inr (0, fs_.set 1 (.int a1))) hD hi_
      refine va_put (D := D) (ci := 0) (v := .int a1) (ty := .int) (C := "CoinKeeper") (T := F_0) (N := 13) hx hb hts i_0 t_0 t_0_ok n_0 hown hK hP hD hS ix_ hi_ rfl 1 (by decide) (hts _ gw_501) (fun _ h9 => h9) rfl (by decide +kernel) rfl rfl hlen_ d_K_end_22 (fun H locs hP hD hS => ?_)
      obtain ⟨M2, eM_⟩ : ∃ z, z = mu M a0 (.inr (0, fs_.set 1 (.int a1))) := ⟨_, rfl⟩
      rw [← eM_] at hf hE_
      rw [hE_] at hP hD
      clear hE_ eM_ hi_ hm_
      refine lv_iload_n hx hb d_K_end_25 rfl (lv_at hl 1 rfl) ?_
      refine W.widen (k := MC) (n := MS) hkc hks ?_
      exact m_ri hf hx hb hr hlocks hK hP hD hS d_K_end_26
    · have hf := ifnP cx hf
      exact wv_mK_end_12 (fu := fu) F _ _ _  hf hkc hks _ _ _ hP hD hS (lv_sub hl [] rfl)
theorem cw_mK_end (l : Launch) (D : va_G) (cy : Nat → ClassId) (ad : Nat → Nat) (mi fu MC MS : Nat) (a0 : Nat) (a1 : Int32) (M : Mm) (Φ : Int32 → Mm → Prop) (hf : xw_mK_end fu MC MS cy ad mi Φ 0 0 M a0 a1) (sz : Nat) : Met l ({ cls := "CoinKeeper", name := "end", desc := "(I)I" } : Jvm.MethodName) (.code ({ cls := "CoinKeeper", name := "end", desc := "(I)I" } : Jvm.MethodName) b_K_end 2 (some .int) :: gw) (rmw_mK_end MC MS) (va_Pc [.ref a0, .int a1] (PrM D cy ad mi (mw M) sz)) (va_Qi Φ (fun u t => Po D cy (va_A (mw M) sz) (mw u) t) (va_A (mw M) sz)) MC MS (va_A (mw M) sz) :=
  q_metM (Qc := fun A => va_Qi Φ (fun u t => Po D cy A (mw u) t) A) (by decide) rfl rfl (Nat.le_of_ble_eq_true rfl) (fun p e s m below meth c ls F hP hD hS hl => wew_mK_end (fu := fu) F 0 0 M a0 a1 hf (Nat.zero_le _) (Nat.zero_le _) _ _ _ hP hD hS hl) sz
abbrev b_K_hash : ByteArray := prog_1_method_6_code
theorem d_K_hash_0 : decode b_K_hash 0 = .ok (.iload_n 1, 1) := by decide +kernel
theorem d_K_hash_1 : decode b_K_hash 1 = .ok (.ifCond .lt 9, 3) := by decide +kernel
theorem d_K_hash_4 : decode b_K_hash 4 = .ok (.iload_n 1, 1) := by decide +kernel
theorem d_K_hash_5 : decode b_K_hash 5 = .ok (.bipush 7, 2) := by decide +kernel
theorem d_K_hash_7 : decode b_K_hash 7 = .ok (.if_icmp .le 11, 3) := by decide +kernel
theorem d_K_hash_10 : decode b_K_hash 10 = .ok (.new 90, 3) := by decide +kernel
theorem d_K_hash_13 : decode b_K_hash 13 = .ok (.dup, 1) := by decide +kernel
theorem d_K_hash_14 : decode b_K_hash 14 = .ok (.invokespecial 92, 3) := by decide +kernel
theorem d_K_hash_17 : decode b_K_hash 17 = .ok (.athrow, 1) := by decide +kernel
theorem d_K_hash_18 : decode b_K_hash 18 = .ok (.aload_n 0, 1) := by decide +kernel
theorem d_K_hash_19 : decode b_K_hash 19 = .ok (.getfield 19, 3) := by decide +kernel
theorem d_K_hash_22 : decode b_K_hash 22 = .ok (.aload_n 0, 1) := by decide +kernel
theorem d_K_hash_23 : decode b_K_hash 23 = .ok (.getfield 9, 3) := by decide +kernel
theorem d_K_hash_26 : decode b_K_hash 26 = .ok (.iconst 0, 1) := by decide +kernel
theorem d_K_hash_27 : decode b_K_hash 27 = .ok (.aload_n 0, 1) := by decide +kernel
theorem d_K_hash_28 : decode b_K_hash 28 = .ok (.getfield 79, 3) := by decide +kernel
theorem d_K_hash_31 : decode b_K_hash 31 = .ok (.aload_n 0, 1) := by decide +kernel
theorem d_K_hash_32 : decode b_K_hash 32 = .ok (.getfield 13, 3) := by decide +kernel
theorem d_K_hash_35 : decode b_K_hash 35 = .ok (.iconst 0, 1) := by decide +kernel
theorem d_K_hash_36 : decode b_K_hash 36 = .ok (.invokevirtual 162, 3) := by decide +kernel
theorem d_K_hash_39 : decode b_K_hash 39 = .ok (.aload_n 0, 1) := by decide +kernel
theorem d_K_hash_40 : decode b_K_hash 40 = .ok (.getfield 13, 3) := by decide +kernel
theorem d_K_hash_43 : decode b_K_hash 43 = .ok (.iconst 4, 1) := by decide +kernel
theorem d_K_hash_44 : decode b_K_hash 44 = .ok (.iload_n 1, 1) := by decide +kernel
theorem d_K_hash_45 : decode b_K_hash 45 = .ok (.imul, 1) := by decide +kernel
theorem d_K_hash_46 : decode b_K_hash 46 = .ok (.invokestatic 166, 3) := by decide +kernel
theorem d_K_hash_49 : decode b_K_hash 49 = .ok (.ireturn, 1) := by decide +kernel
abbrev rmw_mK_hash (MC MS : Nat) : Room := { frames := 4, cells := MC, slots := MS, locals := 107 }
def Iw_mK_hash_10 (p : Program) (l : Launch) (e : Env) (s : State) (m : MethodId) (args : Array Value) (below : List Frame) (meth : Method) (c : Code) (D : va_G) (cy : Nat → ClassId) (A : Nat → Prop) (ad : Nat → Nat) (mi MC MS : Nat) (Φ : Int32 → Mm → Prop) (k : Nat → Nat → Mm → Prop) : Prop :=
  ∀ (κ σ : Nat) (M : Mm), k κ σ M → κ ≤ MC → σ ≤ MS → ∀ (H : Heap) (locs : List Loc) (ls : Array Slot), va_P D classes (mw M) H → va_D A (mw M) → va_S A s.heap H locs → lv_has ls 2 [] → W p l e (rmw_mK_hash MC MS) s m args below meth c H locs κ σ (MQ below (va_Qi Φ (fun u t => Po D cy A (mw u) t) A) args s MC MS A) (F0 m 10 ls [])
def Iw_mK_hash_e (p : Program) (l : Launch) (e : Env) (s : State) (m : MethodId) (args : Array Value) (below : List Frame) (meth : Method) (c : Code) (D : va_G) (cy : Nat → ClassId) (A : Nat → Prop) (ad : Nat → Nat) (mi MC MS : Nat) (Φ : Int32 → Mm → Prop) (k : Nat → Nat → Mm → Nat → Int32 → Prop) : Prop :=
  ∀ (κ σ : Nat) (M : Mm) (a0 : Nat) (a1 : Int32), k κ σ M a0 a1 → κ ≤ MC → σ ≤ MS → ∀ (H : Heap) (locs : List Loc) (ls : Array Slot), va_P D classes (mw M) H → va_D A (mw M) → va_S A s.heap H locs → lv_has ls 2 [(0, .ref a0), (1, .int a1)] → W p l e (rmw_mK_hash MC MS) s m args below meth c H locs κ σ (MQ below (va_Qi Φ (fun u t => Po D cy A (mw u) t) A) args s MC MS A) (F0 m 0 ls [])
set_option maxHeartbeats 8000000 in
set_option maxRecDepth 100000 in
theorem wv_mK_hash_10 {p : Program} {l : Launch} {e : Env} {s : State} {m : MethodId} {args : Array Value} {below : List Frame} {meth : Method} {c : Code} {D : va_G} {cy : Nat → ClassId} {A : Nat → Prop} {ad : Nat → Nat} {mi MC MS : Nat} {Φ : Int32 → Mm → Prop} {fu : Nat} (F : FxM p s m args meth c b_K_hash 2 "CoinKeeper" "hash" (some .int) D cy ad mi A) : Iw_mK_hash_10 p l e s m args below meth c D cy A ad mi MC MS Φ (xv_mK_hash_10 fu MC MS cy ad mi Φ) := by
  obtain ⟨⟨hx, hb, hr, hml, hown, hts, hlocks, hK, hA, hSt, hnm, hex⟩, hT, hMi⟩ := id F
  intro κ σ M hf hkc hks H locs ls hP hD hS hl
  unfold xv_mK_hash_10 at hf
  exact hf.elim
set_option maxHeartbeats 8000000 in
set_option maxRecDepth 100000 in
theorem wew_mK_hash {p : Program} {l : Launch} {e : Env} {s : State} {m : MethodId} {args : Array Value} {below : List Frame} {meth : Method} {c : Code} {D : va_G} {cy : Nat → ClassId} {A : Nat → Prop} {ad : Nat → Nat} {mi MC MS : Nat} {Φ : Int32 → Mm → Prop} {fu : Nat} (F : FxM p s m args meth c b_K_hash 2 "CoinKeeper" "hash" (some .int) D cy ad mi A) : Iw_mK_hash_e p l e s m args below meth c D cy A ad mi MC MS Φ (xw_mK_hash fu MC MS cy ad mi Φ) := by
  obtain ⟨⟨hx, hb, hr, hml, hown, hts, hlocks, hK, hA, hSt, hnm, hex⟩, hT, hMi⟩ := id F
  intro κ σ M a0 a1 hf hkc hks H locs ls hP hD hS hl
  unfold xw_mK_hash at hf
  refine lv_iload_n hx hb d_K_hash_0 rfl (lv_at hl 1 rfl) ?_
  refine lv_if_lt (tgt := 10) hx hb d_K_hash_1 (by decide) (fun cx => ?_) (fun cx => ?_)
  · have hf := ifpP cx hf
    exact wv_mK_hash_10 (fu := fu) F _ _ _  hf hkc hks _ _ _ hP hD hS (lv_sub hl [] rfl)
  · have hf := ifnP cx hf
    refine lv_iload_n hx hb d_K_hash_4 rfl (lv_at hl 1 rfl) ?_
    refine lv_bipush (v := 7) hx hb d_K_hash_5 (by decide) ?_
    refine lv_icmp_le (tgt := 18) hx hb d_K_hash_7 (by decide) (fun cx => ?_) (fun cx => ?_)
    · have hf := ifpP cx hf
      refine lv_aload_n hx hb d_K_hash_18 rfl (lv_at hl 0 rfl) ?_
      obtain ⟨fs_, hm_, r1, hv_, hf⟩ := hf
      obtain ⟨ix_, hi_⟩ := m_ix hm_
      refine va_get (D := D) (ci := 0) (v := va_rf r1) (C := "CoinKeeper") (T := F_0) (N := 13) hx hb hts i_0 hown hK hP ix_ hi_ rfl 3 (by decide) (hts _ gw_503) (fun _ h9 => h9) hv_ d_K_hash_19 ?_
      clear hv_ hi_ hm_
      obtain ⟨q2, rfl, hf⟩ := hf
      refine W.eq (g2 := F0 m 22 ls [.ref q2]) rfl ?_
      refine lv_aload_n hx hb d_K_hash_22 rfl (lv_at hl 0 rfl) ?_
      obtain ⟨fs_, hm_, r3, hv_, hf⟩ := hf
      obtain ⟨ix_, hi_⟩ := m_ix hm_
      refine va_get (D := D) (ci := 0) (v := va_rf r3) (C := "CoinKeeper") (T := F_0) (N := 13) hx hb hts i_0 hown hK hP ix_ hi_ rfl 0 (by decide) (hts _ gw_500) (fun _ h9 => h9) hv_ d_K_hash_23 ?_
      clear hv_ hi_ hm_
      obtain ⟨q4, rfl, hf⟩ := hf
      refine W.eq (g2 := F0 m 26 ls [.ref q4, .ref q2]) rfl ?_
      refine lv_iconst (v := 0) hx hb d_K_hash_26 (by decide) ?_
      refine lv_aload_n hx hb d_K_hash_27 rfl (lv_at hl 0 rfl) ?_
      obtain ⟨fs_, hm_, v5, hv_, hf⟩ := hf
      obtain ⟨ix_, hi_⟩ := m_ix hm_
      refine va_get (D := D) (ci := 0) (v := .int v5) (C := "CoinKeeper") (T := F_0) (N := 13) hx hb hts i_0 hown hK hP ix_ hi_ rfl 1 (by decide) (hts _ gw_501) (fun _ h9 => h9) hv_ d_K_hash_28 ?_
      clear hv_ hi_ hm_
      refine lv_aload_n hx hb d_K_hash_31 rfl (lv_at hl 0 rfl) ?_
      obtain ⟨fs_, hm_, r6, hv_, hf⟩ := hf
      obtain ⟨ix_, hi_⟩ := m_ix hm_
      refine va_get (D := D) (ci := 0) (v := va_rf r6) (C := "CoinKeeper") (T := F_0) (N := 13) hx hb hts i_0 hown hK hP ix_ hi_ rfl 2 (by decide) (hts _ gw_502) (fun _ h9 => h9) hv_ d_K_hash_32 ?_
      clear hv_ hi_ hm_
      obtain ⟨q7, rfl, hf⟩ := hf
      refine W.eq (g2 := F0 m 35 ls [.ref q7, .int v5, .int (0 : Int32), .ref q4, .ref q2]) rfl ?_
      refine lv_iconst (v := 0) hx hb d_K_hash_35 (by decide) ?_
      by_cases cx : q4 = q7
      · have hg_ := ifpP cx hf
        clear hf
        subst cx
        have hf := hg_
        clear hg_
        obtain ⟨b8, b9, b10, c11, c12, c13, c14, c15, c16, c17, hal_, hnd_, c18, c19, c20, c21, c22, c23, hc, hf⟩ := hf
        refine m_lv (va_runV (C := "CoinKeeper$Sha256") (As := [.ref q4, .int (0 : Int32), .int v5, .ref q4, .int (0 : Int32)]) (rest := []) ⟨hx, hb, hml, hown, hts⟩ (c_Sh_twice_e41 l D cy ad fu q2 b8 b9 b10 q4 c11 (0 : Int32) v5 (0 : Int32) c12 c13 c14 c15 c16 c17 _ hc H.size) ⟨q_cB hts gw_707 gw_2 gw_704 hdq_23 ⟨Nat.le_of_ble_eq_true rfl, Nat.le_of_ble_eq_true rfl⟩, hts _ gw_705, hts _ gw_706⟩ (q_preV (q_pre (m_subP hP hal_) (m_subD hD hal_ hnd_) hK hSt hS (m_lF hD hS hA hal_) _) (va_recv hK (m_subP hP hal_) (ci := 9) (q0 := 0) rfl rfl)) rfl rfl hl.1 rfl (lv_room (Nat.le_of_ble_eq_true rfl)) d_K_hash_36 ⟨hkc, hks⟩) hP hD hS hA hal_ rfl (fun H locs hP hD hS => ?_)
        refine W.widen (k := κ) (n := σ) (Nat.le_refl _) (Nat.le_refl _) ?_
        obtain ⟨M24, eM_, hf⟩ := bnP hf
        have hP : va_P D classes (mw M24) H := by rw [eM_]; exact hP
        have hD : va_D A (mw M24) := by rw [eM_]; exact hD
        clear eM_ hal_ hnd_ hc
        refine lv_aload_n hx hb d_K_hash_39 rfl (lv_at hl 0 rfl) ?_
        obtain ⟨fs_, hm_, r25, hv_, hf⟩ := hf
        obtain ⟨ix_, hi_⟩ := m_ix hm_
        refine va_get (D := D) (ci := 0) (v := va_rf r25) (C := "CoinKeeper") (T := F_0) (N := 13) hx hb hts i_0 hown hK hP ix_ hi_ rfl 2 (by decide) (hts _ gw_502) (fun _ h9 => h9) hv_ d_K_hash_40 ?_
        clear hv_ hi_ hm_
        obtain ⟨q26, rfl, hf⟩ := hf
        refine W.eq (g2 := F0 m 43 ls [.ref q26]) rfl ?_
        refine lv_iconst (v := 4) hx hb d_K_hash_43 (by decide) ?_
        refine lv_iload_n hx hb d_K_hash_44 rfl (lv_at hl 1 rfl) ?_
        refine lv_imul hx hb d_K_hash_45 ?_
        refine lv_topi (fun v27 ev => ?_)
        have hf := bnQ ev hf
        clear ev
        obtain ⟨c28, c29, hal_, hnd_, v30, hc, hf⟩ := hf
        refine m_li (va_runS (As := [.ref q26, .int v27]) (rest := []) ⟨hx, hb, hml, hown, hts⟩ (c_K_word l D cy ad fu q26 c28 c29 v27 _ hc H.size) ⟨q_cB hts gw_383 gw_1 gw_747 hdq_16 ⟨Nat.le_of_ble_eq_true rfl, Nat.le_of_ble_eq_true rfl⟩, hts _ gw_382⟩ (q_pre (m_subP hP hal_) (m_subD hD hal_ hnd_) hK hSt hS (m_lF hD hS hA hal_) _) rfl rfl hl.1 rfl (lv_room (Nat.le_of_ble_eq_true rfl)) d_K_hash_46 ⟨hkc, hks⟩) hP hD hS hA hal_ rfl (fun H locs hP hD hS => ?_)
        refine W.widen (k := κ) (n := σ) (Nat.le_refl _) (Nat.le_refl _) ?_
        obtain ⟨M31, eM_, hf⟩ := bnP hf
        have hP : va_P D classes (mw M31) H := by rw [eM_]; exact hP
        have hD : va_D A (mw M31) := by rw [eM_]; exact hD
        clear eM_ hal_ hnd_ hc
        refine W.widen (k := MC) (n := MS) hkc hks ?_
        exact m_ri hf hx hb hr hlocks hK hP hD hS d_K_hash_49
      · have hf := ifnP cx hf
        obtain ⟨b32, b33, b34, c35, c36, c37, c38, c39, c40, c41, c42, c43, hal_, hnd_, c44, c45, c46, c47, c48, c49, hc, hf⟩ := hf
        refine m_lv (va_runV (C := "CoinKeeper$Sha256") (As := [.ref q4, .int (0 : Int32), .int v5, .ref q7, .int (0 : Int32)]) (rest := []) ⟨hx, hb, hml, hown, hts⟩ (c_Sh_twice l D cy ad fu q2 b32 b33 b34 q4 q7 c35 c36 c37 (0 : Int32) v5 (0 : Int32) c38 c39 c40 c41 c42 c43 _ hc H.size) ⟨q_cB hts gw_707 gw_2 gw_704 hdq_23 ⟨Nat.le_of_ble_eq_true rfl, Nat.le_of_ble_eq_true rfl⟩, hts _ gw_705, hts _ gw_706⟩ (q_preV (q_pre (m_subP hP hal_) (m_subD hD hal_ hnd_) hK hSt hS (m_lF hD hS hA hal_) _) (va_recv hK (m_subP hP hal_) (ci := 9) (q0 := 0) rfl rfl)) rfl rfl hl.1 rfl (lv_room (Nat.le_of_ble_eq_true rfl)) d_K_hash_36 ⟨hkc, hks⟩) hP hD hS hA hal_ rfl (fun H locs hP hD hS => ?_)
        refine W.widen (k := κ) (n := σ) (Nat.le_refl _) (Nat.le_refl _) ?_
        obtain ⟨M50, eM_, hf⟩ := bnP hf
        have hP : va_P D classes (mw M50) H := by rw [eM_]; exact hP
        have hD : va_D A (mw M50) := by rw [eM_]; exact hD
        clear eM_ hal_ hnd_ hc
        refine lv_aload_n hx hb d_K_hash_39 rfl (lv_at hl 0 rfl) ?_
        obtain ⟨fs_, hm_, r51, hv_, hf⟩ := hf
        obtain ⟨ix_, hi_⟩ := m_ix hm_
        refine va_get (D := D) (ci := 0) (v := va_rf r51) (C := "CoinKeeper") (T := F_0) (N := 13) hx hb hts i_0 hown hK hP ix_ hi_ rfl 2 (by decide) (hts _ gw_502) (fun _ h9 => h9) hv_ d_K_hash_40 ?_
        clear hv_ hi_ hm_
        obtain ⟨q52, rfl, hf⟩ := hf
        refine W.eq (g2 := F0 m 43 ls [.ref q52]) rfl ?_
        refine lv_iconst (v := 4) hx hb d_K_hash_43 (by decide) ?_
        refine lv_iload_n hx hb d_K_hash_44 rfl (lv_at hl 1 rfl) ?_
        refine lv_imul hx hb d_K_hash_45 ?_
        refine lv_topi (fun v53 ev => ?_)
        have hf := bnQ ev hf
        clear ev
        obtain ⟨c54, c55, hal_, hnd_, v56, hc, hf⟩ := hf
        refine m_li (va_runS (As := [.ref q52, .int v53]) (rest := []) ⟨hx, hb, hml, hown, hts⟩ (c_K_word l D cy ad fu q52 c54 c55 v53 _ hc H.size) ⟨q_cB hts gw_383 gw_1 gw_747 hdq_16 ⟨Nat.le_of_ble_eq_true rfl, Nat.le_of_ble_eq_true rfl⟩, hts _ gw_382⟩ (q_pre (m_subP hP hal_) (m_subD hD hal_ hnd_) hK hSt hS (m_lF hD hS hA hal_) _) rfl rfl hl.1 rfl (lv_room (Nat.le_of_ble_eq_true rfl)) d_K_hash_46 ⟨hkc, hks⟩) hP hD hS hA hal_ rfl (fun H locs hP hD hS => ?_)
        refine W.widen (k := κ) (n := σ) (Nat.le_refl _) (Nat.le_refl _) ?_
        obtain ⟨M57, eM_, hf⟩ := bnP hf
        have hP : va_P D classes (mw M57) H := by rw [eM_]; exact hP
        have hD : va_D A (mw M57) := by rw [eM_]; exact hD
        clear eM_ hal_ hnd_ hc
        refine W.widen (k := MC) (n := MS) hkc hks ?_
        exact m_ri hf hx hb hr hlocks hK hP hD hS d_K_hash_49
    · have hf := ifnP cx hf
      exact wv_mK_hash_10 (fu := fu) F _ _ _  hf hkc hks _ _ _ hP hD hS (lv_sub hl [] rfl)
theorem cw_mK_hash (l : Launch) (D : va_G) (cy : Nat → ClassId) (ad : Nat → Nat) (mi fu MC MS : Nat) (a0 : Nat) (a1 : Int32) (M : Mm) (Φ : Int32 → Mm → Prop) (hf : xw_mK_hash fu MC MS cy ad mi Φ 0 0 M a0 a1) (sz : Nat) : Met l ({ cls := "CoinKeeper", name := "hash", desc := "(I)I" } : Jvm.MethodName) (.code ({ cls := "CoinKeeper", name := "hash", desc := "(I)I" } : Jvm.MethodName) b_K_hash 2 (some .int) :: gw) (rmw_mK_hash MC MS) (va_Pc [.ref a0, .int a1] (PrM D cy ad mi (mw M) sz)) (va_Qi Φ (fun u t => Po D cy (va_A (mw M) sz) (mw u) t) (va_A (mw M) sz)) MC MS (va_A (mw M) sz) :=
  q_metM (Qc := fun A => va_Qi Φ (fun u t => Po D cy A (mw u) t) A) (by decide) rfl rfl (Nat.le_of_ble_eq_true rfl) (fun p e s m below meth c ls F hP hD hS hl => wew_mK_hash (fu := fu) F 0 0 M a0 a1 hf (Nat.zero_le _) (Nat.zero_le _) _ _ _ hP hD hS hl) sz
abbrev b_K_unspent : ByteArray := prog_1_method_8_code
theorem d_K_unspent_0 : decode b_K_unspent 0 = .ok (.aload_n 0, 1) := by decide +kernel
theorem d_K_unspent_1 : decode b_K_unspent 1 = .ok (.getfield 79, 3) := by decide +kernel
theorem d_K_unspent_4 : decode b_K_unspent 4 = .ok (.bipush 32, 2) := by decide +kernel
theorem d_K_unspent_6 : decode b_K_unspent 6 = .ok (.if_icmp .eq 11, 3) := by decide +kernel
theorem d_K_unspent_9 : decode b_K_unspent 9 = .ok (.new 90, 3) := by decide +kernel
theorem d_K_unspent_12 : decode b_K_unspent 12 = .ok (.dup, 1) := by decide +kernel
theorem d_K_unspent_13 : decode b_K_unspent 13 = .ok (.invokespecial 92, 3) := by decide +kernel
theorem d_K_unspent_16 : decode b_K_unspent 16 = .ok (.athrow, 1) := by decide +kernel
theorem d_K_unspent_17 : decode b_K_unspent 17 = .ok (.aload_n 0, 1) := by decide +kernel
theorem d_K_unspent_18 : decode b_K_unspent 18 = .ok (.getfield 49, 3) := by decide +kernel
theorem d_K_unspent_21 : decode b_K_unspent 21 = .ok (.aload_n 0, 1) := by decide +kernel
theorem d_K_unspent_22 : decode b_K_unspent 22 = .ok (.getfield 9, 3) := by decide +kernel
theorem d_K_unspent_25 : decode b_K_unspent 25 = .ok (.iconst 0, 1) := by decide +kernel
theorem d_K_unspent_26 : decode b_K_unspent 26 = .ok (.iload_n 1, 1) := by decide +kernel
theorem d_K_unspent_27 : decode b_K_unspent 27 = .ok (.invokevirtual 180, 3) := by decide +kernel
theorem d_K_unspent_30 : decode b_K_unspent 30 = .ok (.astore_n 2, 1) := by decide +kernel
theorem d_K_unspent_31 : decode b_K_unspent 31 = .ok (.aload_n 2, 1) := by decide +kernel
theorem d_K_unspent_32 : decode b_K_unspent 32 = .ok (.ifnonnull 11, 3) := by decide +kernel
theorem d_K_unspent_35 : decode b_K_unspent 35 = .ok (.new 184, 3) := by decide +kernel
theorem d_K_unspent_38 : decode b_K_unspent 38 = .ok (.dup, 1) := by decide +kernel
theorem d_K_unspent_39 : decode b_K_unspent 39 = .ok (.invokespecial 186, 3) := by decide +kernel
theorem d_K_unspent_42 : decode b_K_unspent 42 = .ok (.athrow, 1) := by decide +kernel
theorem d_K_unspent_43 : decode b_K_unspent 43 = .ok (.aload_n 2, 1) := by decide +kernel
theorem d_K_unspent_44 : decode b_K_unspent 44 = .ok (.getfield 187, 3) := by decide +kernel
theorem d_K_unspent_47 : decode b_K_unspent 47 = .ok (.lreturn, 1) := by decide +kernel
abbrev rmw_mK_unspent (MC MS : Nat) : Room := { frames := 4, cells := MC, slots := MS, locals := 90 }
def Iw_mK_unspent_e (p : Program) (l : Launch) (e : Env) (s : State) (m : MethodId) (args : Array Value) (below : List Frame) (meth : Method) (c : Code) (D : va_G) (cy : Nat → ClassId) (A : Nat → Prop) (ad : Nat → Nat) (mi MC MS : Nat) (Φ : Int64 → Mm → Prop) (k : Nat → Nat → Mm → Nat → Int32 → Prop) : Prop :=
  ∀ (κ σ : Nat) (M : Mm) (a0 : Nat) (a1 : Int32), k κ σ M a0 a1 → κ ≤ MC → σ ≤ MS → ∀ (H : Heap) (locs : List Loc) (ls : Array Slot), va_P D classes (mw M) H → va_D A (mw M) → va_S A s.heap H locs → lv_has ls 3 [(0, .ref a0), (1, .int a1)] → W p l e (rmw_mK_unspent MC MS) s m args below meth c H locs κ σ (MQ below (va_Ql Φ (fun u t => Po D cy A (mw u) t) A) args s MC MS A) (F0 m 0 ls [])
set_option maxHeartbeats 8000000 in
set_option maxRecDepth 100000 in
theorem wew_mK_unspent {p : Program} {l : Launch} {e : Env} {s : State} {m : MethodId} {args : Array Value} {below : List Frame} {meth : Method} {c : Code} {D : va_G} {cy : Nat → ClassId} {A : Nat → Prop} {ad : Nat → Nat} {mi MC MS : Nat} {Φ : Int64 → Mm → Prop} {fu : Nat} (F : FxM p s m args meth c b_K_unspent 3 "CoinKeeper" "unspent" (some .long) D cy ad mi A) : Iw_mK_unspent_e p l e s m args below meth c D cy A ad mi MC MS Φ (xw_mK_unspent fu MC MS cy ad mi Φ) := by
  obtain ⟨⟨hx, hb, hr, hml, hown, hts, hlocks, hK, hA, hSt, hnm, hex⟩, hT, hMi⟩ := id F
  intro κ σ M a0 a1 hf hkc hks H locs ls hP hD hS hl
  unfold xw_mK_unspent at hf
  refine lv_aload_n hx hb d_K_unspent_0 rfl (lv_at hl 0 rfl) ?_
  obtain ⟨fs_, hm_, v1, hv_, hf⟩ := hf
  obtain ⟨ix_, hi_⟩ := m_ix hm_
  refine va_get (D := D) (ci := 0) (v := .int v1) (C := "CoinKeeper") (T := F_0) (N := 13) hx hb hts i_0 hown hK hP ix_ hi_ rfl 1 (by decide) (hts _ gw_501) (fun _ h9 => h9) hv_ d_K_unspent_1 ?_
  clear hv_ hi_ hm_
  refine lv_bipush (v := 32) hx hb d_K_unspent_4 (by decide) ?_
  refine lv_icmp_eq (tgt := 17) hx hb d_K_unspent_6 (by decide) (fun cx => ?_) (fun cx => ?_)
  · have hf := ifpP cx hf
    refine lv_aload_n hx hb d_K_unspent_17 rfl (lv_at hl 0 rfl) ?_
    obtain ⟨fs_, hm_, r2, hv_, hf⟩ := hf
    obtain ⟨ix_, hi_⟩ := m_ix hm_
    refine va_get (D := D) (ci := 0) (v := va_rf r2) (C := "CoinKeeper") (T := F_0) (N := 13) hx hb hts i_0 hown hK hP ix_ hi_ rfl 7 (by decide) (hts _ gw_507) (fun _ h9 => h9) hv_ d_K_unspent_18 ?_
    clear hv_ hi_ hm_
    obtain ⟨q3, rfl, hf⟩ := hf
    refine W.eq (g2 := F0 m 21 ls [.ref q3]) rfl ?_
    refine lv_aload_n hx hb d_K_unspent_21 rfl (lv_at hl 0 rfl) ?_
    obtain ⟨fs_, hm_, r4, hv_, hf⟩ := hf
    obtain ⟨ix_, hi_⟩ := m_ix hm_
    refine va_get (D := D) (ci := 0) (v := va_rf r4) (C := "CoinKeeper") (T := F_0) (N := 13) hx hb hts i_0 hown hK hP ix_ hi_ rfl 0 (by decide) (hts _ gw_500) (fun _ h9 => h9) hv_ d_K_unspent_22 ?_
    clear hv_ hi_ hm_
    obtain ⟨q5, rfl, hf⟩ := hf
    refine W.eq (g2 := F0 m 25 ls [.ref q5, .ref q3]) rfl ?_
    refine lv_iconst (v := 0) hx hb d_K_unspent_25 (by decide) ?_
    refine lv_iload_n hx hb d_K_unspent_26 rfl (lv_at hl 1 rfl) ?_
    obtain ⟨fs_, hm_, hf⟩ := hf
    obtain ⟨ix_, hi_⟩ := m_ix hm_
    obtain ⟨mc6, ms7, ⟨hc_, hd_⟩, hf⟩ := hf
    refine m_aq (va_runV (C := "CoinKeeper$Ledger") (As := [.ref q5, .int (0 : Int32), .int a1]) (rest := []) ⟨hx, hb, hml, hown, hts⟩ (cw_mLe_find l D cy ad mi fu mc6 ms7 q3 q5 (0 : Int32) a1 M _ hf H.size) ⟨q_cB hts gw_934 gw_9 gw_931 hdq_22 ⟨Nat.le_of_ble_eq_true rfl, Nat.le_of_ble_eq_true rfl⟩, hts _ gw_932, hts _ gw_933⟩ (q_preVM (q_preM hP hD hK hSt hT hMi hS (m_free hD hS hA) _) (va_recv hK hP (ci := 5) (q0 := ix_) rfl hi_)) rfl rfl hl.1 rfl (lv_room (Nat.le_of_ble_eq_true rfl)) d_K_unspent_27 ⟨hc_, hd_⟩) hD hS hA (fun v9 M8 H locs hf hP hD hS => ?_)
    have hkc : κ + mc6 ≤ MC := hc_
    have hks : σ + ms7 ≤ MS := hd_
    clear hc_ hd_
    have hq_ := ospp hf
    clear hf
    rcases hq_ with ⟨rfl, hf⟩ | ⟨q10, rfl, hf⟩
    · refine W.eq (g2 := F0 m 30 ls [.null]) rfl ?_
      refine lv_astore_nN (lv' := [(2, .null), (0, .ref a0), (1, .int a1)]) hx hb d_K_unspent_30 rfl hl (by decide) rfl (fun ls hl => ?_)
      refine lv_aload_nN hx hb d_K_unspent_31 rfl (lv_at hl 0 rfl) ?_
      refine lv_ifnonnullN hx hb d_K_unspent_32 ?_
      exact hf.elim
    · refine W.eq (g2 := F0 m 30 ls [.ref q10]) rfl ?_
      refine lv_astore_n (lv' := [(2, .ref q10), (0, .ref a0), (1, .int a1)]) hx hb d_K_unspent_30 rfl hl (by decide) rfl (fun ls hl => ?_)
      refine lv_aload_n hx hb d_K_unspent_31 rfl (lv_at hl 0 rfl) ?_
      refine lv_ifnonnull (tgt := 43) hx hb d_K_unspent_32 (by decide) ?_
      refine lv_aload_n hx hb d_K_unspent_43 rfl (lv_at hl 0 rfl) ?_
      obtain ⟨fs_, hm_, v11, hv_, hf⟩ := hf
      obtain ⟨ix_, hi_⟩ := m_ix hm_
      refine va_get (D := D) (ci := 2) (v := .long v11) (C := "CoinKeeper$Coin") (T := F_2) (N := 10) hx hb hts i_2 hown hK hP ix_ hi_ rfl 4 (by decide) (hts _ gw_861) (fun _ h9 => h9) hv_ d_K_unspent_44 ?_
      clear hv_ hi_ hm_
      refine W.widen (k := MC) (n := MS) hkc hks ?_
      exact m_rl hf hx hb hr hlocks hK hP hD hS d_K_unspent_47
  · have hf := ifnP cx hf
    exact hf.elim
theorem cw_mK_unspent (l : Launch) (D : va_G) (cy : Nat → ClassId) (ad : Nat → Nat) (mi fu MC MS : Nat) (a0 : Nat) (a1 : Int32) (M : Mm) (Φ : Int64 → Mm → Prop) (hf : xw_mK_unspent fu MC MS cy ad mi Φ 0 0 M a0 a1) (sz : Nat) : Met l ({ cls := "CoinKeeper", name := "unspent", desc := "(I)J" } : Jvm.MethodName) (.code ({ cls := "CoinKeeper", name := "unspent", desc := "(I)J" } : Jvm.MethodName) b_K_unspent 3 (some .long) :: gw) (rmw_mK_unspent MC MS) (va_Pc [.ref a0, .int a1] (PrM D cy ad mi (mw M) sz)) (va_Ql Φ (fun u t => Po D cy (va_A (mw M) sz) (mw u) t) (va_A (mw M) sz)) MC MS (va_A (mw M) sz) :=
  q_metM (Qc := fun A => va_Ql Φ (fun u t => Po D cy A (mw u) t) A) (by decide) rfl rfl (Nat.le_of_ble_eq_true rfl) (fun p e s m below meth c ls F hP hD hS hl => wew_mK_unspent (fu := fu) F 0 0 M a0 a1 hf (Nat.zero_le _) (Nat.zero_le _) _ _ _ hP hD hS hl) sz
abbrev b_K_signed : ByteArray := prog_1_method_11_code
theorem d_K_signed_0 : decode b_K_signed 0 = .ok (.iload_n 1, 1) := by decide +kernel
theorem d_K_signed_1 : decode b_K_signed 1 = .ok (.ifCond .lt 36, 3) := by decide +kernel
theorem d_K_signed_4 : decode b_K_signed 4 = .ok (.iload_n 1, 1) := by decide +kernel
theorem d_K_signed_5 : decode b_K_signed 5 = .ok (.bipush 100, 2) := by decide +kernel
theorem d_K_signed_7 : decode b_K_signed 7 = .ok (.if_icmp .gt 30, 3) := by decide +kernel
theorem d_K_signed_10 : decode b_K_signed 10 = .ok (.aload_n 0, 1) := by decide +kernel
theorem d_K_signed_11 : decode b_K_signed 11 = .ok (.getfield 79, 3) := by decide +kernel
theorem d_K_signed_14 : decode b_K_signed 14 = .ok (.bipush 32, 2) := by decide +kernel
theorem d_K_signed_16 : decode b_K_signed 16 = .ok (.iload_n 1, 1) := by decide +kernel
theorem d_K_signed_17 : decode b_K_signed 17 = .ok (.iadd, 1) := by decide +kernel
theorem d_K_signed_18 : decode b_K_signed 18 = .ok (.iconst 1, 1) := by decide +kernel
theorem d_K_signed_19 : decode b_K_signed 19 = .ok (.iadd, 1) := by decide +kernel
theorem d_K_signed_20 : decode b_K_signed 20 = .ok (.if_icmp .lt 17, 3) := by decide +kernel
theorem d_K_signed_23 : decode b_K_signed 23 = .ok (.aload_n 0, 1) := by decide +kernel
theorem d_K_signed_24 : decode b_K_signed 24 = .ok (.getfield 79, 3) := by decide +kernel
theorem d_K_signed_27 : decode b_K_signed 27 = .ok (.bipush 32, 2) := by decide +kernel
theorem d_K_signed_29 : decode b_K_signed 29 = .ok (.iload_n 1, 1) := by decide +kernel
theorem d_K_signed_30 : decode b_K_signed 30 = .ok (.iadd, 1) := by decide +kernel
theorem d_K_signed_31 : decode b_K_signed 31 = .ok (.bipush 80, 2) := by decide +kernel
theorem d_K_signed_33 : decode b_K_signed 33 = .ok (.iadd, 1) := by decide +kernel
theorem d_K_signed_34 : decode b_K_signed 34 = .ok (.if_icmp .le 11, 3) := by decide +kernel
theorem d_K_signed_37 : decode b_K_signed 37 = .ok (.new 90, 3) := by decide +kernel
theorem d_K_signed_40 : decode b_K_signed 40 = .ok (.dup, 1) := by decide +kernel
theorem d_K_signed_41 : decode b_K_signed 41 = .ok (.invokespecial 92, 3) := by decide +kernel
theorem d_K_signed_44 : decode b_K_signed 44 = .ok (.athrow, 1) := by decide +kernel
theorem d_K_signed_45 : decode b_K_signed 45 = .ok (.aload_n 0, 1) := by decide +kernel
theorem d_K_signed_46 : decode b_K_signed 46 = .ok (.getfield 26, 3) := by decide +kernel
theorem d_K_signed_49 : decode b_K_signed 49 = .ok (.aload_n 0, 1) := by decide +kernel
theorem d_K_signed_50 : decode b_K_signed 50 = .ok (.getfield 9, 3) := by decide +kernel
theorem d_K_signed_53 : decode b_K_signed 53 = .ok (.iconst 0, 1) := by decide +kernel
theorem d_K_signed_54 : decode b_K_signed 54 = .ok (.bipush 32, 2) := by decide +kernel
theorem d_K_signed_56 : decode b_K_signed 56 = .ok (.iload_n 1, 1) := by decide +kernel
theorem d_K_signed_57 : decode b_K_signed 57 = .ok (.bipush 32, 2) := by decide +kernel
theorem d_K_signed_59 : decode b_K_signed 59 = .ok (.iload_n 1, 1) := by decide +kernel
theorem d_K_signed_60 : decode b_K_signed 60 = .ok (.iadd, 1) := by decide +kernel
theorem d_K_signed_61 : decode b_K_signed 61 = .ok (.aload_n 0, 1) := by decide +kernel
theorem d_K_signed_62 : decode b_K_signed 62 = .ok (.getfield 79, 3) := by decide +kernel
theorem d_K_signed_65 : decode b_K_signed 65 = .ok (.bipush 32, 2) := by decide +kernel
theorem d_K_signed_67 : decode b_K_signed 67 = .ok (.isub, 1) := by decide +kernel
theorem d_K_signed_68 : decode b_K_signed 68 = .ok (.iload_n 1, 1) := by decide +kernel
theorem d_K_signed_69 : decode b_K_signed 69 = .ok (.isub, 1) := by decide +kernel
theorem d_K_signed_70 : decode b_K_signed 70 = .ok (.invokevirtual 201, 3) := by decide +kernel
theorem d_K_signed_73 : decode b_K_signed 73 = .ok (.ireturn, 1) := by decide +kernel
abbrev rmw_mK_signed (MC MS : Nat) : Room := { frames := 5, cells := MC, slots := MS, locals := 163 }
def Iw_mK_signed_37 (p : Program) (l : Launch) (e : Env) (s : State) (m : MethodId) (args : Array Value) (below : List Frame) (meth : Method) (c : Code) (D : va_G) (cy : Nat → ClassId) (A : Nat → Prop) (ad : Nat → Nat) (mi MC MS : Nat) (Φ : Int32 → Mm → Prop) (k : Nat → Nat → Mm → Prop) : Prop :=
  ∀ (κ σ : Nat) (M : Mm), k κ σ M → κ ≤ MC → σ ≤ MS → ∀ (H : Heap) (locs : List Loc) (ls : Array Slot), va_P D classes (mw M) H → va_D A (mw M) → va_S A s.heap H locs → lv_has ls 2 [] → W p l e (rmw_mK_signed MC MS) s m args below meth c H locs κ σ (MQ below (va_Qi Φ (fun u t => Po D cy A (mw u) t) A) args s MC MS A) (F0 m 37 ls [])
def Iw_mK_signed_e (p : Program) (l : Launch) (e : Env) (s : State) (m : MethodId) (args : Array Value) (below : List Frame) (meth : Method) (c : Code) (D : va_G) (cy : Nat → ClassId) (A : Nat → Prop) (ad : Nat → Nat) (mi MC MS : Nat) (Φ : Int32 → Mm → Prop) (k : Nat → Nat → Mm → Nat → Int32 → Prop) : Prop :=
  ∀ (κ σ : Nat) (M : Mm) (a0 : Nat) (a1 : Int32), k κ σ M a0 a1 → κ ≤ MC → σ ≤ MS → ∀ (H : Heap) (locs : List Loc) (ls : Array Slot), va_P D classes (mw M) H → va_D A (mw M) → va_S A s.heap H locs → lv_has ls 2 [(0, .ref a0), (1, .int a1)] → W p l e (rmw_mK_signed MC MS) s m args below meth c H locs κ σ (MQ below (va_Qi Φ (fun u t => Po D cy A (mw u) t) A) args s MC MS A) (F0 m 0 ls [])
set_option maxHeartbeats 8000000 in
set_option maxRecDepth 100000 in
theorem wv_mK_signed_37 {p : Program} {l : Launch} {e : Env} {s : State} {m : MethodId} {args : Array Value} {below : List Frame} {meth : Method} {c : Code} {D : va_G} {cy : Nat → ClassId} {A : Nat → Prop} {ad : Nat → Nat} {mi MC MS : Nat} {Φ : Int32 → Mm → Prop} {fu : Nat} (F : FxM p s m args meth c b_K_signed 2 "CoinKeeper" "signed" (some .boolean) D cy ad mi A) : Iw_mK_signed_37 p l e s m args below meth c D cy A ad mi MC MS Φ (xv_mK_signed_37 fu MC MS cy ad mi Φ) := by
  obtain ⟨⟨hx, hb, hr, hml, hown, hts, hlocks, hK, hA, hSt, hnm, hex⟩, hT, hMi⟩ := id F
  intro κ σ M hf hkc hks H locs ls hP hD hS hl
  unfold xv_mK_signed_37 at hf
  exact hf.elim
set_option maxHeartbeats 8000000 in
set_option maxRecDepth 100000 in
theorem wew_mK_signed {p : Program} {l : Launch} {e : Env} {s : State} {m : MethodId} {args : Array Value} {below : List Frame} {meth : Method} {c : Code} {D : va_G} {cy : Nat → ClassId} {A : Nat → Prop} {ad : Nat → Nat} {mi MC MS : Nat} {Φ : Int32 → Mm → Prop} {fu : Nat} (F : FxM p s m args meth c b_K_signed 2 "CoinKeeper" "signed" (some .boolean) D cy ad mi A) : Iw_mK_signed_e p l e s m args below meth c D cy A ad mi MC MS Φ (xw_mK_signed fu MC MS cy ad mi Φ) := by
  obtain ⟨⟨hx, hb, hr, hml, hown, hts, hlocks, hK, hA, hSt, hnm, hex⟩, hT, hMi⟩ := id F
  intro κ σ M a0 a1 hf hkc hks H locs ls hP hD hS hl
  unfold xw_mK_signed at hf
  refine lv_iload_n hx hb d_K_signed_0 rfl (lv_at hl 1 rfl) ?_
  refine lv_if_lt (tgt := 37) hx hb d_K_signed_1 (by decide) (fun cx => ?_) (fun cx => ?_)
  · have hf := ifpP cx hf
    exact wv_mK_signed_37 (fu := fu) F _ _ _  hf hkc hks _ _ _ hP hD hS (lv_sub hl [] rfl)
  · have hf := ifnP cx hf
    refine lv_iload_n hx hb d_K_signed_4 rfl (lv_at hl 1 rfl) ?_
    refine lv_bipush (v := 100) hx hb d_K_signed_5 (by decide) ?_
    refine lv_icmp_gt (tgt := 37) hx hb d_K_signed_7 (by decide) (fun cx => ?_) (fun cx => ?_)
    · have hf := ifpP cx hf
      exact wv_mK_signed_37 (fu := fu) F _ _ _  hf hkc hks _ _ _ hP hD hS (lv_sub hl [] rfl)
    · have hf := ifnP cx hf
      refine lv_aload_n hx hb d_K_signed_10 rfl (lv_at hl 0 rfl) ?_
      obtain ⟨fs_, hm_, v1, hv_, hf⟩ := hf
      obtain ⟨ix_, hi_⟩ := m_ix hm_
      refine va_get (D := D) (ci := 0) (v := .int v1) (C := "CoinKeeper") (T := F_0) (N := 13) hx hb hts i_0 hown hK hP ix_ hi_ rfl 1 (by decide) (hts _ gw_501) (fun _ h9 => h9) hv_ d_K_signed_11 ?_
      clear hv_ hi_ hm_
      refine lv_bipush (v := 32) hx hb d_K_signed_14 (by decide) ?_
      refine lv_iload_n hx hb d_K_signed_16 rfl (lv_at hl 1 rfl) ?_
      refine lv_iadd hx hb d_K_signed_17 ?_
      refine lv_topi (fun v2 ev => ?_)
      have hf := bnQ ev hf
      clear ev
      refine lv_iconst (v := 1) hx hb d_K_signed_18 (by decide) ?_
      refine lv_iadd hx hb d_K_signed_19 ?_
      refine lv_icmp_lt (tgt := 37) hx hb d_K_signed_20 (by decide) (fun cx => ?_) (fun cx => ?_)
      · have hf := ifpP cx hf
        exact wv_mK_signed_37 (fu := fu) F _ _ _  hf hkc hks _ _ _ hP hD hS (lv_sub hl [] rfl)
      · have hf := ifnP cx hf
        refine lv_aload_n hx hb d_K_signed_23 rfl (lv_at hl 0 rfl) ?_
        obtain ⟨fs_, hm_, v3, hv_, hf⟩ := hf
        obtain ⟨ix_, hi_⟩ := m_ix hm_
        refine va_get (D := D) (ci := 0) (v := .int v3) (C := "CoinKeeper") (T := F_0) (N := 13) hx hb hts i_0 hown hK hP ix_ hi_ rfl 1 (by decide) (hts _ gw_501) (fun _ h9 => h9) hv_ d_K_signed_24 ?_
        clear hv_ hi_ hm_
        refine lv_bipush (v := 32) hx hb d_K_signed_27 (by decide) ?_
        refine lv_iload_n hx hb d_K_signed_29 rfl (lv_at hl 1 rfl) ?_
        refine lv_iadd hx hb d_K_signed_30 ?_
        refine lv_topi (fun v4 ev => ?_)
        have hf := bnQ ev hf
        clear ev
        refine lv_bipush (v := 80) hx hb d_K_signed_31 (by decide) ?_
        refine lv_iadd hx hb d_K_signed_33 ?_
        refine lv_icmp_le (tgt := 45) hx hb d_K_signed_34 (by decide) (fun cx => ?_) (fun cx => ?_)
        · have hf := ifpP cx hf
          refine lv_aload_n hx hb d_K_signed_45 rfl (lv_at hl 0 rfl) ?_
          obtain ⟨fs_, hm_, r5, hv_, hf⟩ := hf
          obtain ⟨ix_, hi_⟩ := m_ix hm_
          refine va_get (D := D) (ci := 0) (v := va_rf r5) (C := "CoinKeeper") (T := F_0) (N := 13) hx hb hts i_0 hown hK hP ix_ hi_ rfl 4 (by decide) (hts _ gw_504) (fun _ h9 => h9) hv_ d_K_signed_46 ?_
          clear hv_ hi_ hm_
          obtain ⟨q6, rfl, hf⟩ := hf
          refine W.eq (g2 := F0 m 49 ls [.ref q6]) rfl ?_
          refine lv_aload_n hx hb d_K_signed_49 rfl (lv_at hl 0 rfl) ?_
          obtain ⟨fs_, hm_, r7, hv_, hf⟩ := hf
          obtain ⟨ix_, hi_⟩ := m_ix hm_
          refine va_get (D := D) (ci := 0) (v := va_rf r7) (C := "CoinKeeper") (T := F_0) (N := 13) hx hb hts i_0 hown hK hP ix_ hi_ rfl 0 (by decide) (hts _ gw_500) (fun _ h9 => h9) hv_ d_K_signed_50 ?_
          clear hv_ hi_ hm_
          obtain ⟨q8, rfl, hf⟩ := hf
          refine W.eq (g2 := F0 m 53 ls [.ref q8, .ref q6]) rfl ?_
          refine lv_iconst (v := 0) hx hb d_K_signed_53 (by decide) ?_
          refine lv_bipush (v := 32) hx hb d_K_signed_54 (by decide) ?_
          refine lv_iload_n hx hb d_K_signed_56 rfl (lv_at hl 1 rfl) ?_
          refine lv_bipush (v := 32) hx hb d_K_signed_57 (by decide) ?_
          refine lv_iload_n hx hb d_K_signed_59 rfl (lv_at hl 1 rfl) ?_
          refine lv_iadd hx hb d_K_signed_60 ?_
          refine lv_topi (fun v9 ev => ?_)
          have hf := bnQ ev hf
          clear ev
          refine lv_aload_n hx hb d_K_signed_61 rfl (lv_at hl 0 rfl) ?_
          obtain ⟨fs_, hm_, v10, hv_, hf⟩ := hf
          obtain ⟨ix_, hi_⟩ := m_ix hm_
          refine va_get (D := D) (ci := 0) (v := .int v10) (C := "CoinKeeper") (T := F_0) (N := 13) hx hb hts i_0 hown hK hP ix_ hi_ rfl 1 (by decide) (hts _ gw_501) (fun _ h9 => h9) hv_ d_K_signed_62 ?_
          clear hv_ hi_ hm_
          refine lv_bipush (v := 32) hx hb d_K_signed_65 (by decide) ?_
          refine lv_isub hx hb d_K_signed_67 ?_
          refine lv_topi (fun v11 ev => ?_)
          have hf := bnQ ev hf
          clear ev
          refine lv_iload_n hx hb d_K_signed_68 rfl (lv_at hl 1 rfl) ?_
          refine lv_isub hx hb d_K_signed_69 ?_
          refine lv_topi (fun v12 ev => ?_)
          have hf := bnQ ev hf
          clear ev
          obtain ⟨fs_, hm_, hf⟩ := hf
          obtain ⟨ix_, hi_⟩ := m_ix hm_
          obtain ⟨mc13, ms14, ⟨hc_, hd_⟩, hf⟩ := hf
          refine mm_ai (va_runV (C := "CoinKeeper$Signatures") (As := [.ref q8, .int (0 : Int32), .int (32 : Int32), .int a1, .int v9, .int v12]) (rest := []) ⟨hx, hb, hml, hown, hts⟩ (cw_mSi_verify l D cy ad mi fu mc13 ms14 q6 q8 (0 : Int32) (32 : Int32) a1 v9 v12 M _ hf H.size) ⟨q_cB hts gw_1037 gw_3 gw_1355 hds_85 ⟨Nat.le_of_ble_eq_true rfl, Nat.le_of_ble_eq_true rfl⟩, hts _ gw_1035, hts _ gw_1036⟩ (q_preVM (q_preM hP hD hK hSt hT hMi hS (m_free hD hS hA) _) (va_recv hK hP (ci := 10) (q0 := ix_) rfl hi_)) rfl rfl hl.1 rfl (lv_room (Nat.le_of_ble_eq_true rfl)) d_K_signed_70 ⟨hc_, hd_⟩) hD hS hA (fun v16 M15 H locs hf hP hD hS => ?_)
          have hkc : κ + mc13 ≤ MC := hc_
          have hks : σ + ms14 ≤ MS := hd_
          clear hc_ hd_
          obtain ⟨hg, hf⟩ := hf
          refine W.widen (k := MC) (n := MS) hkc hks ?_
          exact m_rz hf hx hb hr hlocks hK hP hD hS (isb_n hg) d_K_signed_73
        · have hf := ifnP cx hf
          exact wv_mK_signed_37 (fu := fu) F _ _ _  hf hkc hks _ _ _ hP hD hS (lv_sub hl [] rfl)
theorem cw_mK_signed (l : Launch) (D : va_G) (cy : Nat → ClassId) (ad : Nat → Nat) (mi fu MC MS : Nat) (a0 : Nat) (a1 : Int32) (M : Mm) (Φ : Int32 → Mm → Prop) (hf : xw_mK_signed fu MC MS cy ad mi Φ 0 0 M a0 a1) (sz : Nat) : Met l ({ cls := "CoinKeeper", name := "signed", desc := "(I)Z" } : Jvm.MethodName) (.code ({ cls := "CoinKeeper", name := "signed", desc := "(I)Z" } : Jvm.MethodName) b_K_signed 2 (some .boolean) :: gw) (rmw_mK_signed MC MS) (va_Pc [.ref a0, .int a1] (PrM D cy ad mi (mw M) sz)) (va_Qi Φ (fun u t => Po D cy (va_A (mw M) sz) (mw u) t) (va_A (mw M) sz)) MC MS (va_A (mw M) sz) :=
  q_metM (Qc := fun A => va_Qi Φ (fun u t => Po D cy A (mw u) t) A) (by decide) rfl rfl (Nat.le_of_ble_eq_true rfl) (fun p e s m below meth c ls F hP hD hS hl => wew_mK_signed (fu := fu) F 0 0 M a0 a1 hf (Nat.zero_le _) (Nat.zero_le _) _ _ _ hP hD hS hl) sz
