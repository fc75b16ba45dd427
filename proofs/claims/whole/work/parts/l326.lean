abbrev b_M_compareWork : ByteArray := prog_14_method_22_code
theorem d_M_compareWork_0 : decode b_M_compareWork 0 = .ok (.bipush 7, 2) := by decide +kernel
theorem d_M_compareWork_2 : decode b_M_compareWork 2 = .ok (.istore_n 3, 1) := by decide +kernel
theorem d_M_compareWork_3 : decode b_M_compareWork 3 = .ok (.iload_n 3, 1) := by decide +kernel
theorem d_M_compareWork_4 : decode b_M_compareWork 4 = .ok (.ifCond .lt 60, 3) := by decide +kernel
theorem d_M_compareWork_7 : decode b_M_compareWork 7 = .ok (.aload_n 0, 1) := by decide +kernel
theorem d_M_compareWork_8 : decode b_M_compareWork 8 = .ok (.getfield 42, 3) := by decide +kernel
theorem d_M_compareWork_11 : decode b_M_compareWork 11 = .ok (.bipush 8, 2) := by decide +kernel
theorem d_M_compareWork_13 : decode b_M_compareWork 13 = .ok (.iload_n 1, 1) := by decide +kernel
theorem d_M_compareWork_14 : decode b_M_compareWork 14 = .ok (.imul, 1) := by decide +kernel
theorem d_M_compareWork_15 : decode b_M_compareWork 15 = .ok (.iload_n 3, 1) := by decide +kernel
theorem d_M_compareWork_16 : decode b_M_compareWork 16 = .ok (.iadd, 1) := by decide +kernel
theorem d_M_compareWork_17 : decode b_M_compareWork 17 = .ok (.iaload, 1) := by decide +kernel
theorem d_M_compareWork_18 : decode b_M_compareWork 18 = .ok (.aload_n 0, 1) := by decide +kernel
theorem d_M_compareWork_19 : decode b_M_compareWork 19 = .ok (.getfield 42, 3) := by decide +kernel
theorem d_M_compareWork_22 : decode b_M_compareWork 22 = .ok (.bipush 8, 2) := by decide +kernel
theorem d_M_compareWork_24 : decode b_M_compareWork 24 = .ok (.iload_n 2, 1) := by decide +kernel
theorem d_M_compareWork_25 : decode b_M_compareWork 25 = .ok (.imul, 1) := by decide +kernel
theorem d_M_compareWork_26 : decode b_M_compareWork 26 = .ok (.iload_n 3, 1) := by decide +kernel
theorem d_M_compareWork_27 : decode b_M_compareWork 27 = .ok (.iadd, 1) := by decide +kernel
theorem d_M_compareWork_28 : decode b_M_compareWork 28 = .ok (.iaload, 1) := by decide +kernel
theorem d_M_compareWork_29 : decode b_M_compareWork 29 = .ok (.if_icmp .eq 29, 3) := by decide +kernel
theorem d_M_compareWork_32 : decode b_M_compareWork 32 = .ok (.aload_n 0, 1) := by decide +kernel
theorem d_M_compareWork_33 : decode b_M_compareWork 33 = .ok (.getfield 42, 3) := by decide +kernel
theorem d_M_compareWork_36 : decode b_M_compareWork 36 = .ok (.bipush 8, 2) := by decide +kernel
theorem d_M_compareWork_38 : decode b_M_compareWork 38 = .ok (.iload_n 1, 1) := by decide +kernel
theorem d_M_compareWork_39 : decode b_M_compareWork 39 = .ok (.imul, 1) := by decide +kernel
theorem d_M_compareWork_40 : decode b_M_compareWork 40 = .ok (.iload_n 3, 1) := by decide +kernel
theorem d_M_compareWork_41 : decode b_M_compareWork 41 = .ok (.iadd, 1) := by decide +kernel
theorem d_M_compareWork_42 : decode b_M_compareWork 42 = .ok (.iaload, 1) := by decide +kernel
theorem d_M_compareWork_43 : decode b_M_compareWork 43 = .ok (.aload_n 0, 1) := by decide +kernel
theorem d_M_compareWork_44 : decode b_M_compareWork 44 = .ok (.getfield 42, 3) := by decide +kernel
theorem d_M_compareWork_47 : decode b_M_compareWork 47 = .ok (.bipush 8, 2) := by decide +kernel
theorem d_M_compareWork_49 : decode b_M_compareWork 49 = .ok (.iload_n 2, 1) := by decide +kernel
theorem d_M_compareWork_50 : decode b_M_compareWork 50 = .ok (.imul, 1) := by decide +kernel
theorem d_M_compareWork_51 : decode b_M_compareWork 51 = .ok (.iload_n 3, 1) := by decide +kernel
theorem d_M_compareWork_52 : decode b_M_compareWork 52 = .ok (.iadd, 1) := by decide +kernel
theorem d_M_compareWork_53 : decode b_M_compareWork 53 = .ok (.iaload, 1) := by decide +kernel
theorem d_M_compareWork_54 : decode b_M_compareWork 54 = .ok (.invokestatic 327, 3) := by decide +kernel
theorem d_M_compareWork_57 : decode b_M_compareWork 57 = .ok (.ireturn, 1) := by decide +kernel
theorem d_M_compareWork_58 : decode b_M_compareWork 58 = .ok (.iinc 3 (-1), 3) := by decide +kernel
theorem d_M_compareWork_61 : decode b_M_compareWork 61 = .ok (.goto (-58), 3) := by decide +kernel
theorem d_M_compareWork_64 : decode b_M_compareWork 64 = .ok (.iconst 0, 1) := by decide +kernel
theorem d_M_compareWork_65 : decode b_M_compareWork 65 = .ok (.ireturn, 1) := by decide +kernel
abbrev rm_M_compareWork : Room := { frames := 2, cells := 0, slots := 0, locals := 42 }
abbrev q_M_compareWork (D : va_G) (cy : Nat → ClassId) (A : Nat → Prop) (o : Nat) (q : Nat → Nat) (z : Nat → Int32) (g_work : Nat → Int32) (res : Int32) : Array Value → State → Outcome → State → Prop := va_Qi (fun r' (_ : Unit) => r' = res) (fun _ t => Po D cy A [(o, .inr (12, mo q z)), ((q 10), .inl (cy 1, 1616, .inl g_work))] t) A
def I_M_compareWork_3 (p : Program) (l : Launch) (e : Env) (s : State) (m : MethodId) (args : Array Value) (below : List Frame) (meth : Method) (c : Code) (D : va_G) (cy : Nat → ClassId) (A : Nat → Prop) (ad : Nat → Nat) (o : Nat) (q : Nat → Nat) (z : Nat → Int32) (g_work : Nat → Int32) (k : Int32 → Int32 → Int32 → Option (Int32)) : Prop :=
  ∀ (x1 : Int32) (x2 : Int32) (x3 : Int32) (res : Int32), k x1 x2 x3 = some res → ∀ (H : Heap) (locs : List Loc) (ls : Array Slot), va_P D classes [(o, .inr (12, mo q z)), ((q 10), .inl (cy 1, 1616, .inl g_work))] H → va_D A [(o, .inr (12, mo q z)), ((q 10), .inl (cy 1, 1616, .inl g_work))] → va_S A s.heap H locs → lv_has ls 4 [(0, .ref o), (1, .int x1), (2, .int x2), (3, .int x3)] → W p l e rm_M_compareWork s m args below meth c H locs 0 0 (MQ below (q_M_compareWork D cy A o q z g_work res) args s 0 0 A) (F0 m 3 ls [])
def I_M_compareWork_e (p : Program) (l : Launch) (e : Env) (s : State) (m : MethodId) (args : Array Value) (below : List Frame) (meth : Method) (c : Code) (D : va_G) (cy : Nat → ClassId) (A : Nat → Prop) (ad : Nat → Nat) (o : Nat) (q : Nat → Nat) (z : Nat → Int32) (g_work : Nat → Int32) (k : Int32 → Int32 → Option (Int32)) : Prop :=
  ∀ (a1 : Int32) (a2 : Int32) (res : Int32), k a1 a2 = some res → ∀ (H : Heap) (locs : List Loc) (ls : Array Slot), va_P D classes [(o, .inr (12, mo q z)), ((q 10), .inl (cy 1, 1616, .inl g_work))] H → va_D A [(o, .inr (12, mo q z)), ((q 10), .inl (cy 1, 1616, .inl g_work))] → va_S A s.heap H locs → lv_has ls 4 [(0, .ref o), (1, .int a1), (2, .int a2)] → W p l e rm_M_compareWork s m args below meth c H locs 0 0 (MQ below (q_M_compareWork D cy A o q z g_work res) args s 0 0 A) (F0 m 0 ls [])
set_option maxHeartbeats 8000000 in
set_option maxRecDepth 100000 in
theorem wb_M_compareWork_3 {p : Program} {l : Launch} {e : Env} {s : State} {m : MethodId} {args : Array Value} {below : List Frame} {meth : Method} {c : Code} {D : va_G} {cy : Nat → ClassId} {A : Nat → Prop} {ad : Nat → Nat} {o : Nat} {q : Nat → Nat} {z : Nat → Int32} {g_work : Nat → Int32} {fu : Nat} {k_3 : Int32 → Int32 → Int32 → Option (Int32)} (F : Fx p s m args meth c b_M_compareWork 4 "CoinKeeperModel" "compareWork" (some .int) D cy ad A) (hk_3 : I_M_compareWork_3 p l e s m args below meth c D cy A ad o q z g_work k_3) : I_M_compareWork_3 p l e s m args below meth c D cy A ad o q z g_work (xb_M_compareWork_3 fu z g_work k_3) := by
  obtain ⟨hx, hb, hr, hml, hown, hts, hlocks, hK, hA, hSt, hnm, hex⟩ := id F
  intro x1 x2 x3 res hf H locs ls hP hD hS hl
  unfold xb_M_compareWork_3 at hf
  refine lv_iload_n hx hb d_M_compareWork_3 rfl (lv_at hl 3 rfl) ?_
  refine lv_if_lt (tgt := 64) hx hb d_M_compareWork_4 (by decide) (fun cx => ?_) (fun cx => ?_)
  · have hf := ifp cx hf
    refine lv_iconst (v := 0) hx hb d_M_compareWork_64 (by decide) ?_
    obtain rfl := Option.some.inj hf
    exact q_ri hx hb hr hlocks hK hP hD hS d_M_compareWork_65
  · have hf := ifn cx hf
    refine lv_aload_n hx hb d_M_compareWork_7 rfl (lv_at hl 0 rfl) ?_
    refine va_get (D := D) (ci := 12) (v := .ref (q 10)) (C := "CoinKeeperModel") (T := F_12) (N := 98) hx hb hts i_12 hown hK hP 0 rfl rfl 13 (by decide) (hts _ gw_1432) (fun _ h9 => h9) rfl d_M_compareWork_8 ?_
    refine lv_bipush (v := 8) hx hb d_M_compareWork_11 (by decide) ?_
    refine lv_iload_n hx hb d_M_compareWork_13 rfl (lv_at hl 1 rfl) ?_
    refine lv_imul hx hb d_M_compareWork_14 ?_
    refine lv_topi (fun v1 ev => ?_)
    have hf := bn ev hf
    clear ev
    refine lv_iload_n hx hb d_M_compareWork_15 rfl (lv_at hl 3 rfl) ?_
    refine lv_iadd hx hb d_M_compareWork_16 ?_
    refine lv_topi (fun v2 ev => ?_)
    have hf := bn ev hf
    clear ev
    obtain ⟨hg, hf⟩ := gdp hf
    refine va_iald hx hb hK hP 1 1 rfl rfl (inb_in hg) d_M_compareWork_17 ?_
    refine lv_topi (fun v3 ev => ?_)
    have hf := bn ev hf
    clear ev
    refine lv_aload_n hx hb d_M_compareWork_18 rfl (lv_at hl 0 rfl) ?_
    refine va_get (D := D) (ci := 12) (v := .ref (q 10)) (C := "CoinKeeperModel") (T := F_12) (N := 98) hx hb hts i_12 hown hK hP 0 rfl rfl 13 (by decide) (hts _ gw_1432) (fun _ h9 => h9) rfl d_M_compareWork_19 ?_
    refine lv_bipush (v := 8) hx hb d_M_compareWork_22 (by decide) ?_
    refine lv_iload_n hx hb d_M_compareWork_24 rfl (lv_at hl 2 rfl) ?_
    refine lv_imul hx hb d_M_compareWork_25 ?_
    refine lv_topi (fun v4 ev => ?_)
    have hf := bn ev hf
    clear ev
    refine lv_iload_n hx hb d_M_compareWork_26 rfl (lv_at hl 3 rfl) ?_
    refine lv_iadd hx hb d_M_compareWork_27 ?_
    refine lv_topi (fun v5 ev => ?_)
    have hf := bn ev hf
    clear ev
    obtain ⟨hg, hf⟩ := gdp hf
    refine va_iald hx hb hK hP 1 1 rfl rfl (inb_in hg) d_M_compareWork_28 ?_
    refine lv_topi (fun v6 ev => ?_)
    have hf := bn ev hf
    clear ev
    refine lv_icmp_eq (tgt := 58) hx hb d_M_compareWork_29 (by decide) (fun cx => ?_) (fun cx => ?_)
    · have hf := ifp cx hf
      obtain ⟨v7, ev, hf⟩ := bne hf
      refine lv_iinc (v := v7) (lv' := [(3, .int v7), (0, .ref o), (1, .int x1), (2, .int x2)]) hx hb d_M_compareWork_58 hl (k := 3) rfl (by rw [ev]; rfl) (by decide) rfl (fun ls hl => ?_)
      clear ev
      refine lv_goto (tgt := 3) hx hb d_M_compareWork_61 (by decide) ?_
      exact hk_3 _ _ _ _ hf _ _ _ hP hD hS (lv_sub hl [1, 2, 3, 0] rfl)
    · have hf := ifn cx hf
      refine lv_aload_n hx hb d_M_compareWork_32 rfl (lv_at hl 0 rfl) ?_
      refine va_get (D := D) (ci := 12) (v := .ref (q 10)) (C := "CoinKeeperModel") (T := F_12) (N := 98) hx hb hts i_12 hown hK hP 0 rfl rfl 13 (by decide) (hts _ gw_1432) (fun _ h9 => h9) rfl d_M_compareWork_33 ?_
      refine lv_bipush (v := 8) hx hb d_M_compareWork_36 (by decide) ?_
      refine lv_iload_n hx hb d_M_compareWork_38 rfl (lv_at hl 1 rfl) ?_
      refine lv_imul hx hb d_M_compareWork_39 ?_
      refine lv_topi (fun v8 ev => ?_)
      have hf := bn ev hf
      clear ev
      refine lv_iload_n hx hb d_M_compareWork_40 rfl (lv_at hl 3 rfl) ?_
      refine lv_iadd hx hb d_M_compareWork_41 ?_
      refine lv_topi (fun v9 ev => ?_)
      have hf := bn ev hf
      clear ev
      obtain ⟨hg, hf⟩ := gdp hf
      refine va_iald hx hb hK hP 1 1 rfl rfl (inb_in hg) d_M_compareWork_42 ?_
      refine lv_topi (fun v10 ev => ?_)
      have hf := bn ev hf
      clear ev
      refine lv_aload_n hx hb d_M_compareWork_43 rfl (lv_at hl 0 rfl) ?_
      refine va_get (D := D) (ci := 12) (v := .ref (q 10)) (C := "CoinKeeperModel") (T := F_12) (N := 98) hx hb hts i_12 hown hK hP 0 rfl rfl 13 (by decide) (hts _ gw_1432) (fun _ h9 => h9) rfl d_M_compareWork_44 ?_
      refine lv_bipush (v := 8) hx hb d_M_compareWork_47 (by decide) ?_
      refine lv_iload_n hx hb d_M_compareWork_49 rfl (lv_at hl 2 rfl) ?_
      refine lv_imul hx hb d_M_compareWork_50 ?_
      refine lv_topi (fun v11 ev => ?_)
      have hf := bn ev hf
      clear ev
      refine lv_iload_n hx hb d_M_compareWork_51 rfl (lv_at hl 3 rfl) ?_
      refine lv_iadd hx hb d_M_compareWork_52 ?_
      refine lv_topi (fun v12 ev => ?_)
      have hf := bn ev hf
      clear ev
      obtain ⟨hg, hf⟩ := gdp hf
      refine va_iald hx hb hK hP 1 1 rfl rfl (inb_in hg) d_M_compareWork_53 ?_
      refine lv_topi (fun v13 ev => ?_)
      have hf := bn ev hf
      clear ev
      obtain ⟨v14, hc, hf⟩ := bdp1 hf
      refine q_ai (wr := [(o, .inr (12, mo q z)), ((q 10), .inl (cy 1, 1616, .inl g_work))]) (va_runS (As := [.int v10, .int v13]) (rest := []) ⟨hx, hb, hml, hown, hts⟩ (c_Ig_compareUnsigned l D cy ad fu v10 v13 _ hc H.size) ⟨q_cB hts gw_1407 gw_19 gw_1405 hdm_15 ⟨by decide, by decide⟩, hts _ gw_1406⟩ (q_pre (hP.sub [] rfl) (hD.sub [] (by decide) rfl) hK hSt hS (va_free hD hS hA [] rfl) _) rfl rfl hl.1 rfl (lv_room (Nat.le_of_ble_eq_true rfl)) d_M_compareWork_54 ⟨Nat.le_of_ble_eq_true rfl, Nat.le_of_ble_eq_true rfl⟩) hP hD hS hA [] [0, 1] rfl rfl (by decide) (by decide) (fun H locs hP hD hS => ?_)
      clear hc
      have hP : va_P D classes [(o, .inr (12, mo q z)), ((q 10), .inl (cy 1, 1616, .inl g_work))] H := hP
      have hD : va_D A [(o, .inr (12, mo q z)), ((q 10), .inl (cy 1, 1616, .inl g_work))] := hD
      obtain rfl := Option.some.inj hf
      exact q_ri hx hb hr hlocks hK hP hD hS d_M_compareWork_57
theorem w_M_compareWork_3 {p : Program} {l : Launch} {e : Env} {s : State} {m : MethodId} {args : Array Value} {below : List Frame} {meth : Method} {c : Code} {D : va_G} {cy : Nat → ClassId} {A : Nat → Prop} {ad : Nat → Nat} {o : Nat} {q : Nat → Nat} {z : Nat → Int32} {g_work : Nat → Int32} {fu : Nat} (F : Fx p s m args meth c b_M_compareWork 4 "CoinKeeperModel" "compareWork" (some .int) D cy ad A) : ∀ n : Nat, I_M_compareWork_3 p l e s m args below meth c D cy A ad o q z g_work (x_M_compareWork_3 fu z g_work n)
  | 0 => fun _ _ _ _ hf => nomatch (show (none : Option (Int32)) = some _ from hf)
  | n + 1 => wb_M_compareWork_3 F (w_M_compareWork_3 F n)
set_option maxHeartbeats 8000000 in
set_option maxRecDepth 100000 in
theorem we_M_compareWork {p : Program} {l : Launch} {e : Env} {s : State} {m : MethodId} {args : Array Value} {below : List Frame} {meth : Method} {c : Code} {D : va_G} {cy : Nat → ClassId} {A : Nat → Prop} {ad : Nat → Nat} {o : Nat} {q : Nat → Nat} {z : Nat → Int32} {g_work : Nat → Int32} {fu : Nat} (F : Fx p s m args meth c b_M_compareWork 4 "CoinKeeperModel" "compareWork" (some .int) D cy ad A) : I_M_compareWork_e p l e s m args below meth c D cy A ad o q z g_work (x_M_compareWork fu z g_work) := by
  obtain ⟨hx, hb, hr, hml, hown, hts, hlocks, hK, hA, hSt, hnm, hex⟩ := id F
  intro a1 a2 res hf H locs ls hP hD hS hl
  unfold x_M_compareWork at hf
  refine lv_bipush (v := 7) hx hb d_M_compareWork_0 (by decide) ?_
  refine lv_istore_n (lv' := [(3, .int (7 : Int32)), (0, .ref o), (1, .int a1), (2, .int a2)]) hx hb d_M_compareWork_2 rfl hl (by decide) rfl (fun ls hl => ?_)
  exact w_M_compareWork_3 F fu _ _ _ _ hf _ _ _ hP hD hS (lv_sub hl [1, 2, 3, 0] rfl)
theorem c_M_compareWork (l : Launch) (D : va_G) (cy : Nat → ClassId) (ad : Nat → Nat) (fu : Nat) (o : Nat) (q : Nat → Nat) (z : Nat → Int32) (g_work : Nat → Int32) (a1 : Int32) (a2 : Int32) (res : Int32) (hf : x_M_compareWork fu z g_work a1 a2 = some res) (sz : Nat) : Met l ({ cls := "CoinKeeperModel", name := "compareWork", desc := "(II)I" } : Jvm.MethodName) (.code ({ cls := "CoinKeeperModel", name := "compareWork", desc := "(II)I" } : Jvm.MethodName) b_M_compareWork 4 (some .int) :: gw) rm_M_compareWork (va_Pc [.ref o, .int a1, .int a2] (Pr D cy ad [(o, .inr (12, mo q z)), ((q 10), .inl (cy 1, 1616, .inl g_work))] sz)) (q_M_compareWork D cy (va_A [(o, .inr (12, mo q z)), ((q 10), .inl (cy 1, 1616, .inl g_work))] sz) o q z g_work res) 0 0 (va_A [(o, .inr (12, mo q z)), ((q 10), .inl (cy 1, 1616, .inl g_work))] sz) :=
  q_met (Qc := fun A => q_M_compareWork D cy A o q z g_work res) (by decide) rfl rfl (Nat.le_of_ble_eq_true rfl) (fun p e s m below meth c ls F hP hD hS hl => we_M_compareWork (fu := fu) F a1 a2 res hf _ _ _ hP hD hS hl) sz
abbrev b_M_clear : ByteArray := prog_14_method_73_code
theorem d_M_clear_0 : decode b_M_clear 0 = .ok (.iconst 0, 1) := by decide +kernel
theorem d_M_clear_1 : decode b_M_clear 1 = .ok (.istore_n 1, 1) := by decide +kernel
theorem d_M_clear_2 : decode b_M_clear 2 = .ok (.iload_n 1, 1) := by decide +kernel
theorem d_M_clear_3 : decode b_M_clear 3 = .ok (.ldc 110, 2) := by decide +kernel
theorem d_M_clear_5 : decode b_M_clear 5 = .ok (.if_icmp .ge 16, 3) := by decide +kernel
theorem d_M_clear_8 : decode b_M_clear 8 = .ok (.aload_n 0, 1) := by decide +kernel
theorem d_M_clear_9 : decode b_M_clear 9 = .ok (.getfield 111, 3) := by decide +kernel
theorem d_M_clear_12 : decode b_M_clear 12 = .ok (.iload_n 1, 1) := by decide +kernel
theorem d_M_clear_13 : decode b_M_clear 13 = .ok (.iconst (-1), 1) := by decide +kernel
theorem d_M_clear_14 : decode b_M_clear 14 = .ok (.iastore, 1) := by decide +kernel
theorem d_M_clear_15 : decode b_M_clear 15 = .ok (.iinc 1 1, 3) := by decide +kernel
theorem d_M_clear_18 : decode b_M_clear 18 = .ok (.goto (-16), 3) := by decide +kernel
theorem d_M_clear_21 : decode b_M_clear 21 = .ok (.iconst 0, 1) := by decide +kernel
theorem d_M_clear_22 : decode b_M_clear 22 = .ok (.istore_n 1, 1) := by decide +kernel
theorem d_M_clear_23 : decode b_M_clear 23 = .ok (.iload_n 1, 1) := by decide +kernel
theorem d_M_clear_24 : decode b_M_clear 24 = .ok (.aload_n 0, 1) := by decide +kernel
theorem d_M_clear_25 : decode b_M_clear 25 = .ok (.getfield 567, 3) := by decide +kernel
theorem d_M_clear_28 : decode b_M_clear 28 = .ok (.if_icmp .ge 16, 3) := by decide +kernel
theorem d_M_clear_31 : decode b_M_clear 31 = .ok (.aload_n 0, 1) := by decide +kernel
theorem d_M_clear_32 : decode b_M_clear 32 = .ok (.getfield 114, 3) := by decide +kernel
theorem d_M_clear_35 : decode b_M_clear 35 = .ok (.iload_n 1, 1) := by decide +kernel
theorem d_M_clear_36 : decode b_M_clear 36 = .ok (.iconst 0, 1) := by decide +kernel
theorem d_M_clear_37 : decode b_M_clear 37 = .ok (.bastore, 1) := by decide +kernel
theorem d_M_clear_38 : decode b_M_clear 38 = .ok (.iinc 1 1, 3) := by decide +kernel
theorem d_M_clear_41 : decode b_M_clear 41 = .ok (.goto (-18), 3) := by decide +kernel
theorem d_M_clear_44 : decode b_M_clear 44 = .ok (.return_, 1) := by decide +kernel
abbrev rm_M_clear : Room := { frames := 0, cells := 0, slots := 0, locals := 0 }
abbrev q_M_clear (D : va_G) (cy : Nat → ClassId) (A : Nat → Prop) (o : Nat) (q : Nat → Nat) (z : Nat → Int32) (res : (Nat → Int32) × (Nat → Int32)) : Array Value → State → Outcome → State → Prop := va_Qv (fun (_ : Unit) => True) (fun _ t => Po D cy A [(o, .inr (12, mo q z)), ((q 32), .inl (cy 1, 32768, .inl res.1)), ((q 33), .inl (cy 3, 11600, .inl res.2))] t) A
def I_M_clear_23 (p : Program) (l : Launch) (e : Env) (s : State) (m : MethodId) (args : Array Value) (below : List Frame) (meth : Method) (c : Code) (D : va_G) (cy : Nat → ClassId) (A : Nat → Prop) (ad : Nat → Nat) (o : Nat) (q : Nat → Nat) (z : Nat → Int32) (k : Int32 → (Nat → Int32) → (Nat → Int32) → Option ((Nat → Int32) × (Nat → Int32))) : Prop :=
  ∀ (x1 : Int32) (u0 : Nat → Int32) (u1 : Nat → Int32) (res : (Nat → Int32) × (Nat → Int32)), k x1 u0 u1 = some res → ∀ (H : Heap) (locs : List Loc) (ls : Array Slot), va_P D classes [(o, .inr (12, mo q z)), ((q 32), .inl (cy 1, 32768, .inl u0)), ((q 33), .inl (cy 3, 11600, .inl u1))] H → va_D A [(o, .inr (12, mo q z)), ((q 32), .inl (cy 1, 32768, .inl u0)), ((q 33), .inl (cy 3, 11600, .inl u1))] → va_S A s.heap H locs → lv_has ls 2 [(0, .ref o), (1, .int x1)] → W p l e rm_M_clear s m args below meth c H locs 0 0 (MQ below (q_M_clear D cy A o q z res) args s 0 0 A) (F0 m 23 ls [])
def I_M_clear_2 (p : Program) (l : Launch) (e : Env) (s : State) (m : MethodId) (args : Array Value) (below : List Frame) (meth : Method) (c : Code) (D : va_G) (cy : Nat → ClassId) (A : Nat → Prop) (ad : Nat → Nat) (o : Nat) (q : Nat → Nat) (z : Nat → Int32) (k : Int32 → (Nat → Int32) → (Nat → Int32) → Option ((Nat → Int32) × (Nat → Int32))) : Prop :=
  ∀ (x1 : Int32) (u0 : Nat → Int32) (u1 : Nat → Int32) (res : (Nat → Int32) × (Nat → Int32)), k x1 u0 u1 = some res → ∀ (H : Heap) (locs : List Loc) (ls : Array Slot), va_P D classes [(o, .inr (12, mo q z)), ((q 32), .inl (cy 1, 32768, .inl u0)), ((q 33), .inl (cy 3, 11600, .inl u1))] H → va_D A [(o, .inr (12, mo q z)), ((q 32), .inl (cy 1, 32768, .inl u0)), ((q 33), .inl (cy 3, 11600, .inl u1))] → va_S A s.heap H locs → lv_has ls 2 [(0, .ref o), (1, .int x1)] → W p l e rm_M_clear s m args below meth c H locs 0 0 (MQ below (q_M_clear D cy A o q z res) args s 0 0 A) (F0 m 2 ls [])
def I_M_clear_e (p : Program) (l : Launch) (e : Env) (s : State) (m : MethodId) (args : Array Value) (below : List Frame) (meth : Method) (c : Code) (D : va_G) (cy : Nat → ClassId) (A : Nat → Prop) (ad : Nat → Nat) (o : Nat) (q : Nat → Nat) (z : Nat → Int32) (k : (Nat → Int32) → (Nat → Int32) → Option ((Nat → Int32) × (Nat → Int32))) : Prop :=
  ∀ (u0 : Nat → Int32) (u1 : Nat → Int32) (res : (Nat → Int32) × (Nat → Int32)), k u0 u1 = some res → ∀ (H : Heap) (locs : List Loc) (ls : Array Slot), va_P D classes [(o, .inr (12, mo q z)), ((q 32), .inl (cy 1, 32768, .inl u0)), ((q 33), .inl (cy 3, 11600, .inl u1))] H → va_D A [(o, .inr (12, mo q z)), ((q 32), .inl (cy 1, 32768, .inl u0)), ((q 33), .inl (cy 3, 11600, .inl u1))] → va_S A s.heap H locs → lv_has ls 2 [(0, .ref o)] → W p l e rm_M_clear s m args below meth c H locs 0 0 (MQ below (q_M_clear D cy A o q z res) args s 0 0 A) (F0 m 0 ls [])
set_option maxHeartbeats 8000000 in
set_option maxRecDepth 100000 in
theorem wb_M_clear_23 {p : Program} {l : Launch} {e : Env} {s : State} {m : MethodId} {args : Array Value} {below : List Frame} {meth : Method} {c : Code} {D : va_G} {cy : Nat → ClassId} {A : Nat → Prop} {ad : Nat → Nat} {o : Nat} {q : Nat → Nat} {z : Nat → Int32} {fu : Nat} {k_23 : Int32 → (Nat → Int32) → (Nat → Int32) → Option ((Nat → Int32) × (Nat → Int32))} (F : Fx p s m args meth c b_M_clear 2 "CoinKeeperModel" "clear" none D cy ad A) (hk_23 : I_M_clear_23 p l e s m args below meth c D cy A ad o q z k_23) : I_M_clear_23 p l e s m args below meth c D cy A ad o q z (xb_M_clear_23 fu z k_23) := by
  obtain ⟨hx, hb, hr, hml, hown, hts, hlocks, hK, hA, hSt, hnm, hex⟩ := id F
  intro x1 u0 u1 res hf H locs ls hP hD hS hl
  unfold xb_M_clear_23 at hf
  refine lv_iload_n hx hb d_M_clear_23 rfl (lv_at hl 1 rfl) ?_
  refine lv_aload_n hx hb d_M_clear_24 rfl (lv_at hl 0 rfl) ?_
  refine va_get (D := D) (ci := 12) (v := .int (z 7)) (C := "CoinKeeperModel") (T := F_12) (N := 98) hx hb hts i_12 hown hK hP 0 rfl rfl 36 (by decide) (hts _ gw_1455) (fun _ h9 => h9) rfl d_M_clear_25 ?_
  refine lv_icmp_ge (tgt := 44) hx hb d_M_clear_28 (by decide) (fun cx => ?_) (fun cx => ?_)
  · have hf := ifp cx hf
    obtain rfl := Option.some.inj hf
    exact q_rv hx hb hr hlocks hK hP hD hS d_M_clear_44
  · have hf := ifn cx hf
    refine lv_aload_n hx hb d_M_clear_31 rfl (lv_at hl 0 rfl) ?_
    refine va_get (D := D) (ci := 12) (v := .ref (q 33)) (C := "CoinKeeperModel") (T := F_12) (N := 98) hx hb hts i_12 hown hK hP 0 rfl rfl 41 (by decide) (hts _ gw_1460) (fun _ h9 => h9) rfl d_M_clear_32 ?_
    refine lv_iload_n hx hb d_M_clear_35 rfl (lv_at hl 1 rfl) ?_
    refine lv_iconst (v := 0) hx hb d_M_clear_36 (by decide) ?_
    obtain ⟨hg, hf⟩ := gdp hf
    refine va_zast hx hb hK hP hD hS 2 3 rfl rfl (inb_in hg) d_M_clear_37 (fun H locs hP hD hS => ?_)
    obtain ⟨f1, ev, hf⟩ := bne hf
    have hP : va_P D classes [(o, .inr (12, mo q z)), ((q 32), .inl (cy 1, 32768, .inl u0)), ((q 33), .inl (cy 3, 11600, .inl f1))] H := by rw [ev]; exact hP
    have hD : va_D A [(o, .inr (12, mo q z)), ((q 32), .inl (cy 1, 32768, .inl u0)), ((q 33), .inl (cy 3, 11600, .inl f1))] := by rw [ev]; exact hD
    clear ev
    obtain ⟨v2, ev, hf⟩ := bne hf
    refine lv_iinc (v := v2) (lv' := [(1, .int v2), (0, .ref o)]) hx hb d_M_clear_38 hl (k := 1) rfl (by rw [ev]; rfl) (by decide) rfl (fun ls hl => ?_)
    clear ev
    refine lv_goto (tgt := 23) hx hb d_M_clear_41 (by decide) ?_
    exact hk_23 _ _ _ _ hf _ _ _ hP hD hS (lv_sub hl [1, 0] rfl)
theorem w_M_clear_23 {p : Program} {l : Launch} {e : Env} {s : State} {m : MethodId} {args : Array Value} {below : List Frame} {meth : Method} {c : Code} {D : va_G} {cy : Nat → ClassId} {A : Nat → Prop} {ad : Nat → Nat} {o : Nat} {q : Nat → Nat} {z : Nat → Int32} {fu : Nat} (F : Fx p s m args meth c b_M_clear 2 "CoinKeeperModel" "clear" none D cy ad A) : ∀ n : Nat, I_M_clear_23 p l e s m args below meth c D cy A ad o q z (x_M_clear_23 fu z n)
  | 0 => fun _ _ _ _ hf => nomatch (show (none : Option ((Nat → Int32) × (Nat → Int32))) = some _ from hf)
  | n + 1 => wb_M_clear_23 F (w_M_clear_23 F n)
set_option maxHeartbeats 8000000 in
set_option maxRecDepth 100000 in
theorem wb_M_clear_2 {p : Program} {l : Launch} {e : Env} {s : State} {m : MethodId} {args : Array Value} {below : List Frame} {meth : Method} {c : Code} {D : va_G} {cy : Nat → ClassId} {A : Nat → Prop} {ad : Nat → Nat} {o : Nat} {q : Nat → Nat} {z : Nat → Int32} {fu : Nat} {k_2 : Int32 → (Nat → Int32) → (Nat → Int32) → Option ((Nat → Int32) × (Nat → Int32))} (F : Fx p s m args meth c b_M_clear 2 "CoinKeeperModel" "clear" none D cy ad A) (hk_2 : I_M_clear_2 p l e s m args below meth c D cy A ad o q z k_2) : I_M_clear_2 p l e s m args below meth c D cy A ad o q z (xb_M_clear_2 fu z k_2) := by
  obtain ⟨hx, hb, hr, hml, hown, hts, hlocks, hK, hA, hSt, hnm, hex⟩ := id F
  intro x1 u0 u1 res hf H locs ls hP hD hS hl
  unfold xb_M_clear_2 at hf
  refine lv_iload_n hx hb d_M_clear_2 rfl (lv_at hl 1 rfl) ?_
  refine lv_ldc (v := 32768) hx hb hown (hts _ gw_1363) d_M_clear_3 ?_
  refine lv_icmp_ge (tgt := 21) hx hb d_M_clear_5 (by decide) (fun cx => ?_) (fun cx => ?_)
  · have hf := ifp cx hf
    refine lv_iconst (v := 0) hx hb d_M_clear_21 (by decide) ?_
    refine lv_istore_n (lv' := [(1, .int (0 : Int32)), (0, .ref o)]) hx hb d_M_clear_22 rfl hl (by decide) rfl (fun ls hl => ?_)
    exact w_M_clear_23 F fu _ _ _ _ hf _ _ _ hP hD hS (lv_sub hl [1, 0] rfl)
  · have hf := ifn cx hf
    refine lv_aload_n hx hb d_M_clear_8 rfl (lv_at hl 0 rfl) ?_
    refine va_get (D := D) (ci := 12) (v := .ref (q 32)) (C := "CoinKeeperModel") (T := F_12) (N := 98) hx hb hts i_12 hown hK hP 0 rfl rfl 40 (by decide) (hts _ gw_1459) (fun _ h9 => h9) rfl d_M_clear_9 ?_
    refine lv_iload_n hx hb d_M_clear_12 rfl (lv_at hl 1 rfl) ?_
    refine lv_iconst (v := (-1)) hx hb d_M_clear_13 (by decide) ?_
    obtain ⟨hg, hf⟩ := gdp hf
    refine va_iast hx hb hK hP hD hS 1 1 rfl rfl (inb_in hg) d_M_clear_14 (fun H locs hP hD hS => ?_)
    obtain ⟨f1, ev, hf⟩ := bne hf
    have hP : va_P D classes [(o, .inr (12, mo q z)), ((q 32), .inl (cy 1, 32768, .inl f1)), ((q 33), .inl (cy 3, 11600, .inl u1))] H := by rw [ev]; exact hP
    have hD : va_D A [(o, .inr (12, mo q z)), ((q 32), .inl (cy 1, 32768, .inl f1)), ((q 33), .inl (cy 3, 11600, .inl u1))] := by rw [ev]; exact hD
    clear ev
    obtain ⟨v2, ev, hf⟩ := bne hf
    refine lv_iinc (v := v2) (lv' := [(1, .int v2), (0, .ref o)]) hx hb d_M_clear_15 hl (k := 1) rfl (by rw [ev]; rfl) (by decide) rfl (fun ls hl => ?_)
    clear ev
    refine lv_goto (tgt := 2) hx hb d_M_clear_18 (by decide) ?_
    exact hk_2 _ _ _ _ hf _ _ _ hP hD hS (lv_sub hl [1, 0] rfl)
theorem w_M_clear_2 {p : Program} {l : Launch} {e : Env} {s : State} {m : MethodId} {args : Array Value} {below : List Frame} {meth : Method} {c : Code} {D : va_G} {cy : Nat → ClassId} {A : Nat → Prop} {ad : Nat → Nat} {o : Nat} {q : Nat → Nat} {z : Nat → Int32} {fu : Nat} (F : Fx p s m args meth c b_M_clear 2 "CoinKeeperModel" "clear" none D cy ad A) : ∀ n : Nat, I_M_clear_2 p l e s m args below meth c D cy A ad o q z (x_M_clear_2 fu z n)
  | 0 => fun _ _ _ _ hf => nomatch (show (none : Option ((Nat → Int32) × (Nat → Int32))) = some _ from hf)
  | n + 1 => wb_M_clear_2 F (w_M_clear_2 F n)
set_option maxHeartbeats 8000000 in
set_option maxRecDepth 100000 in
theorem we_M_clear {p : Program} {l : Launch} {e : Env} {s : State} {m : MethodId} {args : Array Value} {below : List Frame} {meth : Method} {c : Code} {D : va_G} {cy : Nat → ClassId} {A : Nat → Prop} {ad : Nat → Nat} {o : Nat} {q : Nat → Nat} {z : Nat → Int32} {fu : Nat} (F : Fx p s m args meth c b_M_clear 2 "CoinKeeperModel" "clear" none D cy ad A) : I_M_clear_e p l e s m args below meth c D cy A ad o q z (x_M_clear fu z) := by
  obtain ⟨hx, hb, hr, hml, hown, hts, hlocks, hK, hA, hSt, hnm, hex⟩ := id F
  intro u0 u1 res hf H locs ls hP hD hS hl
  unfold x_M_clear at hf
  refine lv_iconst (v := 0) hx hb d_M_clear_0 (by decide) ?_
  refine lv_istore_n (lv' := [(1, .int (0 : Int32)), (0, .ref o)]) hx hb d_M_clear_1 rfl hl (by decide) rfl (fun ls hl => ?_)
  exact w_M_clear_2 F fu _ _ _ _ hf _ _ _ hP hD hS (lv_sub hl [1, 0] rfl)
theorem c_M_clear (l : Launch) (D : va_G) (cy : Nat → ClassId) (ad : Nat → Nat) (fu : Nat) (o : Nat) (q : Nat → Nat) (z : Nat → Int32) (u0 : Nat → Int32) (u1 : Nat → Int32) (res : (Nat → Int32) × (Nat → Int32)) (hf : x_M_clear fu z u0 u1 = some res) (sz : Nat) : Met l ({ cls := "CoinKeeperModel", name := "clear", desc := "()V" } : Jvm.MethodName) (.code ({ cls := "CoinKeeperModel", name := "clear", desc := "()V" } : Jvm.MethodName) b_M_clear 2 none :: gw) rm_M_clear (va_Pc [.ref o] (Pr D cy ad [(o, .inr (12, mo q z)), ((q 32), .inl (cy 1, 32768, .inl u0)), ((q 33), .inl (cy 3, 11600, .inl u1))] sz)) (q_M_clear D cy (va_A [(o, .inr (12, mo q z)), ((q 32), .inl (cy 1, 32768, .inl u0)), ((q 33), .inl (cy 3, 11600, .inl u1))] sz) o q z res) 0 0 (va_A [(o, .inr (12, mo q z)), ((q 32), .inl (cy 1, 32768, .inl u0)), ((q 33), .inl (cy 3, 11600, .inl u1))] sz) :=
  q_met (Qc := fun A => q_M_clear D cy A o q z res) (by decide) rfl rfl (Nat.le_of_ble_eq_true rfl) (fun p e s m below meth c ls F hP hD hS hl => we_M_clear (fu := fu) F u0 u1 res hf _ _ _ hP hD hS hl) sz
abbrev b_M_come : ByteArray := prog_14_method_76_code
theorem d_M_come_0 : decode b_M_come 0 = .ok (.iconst 0, 1) := by decide +kernel
theorem d_M_come_1 : decode b_M_come 1 = .ok (.istore 4, 2) := by decide +kernel
theorem d_M_come_3 : decode b_M_come 3 = .ok (.iload 4, 2) := by decide +kernel
theorem d_M_come_5 : decode b_M_come 5 = .ok (.bipush 32, 2) := by decide +kernel
theorem d_M_come_7 : decode b_M_come 7 = .ok (.if_icmp .ge 39, 3) := by decide +kernel
theorem d_M_come_10 : decode b_M_come 10 = .ok (.aload_n 0, 1) := by decide +kernel
theorem d_M_come_11 : decode b_M_come 11 = .ok (.getfield 246, 3) := by decide +kernel
theorem d_M_come_14 : decode b_M_come 14 = .ok (.iload 4, 2) := by decide +kernel
theorem d_M_come_16 : decode b_M_come 16 = .ok (.aload_n 0, 1) := by decide +kernel
theorem d_M_come_17 : decode b_M_come 17 = .ok (.getfield 55, 3) := by decide +kernel
theorem d_M_come_20 : decode b_M_come 20 = .ok (.bipush 8, 2) := by decide +kernel
theorem d_M_come_22 : decode b_M_come 22 = .ok (.iload_n 1, 1) := by decide +kernel
theorem d_M_come_23 : decode b_M_come 23 = .ok (.imul, 1) := by decide +kernel
theorem d_M_come_24 : decode b_M_come 24 = .ok (.iload 4, 2) := by decide +kernel
theorem d_M_come_26 : decode b_M_come 26 = .ok (.iconst 4, 1) := by decide +kernel
theorem d_M_come_27 : decode b_M_come 27 = .ok (.idiv, 1) := by decide +kernel
theorem d_M_come_28 : decode b_M_come 28 = .ok (.iadd, 1) := by decide +kernel
theorem d_M_come_29 : decode b_M_come 29 = .ok (.iaload, 1) := by decide +kernel
theorem d_M_come_30 : decode b_M_come 30 = .ok (.bipush 8, 2) := by decide +kernel
theorem d_M_come_32 : decode b_M_come 32 = .ok (.iload 4, 2) := by decide +kernel
theorem d_M_come_34 : decode b_M_come 34 = .ok (.iconst 4, 1) := by decide +kernel
theorem d_M_come_35 : decode b_M_come 35 = .ok (.irem, 1) := by decide +kernel
theorem d_M_come_36 : decode b_M_come 36 = .ok (.imul, 1) := by decide +kernel
theorem d_M_come_37 : decode b_M_come 37 = .ok (.ishr, 1) := by decide +kernel
theorem d_M_come_38 : decode b_M_come 38 = .ok (.i2b, 1) := by decide +kernel
theorem d_M_come_39 : decode b_M_come 39 = .ok (.bastore, 1) := by decide +kernel
theorem d_M_come_40 : decode b_M_come 40 = .ok (.iinc 4 1, 3) := by decide +kernel
theorem d_M_come_43 : decode b_M_come 43 = .ok (.goto (-40), 3) := by decide +kernel
theorem d_M_come_46 : decode b_M_come 46 = .ok (.aload_n 0, 1) := by decide +kernel
theorem d_M_come_47 : decode b_M_come 47 = .ok (.getfield 64, 3) := by decide +kernel
theorem d_M_come_50 : decode b_M_come 50 = .ok (.iload_n 1, 1) := by decide +kernel
theorem d_M_come_51 : decode b_M_come 51 = .ok (.iaload, 1) := by decide +kernel
theorem d_M_come_52 : decode b_M_come 52 = .ok (.istore 4, 2) := by decide +kernel
theorem d_M_come_54 : decode b_M_come 54 = .ok (.iload 4, 2) := by decide +kernel
theorem d_M_come_56 : decode b_M_come 56 = .ok (.aload_n 0, 1) := by decide +kernel
theorem d_M_come_57 : decode b_M_come 57 = .ok (.getfield 64, 3) := by decide +kernel
theorem d_M_come_60 : decode b_M_come 60 = .ok (.iload_n 1, 1) := by decide +kernel
theorem d_M_come_61 : decode b_M_come 61 = .ok (.iaload, 1) := by decide +kernel
theorem d_M_come_62 : decode b_M_come 62 = .ok (.aload_n 0, 1) := by decide +kernel
theorem d_M_come_63 : decode b_M_come 63 = .ok (.getfield 67, 3) := by decide +kernel
theorem d_M_come_66 : decode b_M_come 66 = .ok (.iload_n 1, 1) := by decide +kernel
theorem d_M_come_67 : decode b_M_come 67 = .ok (.iaload, 1) := by decide +kernel
theorem d_M_come_68 : decode b_M_come 68 = .ok (.iadd, 1) := by decide +kernel
theorem d_M_come_69 : decode b_M_come 69 = .ok (.if_icmp .ge 144, 3) := by decide +kernel
theorem d_M_come_72 : decode b_M_come 72 = .ok (.aload_n 0, 1) := by decide +kernel
theorem d_M_come_73 : decode b_M_come 73 = .ok (.aload_n 0, 1) := by decide +kernel
theorem d_M_come_74 : decode b_M_come 74 = .ok (.getfield 246, 3) := by decide +kernel
theorem d_M_come_77 : decode b_M_come 77 = .ok (.iconst 0, 1) := by decide +kernel
theorem d_M_come_78 : decode b_M_come 78 = .ok (.iload 4, 2) := by decide +kernel
theorem d_M_come_80 : decode b_M_come 80 = .ok (.aload_n 0, 1) := by decide +kernel
theorem d_M_come_81 : decode b_M_come 81 = .ok (.getfield 64, 3) := by decide +kernel
theorem d_M_come_84 : decode b_M_come 84 = .ok (.iload_n 1, 1) := by decide +kernel
theorem d_M_come_85 : decode b_M_come 85 = .ok (.iaload, 1) := by decide +kernel
theorem d_M_come_86 : decode b_M_come 86 = .ok (.isub, 1) := by decide +kernel
theorem d_M_come_87 : decode b_M_come 87 = .ok (.invokevirtual 631, 3) := by decide +kernel
theorem d_M_come_90 : decode b_M_come 90 = .ok (.istore 5, 2) := by decide +kernel
theorem d_M_come_92 : decode b_M_come 92 = .ok (.iload 5, 2) := by decide +kernel
theorem d_M_come_94 : decode b_M_come 94 = .ok (.ifCond .lt 11, 3) := by decide +kernel
theorem d_M_come_97 : decode b_M_come 97 = .ok (.aload_n 0, 1) := by decide +kernel
theorem d_M_come_98 : decode b_M_come 98 = .ok (.getfield 114, 3) := by decide +kernel
theorem d_M_come_101 : decode b_M_come 101 = .ok (.iload 5, 2) := by decide +kernel
theorem d_M_come_103 : decode b_M_come 103 = .ok (.iconst 0, 1) := by decide +kernel
theorem d_M_come_104 : decode b_M_come 104 = .ok (.bastore, 1) := by decide +kernel
theorem d_M_come_105 : decode b_M_come 105 = .ok (.aload_n 0, 1) := by decide +kernel
theorem d_M_come_106 : decode b_M_come 106 = .ok (.aload_n 0, 1) := by decide +kernel
theorem d_M_come_107 : decode b_M_come 107 = .ok (.getfield 55, 3) := by decide +kernel
theorem d_M_come_110 : decode b_M_come 110 = .ok (.bipush 8, 2) := by decide +kernel
theorem d_M_come_112 : decode b_M_come 112 = .ok (.iload_n 1, 1) := by decide +kernel
theorem d_M_come_113 : decode b_M_come 113 = .ok (.imul, 1) := by decide +kernel
theorem d_M_come_114 : decode b_M_come 114 = .ok (.iaload, 1) := by decide +kernel
theorem d_M_come_115 : decode b_M_come 115 = .ok (.iload 4, 2) := by decide +kernel
theorem d_M_come_117 : decode b_M_come 117 = .ok (.aload_n 0, 1) := by decide +kernel
theorem d_M_come_118 : decode b_M_come 118 = .ok (.getfield 64, 3) := by decide +kernel
theorem d_M_come_121 : decode b_M_come 121 = .ok (.iload_n 1, 1) := by decide +kernel
theorem d_M_come_122 : decode b_M_come 122 = .ok (.iaload, 1) := by decide +kernel
theorem d_M_come_123 : decode b_M_come 123 = .ok (.isub, 1) := by decide +kernel
theorem d_M_come_124 : decode b_M_come 124 = .ok (.invokevirtual 628, 3) := by decide +kernel
theorem d_M_come_127 : decode b_M_come 127 = .ok (.istore 6, 2) := by decide +kernel
theorem d_M_come_129 : decode b_M_come 129 = .ok (.aload_n 0, 1) := by decide +kernel
theorem d_M_come_130 : decode b_M_come 130 = .ok (.getfield 101, 3) := by decide +kernel
theorem d_M_come_133 : decode b_M_come 133 = .ok (.aload_n 0, 1) := by decide +kernel
theorem d_M_come_134 : decode b_M_come 134 = .ok (.getfield 635, 3) := by decide +kernel
theorem d_M_come_137 : decode b_M_come 137 = .ok (.iload 4, 2) := by decide +kernel
theorem d_M_come_139 : decode b_M_come 139 = .ok (.iastore, 1) := by decide +kernel
theorem d_M_come_140 : decode b_M_come 140 = .ok (.aload_n 0, 1) := by decide +kernel
theorem d_M_come_141 : decode b_M_come 141 = .ok (.getfield 104, 3) := by decide +kernel
theorem d_M_come_144 : decode b_M_come 144 = .ok (.aload_n 0, 1) := by decide +kernel
theorem d_M_come_145 : decode b_M_come 145 = .ok (.getfield 635, 3) := by decide +kernel
theorem d_M_come_148 : decode b_M_come 148 = .ok (.iload_n 3, 1) := by decide +kernel
theorem d_M_come_149 : decode b_M_come 149 = .ok (.ifCond .eq 9, 3) := by decide +kernel
theorem d_M_come_152 : decode b_M_come 152 = .ok (.iconst (-1), 1) := by decide +kernel
theorem d_M_come_153 : decode b_M_come 153 = .ok (.iload_n 2, 1) := by decide +kernel
theorem d_M_come_154 : decode b_M_come 154 = .ok (.isub, 1) := by decide +kernel
theorem d_M_come_155 : decode b_M_come 155 = .ok (.goto 4, 3) := by decide +kernel
theorem d_M_come_158 : decode b_M_come 158 = .ok (.iload_n 2, 1) := by decide +kernel
theorem d_M_come_159 : decode b_M_come 159 = .ok (.iastore, 1) := by decide +kernel
theorem d_M_come_160 : decode b_M_come 160 = .ok (.aload_n 0, 1) := by decide +kernel
theorem d_M_come_161 : decode b_M_come 161 = .ok (.getfield 114, 3) := by decide +kernel
theorem d_M_come_164 : decode b_M_come 164 = .ok (.aload_n 0, 1) := by decide +kernel
theorem d_M_come_165 : decode b_M_come 165 = .ok (.getfield 635, 3) := by decide +kernel
theorem d_M_come_168 : decode b_M_come 168 = .ok (.iconst 1, 1) := by decide +kernel
theorem d_M_come_169 : decode b_M_come 169 = .ok (.bastore, 1) := by decide +kernel
theorem d_M_come_170 : decode b_M_come 170 = .ok (.aload_n 0, 1) := by decide +kernel
theorem d_M_come_171 : decode b_M_come 171 = .ok (.getfield 107, 3) := by decide +kernel
theorem d_M_come_174 : decode b_M_come 174 = .ok (.aload_n 0, 1) := by decide +kernel
theorem d_M_come_175 : decode b_M_come 175 = .ok (.getfield 635, 3) := by decide +kernel
theorem d_M_come_178 : decode b_M_come 178 = .ok (.aload_n 0, 1) := by decide +kernel
theorem d_M_come_179 : decode b_M_come 179 = .ok (.getfield 111, 3) := by decide +kernel
theorem d_M_come_182 : decode b_M_come 182 = .ok (.iload 6, 2) := by decide +kernel
theorem d_M_come_184 : decode b_M_come 184 = .ok (.iaload, 1) := by decide +kernel
theorem d_M_come_185 : decode b_M_come 185 = .ok (.iastore, 1) := by decide +kernel
theorem d_M_come_186 : decode b_M_come 186 = .ok (.aload_n 0, 1) := by decide +kernel
theorem d_M_come_187 : decode b_M_come 187 = .ok (.getfield 111, 3) := by decide +kernel
theorem d_M_come_190 : decode b_M_come 190 = .ok (.iload 6, 2) := by decide +kernel
theorem d_M_come_192 : decode b_M_come 192 = .ok (.aload_n 0, 1) := by decide +kernel
theorem d_M_come_193 : decode b_M_come 193 = .ok (.getfield 635, 3) := by decide +kernel
theorem d_M_come_196 : decode b_M_come 196 = .ok (.iastore, 1) := by decide +kernel
theorem d_M_come_197 : decode b_M_come 197 = .ok (.aload_n 0, 1) := by decide +kernel
theorem d_M_come_198 : decode b_M_come 198 = .ok (.dup, 1) := by decide +kernel
theorem d_M_come_199 : decode b_M_come 199 = .ok (.getfield 635, 3) := by decide +kernel
theorem d_M_come_202 : decode b_M_come 202 = .ok (.iconst 1, 1) := by decide +kernel
theorem d_M_come_203 : decode b_M_come 203 = .ok (.iadd, 1) := by decide +kernel
theorem d_M_come_204 : decode b_M_come 204 = .ok (.putfield 635, 3) := by decide +kernel
theorem d_M_come_207 : decode b_M_come 207 = .ok (.iinc 4 1, 3) := by decide +kernel
theorem d_M_come_210 : decode b_M_come 210 = .ok (.goto (-156), 3) := by decide +kernel
theorem d_M_come_213 : decode b_M_come 213 = .ok (.return_, 1) := by decide +kernel
abbrev rm_M_come : Room := { frames := 2, cells := 0, slots := 0, locals := 50 }
abbrev q_M_come (D : va_G) (cy : Nat → ClassId) (A : Nat → Prop) (o : Nat) (q : Nat → Nat) (g_tId : Nat → Int32) (g_tOut : Nat → Int32) (g_tOuts : Nat → Int32) (g_oTx : Nat → Int32) (res : (Nat → Int32) × (Nat → Int32) × (Nat → Int32) × (Nat → Int32) × (Nat → Int32) × (Nat → Int32) × (Nat → Int32)) : Array Value → State → Outcome → State → Prop := va_Qv (fun (_ : Unit) => True) (fun _ t => Po D cy A [(o, .inr (12, mo q res.1)), ((q 14), .inl (cy 1, 17600, .inl g_tId)), ((q 17), .inl (cy 1, 2200, .inl g_tOut)), ((q 18), .inl (cy 1, 2200, .inl g_tOuts)), ((q 28), .inl (cy 1, 11600, .inl g_oTx)), ((q 29), .inl (cy 1, 11600, .inl res.2.1)), ((q 30), .inl (cy 1, 11600, .inl res.2.2.1)), ((q 31), .inl (cy 1, 11600, .inl res.2.2.2.1)), ((q 32), .inl (cy 1, 32768, .inl res.2.2.2.2.1)), ((q 33), .inl (cy 3, 11600, .inl res.2.2.2.2.2.1)), ((q 76), .inl (cy 0, 32, .inl res.2.2.2.2.2.2))] t) A
def I_M_come_159 (p : Program) (l : Launch) (e : Env) (s : State) (m : MethodId) (args : Array Value) (below : List Frame) (meth : Method) (c : Code) (D : va_G) (cy : Nat → ClassId) (A : Nat → Prop) (ad : Nat → Nat) (o : Nat) (q : Nat → Nat) (g_tId : Nat → Int32) (g_tOut : Nat → Int32) (g_tOuts : Nat → Int32) (g_oTx : Nat → Int32) (k : Int32 → Int32 → Int32 → Int32 → Int32 → Int32 → Int32 → (Nat → Int32) → (Nat → Int32) → (Nat → Int32) → (Nat → Int32) → (Nat → Int32) → (Nat → Int32) → (Nat → Int32) → Option ((Nat → Int32) × (Nat → Int32) × (Nat → Int32) × (Nat → Int32) × (Nat → Int32) × (Nat → Int32) × (Nat → Int32))) : Prop :=
  ∀ (x1 : Int32) (x2 : Int32) (x3 : Int32) (x4 : Int32) (x6 : Int32) (y0 : Int32) (y1 : Int32) (u0 : Nat → Int32) (u1 : Nat → Int32) (u2 : Nat → Int32) (u3 : Nat → Int32) (u4 : Nat → Int32) (u5 : Nat → Int32) (u6 : Nat → Int32) (res : (Nat → Int32) × (Nat → Int32) × (Nat → Int32) × (Nat → Int32) × (Nat → Int32) × (Nat → Int32) × (Nat → Int32)), k x1 x2 x3 x4 x6 y0 y1 u0 u1 u2 u3 u4 u5 u6 = some res → ∀ (H : Heap) (locs : List Loc) (ls : Array Slot), va_P D classes [(o, .inr (12, mo q u0)), ((q 14), .inl (cy 1, 17600, .inl g_tId)), ((q 17), .inl (cy 1, 2200, .inl g_tOut)), ((q 18), .inl (cy 1, 2200, .inl g_tOuts)), ((q 28), .inl (cy 1, 11600, .inl g_oTx)), ((q 29), .inl (cy 1, 11600, .inl u1)), ((q 30), .inl (cy 1, 11600, .inl u2)), ((q 31), .inl (cy 1, 11600, .inl u3)), ((q 32), .inl (cy 1, 32768, .inl u4)), ((q 33), .inl (cy 3, 11600, .inl u5)), ((q 76), .inl (cy 0, 32, .inl u6))] H → va_D A [(o, .inr (12, mo q u0)), ((q 14), .inl (cy 1, 17600, .inl g_tId)), ((q 17), .inl (cy 1, 2200, .inl g_tOut)), ((q 18), .inl (cy 1, 2200, .inl g_tOuts)), ((q 28), .inl (cy 1, 11600, .inl g_oTx)), ((q 29), .inl (cy 1, 11600, .inl u1)), ((q 30), .inl (cy 1, 11600, .inl u2)), ((q 31), .inl (cy 1, 11600, .inl u3)), ((q 32), .inl (cy 1, 32768, .inl u4)), ((q 33), .inl (cy 3, 11600, .inl u5)), ((q 76), .inl (cy 0, 32, .inl u6))] → va_S A s.heap H locs → lv_has ls 7 [(0, .ref o), (1, .int x1), (2, .int x2), (3, .int x3), (4, .int x4), (6, .int x6)] → W p l e rm_M_come s m args below meth c H locs 0 0 (MQ below (q_M_come D cy A o q g_tId g_tOut g_tOuts g_oTx res) args s 0 0 A) (F0 m 159 ls [.int y0, .int y1, .ref (q 30)])
def I_M_come_105 (p : Program) (l : Launch) (e : Env) (s : State) (m : MethodId) (args : Array Value) (below : List Frame) (meth : Method) (c : Code) (D : va_G) (cy : Nat → ClassId) (A : Nat → Prop) (ad : Nat → Nat) (o : Nat) (q : Nat → Nat) (g_tId : Nat → Int32) (g_tOut : Nat → Int32) (g_tOuts : Nat → Int32) (g_oTx : Nat → Int32) (k : Int32 → Int32 → Int32 → Int32 → (Nat → Int32) → (Nat → Int32) → (Nat → Int32) → (Nat → Int32) → (Nat → Int32) → (Nat → Int32) → (Nat → Int32) → Option ((Nat → Int32) × (Nat → Int32) × (Nat → Int32) × (Nat → Int32) × (Nat → Int32) × (Nat → Int32) × (Nat → Int32))) : Prop :=
  ∀ (x1 : Int32) (x2 : Int32) (x3 : Int32) (x4 : Int32) (u0 : Nat → Int32) (u1 : Nat → Int32) (u2 : Nat → Int32) (u3 : Nat → Int32) (u4 : Nat → Int32) (u5 : Nat → Int32) (u6 : Nat → Int32) (res : (Nat → Int32) × (Nat → Int32) × (Nat → Int32) × (Nat → Int32) × (Nat → Int32) × (Nat → Int32) × (Nat → Int32)), k x1 x2 x3 x4 u0 u1 u2 u3 u4 u5 u6 = some res → ∀ (H : Heap) (locs : List Loc) (ls : Array Slot), va_P D classes [(o, .inr (12, mo q u0)), ((q 14), .inl (cy 1, 17600, .inl g_tId)), ((q 17), .inl (cy 1, 2200, .inl g_tOut)), ((q 18), .inl (cy 1, 2200, .inl g_tOuts)), ((q 28), .inl (cy 1, 11600, .inl g_oTx)), ((q 29), .inl (cy 1, 11600, .inl u1)), ((q 30), .inl (cy 1, 11600, .inl u2)), ((q 31), .inl (cy 1, 11600, .inl u3)), ((q 32), .inl (cy 1, 32768, .inl u4)), ((q 33), .inl (cy 3, 11600, .inl u5)), ((q 76), .inl (cy 0, 32, .inl u6))] H → va_D A [(o, .inr (12, mo q u0)), ((q 14), .inl (cy 1, 17600, .inl g_tId)), ((q 17), .inl (cy 1, 2200, .inl g_tOut)), ((q 18), .inl (cy 1, 2200, .inl g_tOuts)), ((q 28), .inl (cy 1, 11600, .inl g_oTx)), ((q 29), .inl (cy 1, 11600, .inl u1)), ((q 30), .inl (cy 1, 11600, .inl u2)), ((q 31), .inl (cy 1, 11600, .inl u3)), ((q 32), .inl (cy 1, 32768, .inl u4)), ((q 33), .inl (cy 3, 11600, .inl u5)), ((q 76), .inl (cy 0, 32, .inl u6))] → va_S A s.heap H locs → lv_has ls 7 [(0, .ref o), (1, .int x1), (2, .int x2), (3, .int x3), (4, .int x4)] → W p l e rm_M_come s m args below meth c H locs 0 0 (MQ below (q_M_come D cy A o q g_tId g_tOut g_tOuts g_oTx res) args s 0 0 A) (F0 m 105 ls [])
def I_M_come_54 (p : Program) (l : Launch) (e : Env) (s : State) (m : MethodId) (args : Array Value) (below : List Frame) (meth : Method) (c : Code) (D : va_G) (cy : Nat → ClassId) (A : Nat → Prop) (ad : Nat → Nat) (o : Nat) (q : Nat → Nat) (g_tId : Nat → Int32) (g_tOut : Nat → Int32) (g_tOuts : Nat → Int32) (g_oTx : Nat → Int32) (k : Int32 → Int32 → Int32 → Int32 → (Nat → Int32) → (Nat → Int32) → (Nat → Int32) → (Nat → Int32) → (Nat → Int32) → (Nat → Int32) → (Nat → Int32) → Option ((Nat → Int32) × (Nat → Int32) × (Nat → Int32) × (Nat → Int32) × (Nat → Int32) × (Nat → Int32) × (Nat → Int32))) : Prop :=
  ∀ (x1 : Int32) (x2 : Int32) (x3 : Int32) (x4 : Int32) (u0 : Nat → Int32) (u1 : Nat → Int32) (u2 : Nat → Int32) (u3 : Nat → Int32) (u4 : Nat → Int32) (u5 : Nat → Int32) (u6 : Nat → Int32) (res : (Nat → Int32) × (Nat → Int32) × (Nat → Int32) × (Nat → Int32) × (Nat → Int32) × (Nat → Int32) × (Nat → Int32)), k x1 x2 x3 x4 u0 u1 u2 u3 u4 u5 u6 = some res → ∀ (H : Heap) (locs : List Loc) (ls : Array Slot), va_P D classes [(o, .inr (12, mo q u0)), ((q 14), .inl (cy 1, 17600, .inl g_tId)), ((q 17), .inl (cy 1, 2200, .inl g_tOut)), ((q 18), .inl (cy 1, 2200, .inl g_tOuts)), ((q 28), .inl (cy 1, 11600, .inl g_oTx)), ((q 29), .inl (cy 1, 11600, .inl u1)), ((q 30), .inl (cy 1, 11600, .inl u2)), ((q 31), .inl (cy 1, 11600, .inl u3)), ((q 32), .inl (cy 1, 32768, .inl u4)), ((q 33), .inl (cy 3, 11600, .inl u5)), ((q 76), .inl (cy 0, 32, .inl u6))] H → va_D A [(o, .inr (12, mo q u0)), ((q 14), .inl (cy 1, 17600, .inl g_tId)), ((q 17), .inl (cy 1, 2200, .inl g_tOut)), ((q 18), .inl (cy 1, 2200, .inl g_tOuts)), ((q 28), .inl (cy 1, 11600, .inl g_oTx)), ((q 29), .inl (cy 1, 11600, .inl u1)), ((q 30), .inl (cy 1, 11600, .inl u2)), ((q 31), .inl (cy 1, 11600, .inl u3)), ((q 32), .inl (cy 1, 32768, .inl u4)), ((q 33), .inl (cy 3, 11600, .inl u5)), ((q 76), .inl (cy 0, 32, .inl u6))] → va_S A s.heap H locs → lv_has ls 7 [(0, .ref o), (1, .int x1), (2, .int x2), (3, .int x3), (4, .int x4)] → W p l e rm_M_come s m args below meth c H locs 0 0 (MQ below (q_M_come D cy A o q g_tId g_tOut g_tOuts g_oTx res) args s 0 0 A) (F0 m 54 ls [])
def I_M_come_3 (p : Program) (l : Launch) (e : Env) (s : State) (m : MethodId) (args : Array Value) (below : List Frame) (meth : Method) (c : Code) (D : va_G) (cy : Nat → ClassId) (A : Nat → Prop) (ad : Nat → Nat) (o : Nat) (q : Nat → Nat) (g_tId : Nat → Int32) (g_tOut : Nat → Int32) (g_tOuts : Nat → Int32) (g_oTx : Nat → Int32) (k : Int32 → Int32 → Int32 → Int32 → (Nat → Int32) → (Nat → Int32) → (Nat → Int32) → (Nat → Int32) → (Nat → Int32) → (Nat → Int32) → (Nat → Int32) → Option ((Nat → Int32) × (Nat → Int32) × (Nat → Int32) × (Nat → Int32) × (Nat → Int32) × (Nat → Int32) × (Nat → Int32))) : Prop :=
  ∀ (x1 : Int32) (x2 : Int32) (x3 : Int32) (x4 : Int32) (u0 : Nat → Int32) (u1 : Nat → Int32) (u2 : Nat → Int32) (u3 : Nat → Int32) (u4 : Nat → Int32) (u5 : Nat → Int32) (u6 : Nat → Int32) (res : (Nat → Int32) × (Nat → Int32) × (Nat → Int32) × (Nat → Int32) × (Nat → Int32) × (Nat → Int32) × (Nat → Int32)), k x1 x2 x3 x4 u0 u1 u2 u3 u4 u5 u6 = some res → ∀ (H : Heap) (locs : List Loc) (ls : Array Slot), va_P D classes [(o, .inr (12, mo q u0)), ((q 14), .inl (cy 1, 17600, .inl g_tId)), ((q 17), .inl (cy 1, 2200, .inl g_tOut)), ((q 18), .inl (cy 1, 2200, .inl g_tOuts)), ((q 28), .inl (cy 1, 11600, .inl g_oTx)), ((q 29), .inl (cy 1, 11600, .inl u1)), ((q 30), .inl (cy 1, 11600, .inl u2)), ((q 31), .inl (cy 1, 11600, .inl u3)), ((q 32), .inl (cy 1, 32768, .inl u4)), ((q 33), .inl (cy 3, 11600, .inl u5)), ((q 76), .inl (cy 0, 32, .inl u6))] H → va_D A [(o, .inr (12, mo q u0)), ((q 14), .inl (cy 1, 17600, .inl g_tId)), ((q 17), .inl (cy 1, 2200, .inl g_tOut)), ((q 18), .inl (cy 1, 2200, .inl g_tOuts)), ((q 28), .inl (cy 1, 11600, .inl g_oTx)), ((q 29), .inl (cy 1, 11600, .inl u1)), ((q 30), .inl (cy 1, 11600, .inl u2)), ((q 31), .inl (cy 1, 11600, .inl u3)), ((q 32), .inl (cy 1, 32768, .inl u4)), ((q 33), .inl (cy 3, 11600, .inl u5)), ((q 76), .inl (cy 0, 32, .inl u6))] → va_S A s.heap H locs → lv_has ls 7 [(0, .ref o), (1, .int x1), (2, .int x2), (3, .int x3), (4, .int x4)] → W p l e rm_M_come s m args below meth c H locs 0 0 (MQ below (q_M_come D cy A o q g_tId g_tOut g_tOuts g_oTx res) args s 0 0 A) (F0 m 3 ls [])
def I_M_come_e (p : Program) (l : Launch) (e : Env) (s : State) (m : MethodId) (args : Array Value) (below : List Frame) (meth : Method) (c : Code) (D : va_G) (cy : Nat → ClassId) (A : Nat → Prop) (ad : Nat → Nat) (o : Nat) (q : Nat → Nat) (g_tId : Nat → Int32) (g_tOut : Nat → Int32) (g_tOuts : Nat → Int32) (g_oTx : Nat → Int32) (k : Int32 → Int32 → Int32 → (Nat → Int32) → (Nat → Int32) → (Nat → Int32) → (Nat → Int32) → (Nat → Int32) → (Nat → Int32) → (Nat → Int32) → Option ((Nat → Int32) × (Nat → Int32) × (Nat → Int32) × (Nat → Int32) × (Nat → Int32) × (Nat → Int32) × (Nat → Int32))) : Prop :=
  ∀ (a1 : Int32) (a2 : Int32) (a3 : Int32) (u0 : Nat → Int32) (u1 : Nat → Int32) (u2 : Nat → Int32) (u3 : Nat → Int32) (u4 : Nat → Int32) (u5 : Nat → Int32) (u6 : Nat → Int32) (res : (Nat → Int32) × (Nat → Int32) × (Nat → Int32) × (Nat → Int32) × (Nat → Int32) × (Nat → Int32) × (Nat → Int32)), k a1 a2 a3 u0 u1 u2 u3 u4 u5 u6 = some res → ∀ (H : Heap) (locs : List Loc) (ls : Array Slot), va_P D classes [(o, .inr (12, mo q u0)), ((q 14), .inl (cy 1, 17600, .inl g_tId)), ((q 17), .inl (cy 1, 2200, .inl g_tOut)), ((q 18), .inl (cy 1, 2200, .inl g_tOuts)), ((q 28), .inl (cy 1, 11600, .inl g_oTx)), ((q 29), .inl (cy 1, 11600, .inl u1)), ((q 30), .inl (cy 1, 11600, .inl u2)), ((q 31), .inl (cy 1, 11600, .inl u3)), ((q 32), .inl (cy 1, 32768, .inl u4)), ((q 33), .inl (cy 3, 11600, .inl u5)), ((q 76), .inl (cy 0, 32, .inl u6))] H → va_D A [(o, .inr (12, mo q u0)), ((q 14), .inl (cy 1, 17600, .inl g_tId)), ((q 17), .inl (cy 1, 2200, .inl g_tOut)), ((q 18), .inl (cy 1, 2200, .inl g_tOuts)), ((q 28), .inl (cy 1, 11600, .inl g_oTx)), ((q 29), .inl (cy 1, 11600, .inl u1)), ((q 30), .inl (cy 1, 11600, .inl u2)), ((q 31), .inl (cy 1, 11600, .inl u3)), ((q 32), .inl (cy 1, 32768, .inl u4)), ((q 33), .inl (cy 3, 11600, .inl u5)), ((q 76), .inl (cy 0, 32, .inl u6))] → va_S A s.heap H locs → lv_has ls 7 [(0, .ref o), (1, .int a1), (2, .int a2), (3, .int a3)] → W p l e rm_M_come s m args below meth c H locs 0 0 (MQ below (q_M_come D cy A o q g_tId g_tOut g_tOuts g_oTx res) args s 0 0 A) (F0 m 0 ls [])
set_option maxHeartbeats 8000000 in
set_option maxRecDepth 100000 in
theorem wb_M_come_159 {p : Program} {l : Launch} {e : Env} {s : State} {m : MethodId} {args : Array Value} {below : List Frame} {meth : Method} {c : Code} {D : va_G} {cy : Nat → ClassId} {A : Nat → Prop} {ad : Nat → Nat} {o : Nat} {q : Nat → Nat} {g_tId : Nat → Int32} {g_tOut : Nat → Int32} {g_tOuts : Nat → Int32} {g_oTx : Nat → Int32} {fu : Nat} {k_54 : Int32 → Int32 → Int32 → Int32 → (Nat → Int32) → (Nat → Int32) → (Nat → Int32) → (Nat → Int32) → (Nat → Int32) → (Nat → Int32) → (Nat → Int32) → Option ((Nat → Int32) × (Nat → Int32) × (Nat → Int32) × (Nat → Int32) × (Nat → Int32) × (Nat → Int32) × (Nat → Int32))} (F : Fx p s m args meth c b_M_come 7 "CoinKeeperModel" "come" none D cy ad A) (hk_54 : I_M_come_54 p l e s m args below meth c D cy A ad o q g_tId g_tOut g_tOuts g_oTx k_54) : I_M_come_159 p l e s m args below meth c D cy A ad o q g_tId g_tOut g_tOuts g_oTx (xb_M_come_159 fu g_tId g_tOut g_tOuts g_oTx k_54) := by
  obtain ⟨hx, hb, hr, hml, hown, hts, hlocks, hK, hA, hSt, hnm, hex⟩ := id F
  intro x1 x2 x3 x4 x6 y0 y1 u0 u1 u2 u3 u4 u5 u6 res hf H locs ls hP hD hS hl
  unfold xb_M_come_159 at hf
  obtain ⟨hg, hf⟩ := gdp hf
  refine va_iast hx hb hK hP hD hS 6 1 rfl rfl (inb_in hg) d_M_come_159 (fun H locs hP hD hS => ?_)
  obtain ⟨f1, ev, hf⟩ := bne hf
  have hP : va_P D classes [(o, .inr (12, mo q u0)), ((q 14), .inl (cy 1, 17600, .inl g_tId)), ((q 17), .inl (cy 1, 2200, .inl g_tOut)), ((q 18), .inl (cy 1, 2200, .inl g_tOuts)), ((q 28), .inl (cy 1, 11600, .inl g_oTx)), ((q 29), .inl (cy 1, 11600, .inl u1)), ((q 30), .inl (cy 1, 11600, .inl f1)), ((q 31), .inl (cy 1, 11600, .inl u3)), ((q 32), .inl (cy 1, 32768, .inl u4)), ((q 33), .inl (cy 3, 11600, .inl u5)), ((q 76), .inl (cy 0, 32, .inl u6))] H := by rw [ev]; exact hP
  have hD : va_D A [(o, .inr (12, mo q u0)), ((q 14), .inl (cy 1, 17600, .inl g_tId)), ((q 17), .inl (cy 1, 2200, .inl g_tOut)), ((q 18), .inl (cy 1, 2200, .inl g_tOuts)), ((q 28), .inl (cy 1, 11600, .inl g_oTx)), ((q 29), .inl (cy 1, 11600, .inl u1)), ((q 30), .inl (cy 1, 11600, .inl f1)), ((q 31), .inl (cy 1, 11600, .inl u3)), ((q 32), .inl (cy 1, 32768, .inl u4)), ((q 33), .inl (cy 3, 11600, .inl u5)), ((q 76), .inl (cy 0, 32, .inl u6))] := by rw [ev]; exact hD
  clear ev
  refine lv_aload_n hx hb d_M_come_160 rfl (lv_at hl 0 rfl) ?_
  refine va_get (D := D) (ci := 12) (v := .ref (q 33)) (C := "CoinKeeperModel") (T := F_12) (N := 98) hx hb hts i_12 hown hK hP 0 rfl rfl 41 (by decide) (hts _ gw_1460) (fun _ h9 => h9) rfl d_M_come_161 ?_
  refine lv_aload_n hx hb d_M_come_164 rfl (lv_at hl 0 rfl) ?_
  refine va_get (D := D) (ci := 12) (v := .int (u0 19)) (C := "CoinKeeperModel") (T := F_12) (N := 98) hx hb hts i_12 hown hK hP 0 rfl rfl 95 (by decide) (hts _ gw_1514) (fun _ h9 => h9) rfl d_M_come_165 ?_
  refine lv_iconst (v := 1) hx hb d_M_come_168 (by decide) ?_
  obtain ⟨hg, hf⟩ := gdp hf
  refine va_zast hx hb hK hP hD hS 9 3 rfl rfl (inb_in hg) d_M_come_169 (fun H locs hP hD hS => ?_)
  obtain ⟨f2, ev, hf⟩ := bne hf
  have hP : va_P D classes [(o, .inr (12, mo q u0)), ((q 14), .inl (cy 1, 17600, .inl g_tId)), ((q 17), .inl (cy 1, 2200, .inl g_tOut)), ((q 18), .inl (cy 1, 2200, .inl g_tOuts)), ((q 28), .inl (cy 1, 11600, .inl g_oTx)), ((q 29), .inl (cy 1, 11600, .inl u1)), ((q 30), .inl (cy 1, 11600, .inl f1)), ((q 31), .inl (cy 1, 11600, .inl u3)), ((q 32), .inl (cy 1, 32768, .inl u4)), ((q 33), .inl (cy 3, 11600, .inl f2)), ((q 76), .inl (cy 0, 32, .inl u6))] H := by rw [ev]; exact hP
  have hD : va_D A [(o, .inr (12, mo q u0)), ((q 14), .inl (cy 1, 17600, .inl g_tId)), ((q 17), .inl (cy 1, 2200, .inl g_tOut)), ((q 18), .inl (cy 1, 2200, .inl g_tOuts)), ((q 28), .inl (cy 1, 11600, .inl g_oTx)), ((q 29), .inl (cy 1, 11600, .inl u1)), ((q 30), .inl (cy 1, 11600, .inl f1)), ((q 31), .inl (cy 1, 11600, .inl u3)), ((q 32), .inl (cy 1, 32768, .inl u4)), ((q 33), .inl (cy 3, 11600, .inl f2)), ((q 76), .inl (cy 0, 32, .inl u6))] := by rw [ev]; exact hD
  clear ev
  refine lv_aload_n hx hb d_M_come_170 rfl (lv_at hl 0 rfl) ?_
  refine va_get (D := D) (ci := 12) (v := .ref (q 31)) (C := "CoinKeeperModel") (T := F_12) (N := 98) hx hb hts i_12 hown hK hP 0 rfl rfl 39 (by decide) (hts _ gw_1458) (fun _ h9 => h9) rfl d_M_come_171 ?_
  refine lv_aload_n hx hb d_M_come_174 rfl (lv_at hl 0 rfl) ?_
  refine va_get (D := D) (ci := 12) (v := .int (u0 19)) (C := "CoinKeeperModel") (T := F_12) (N := 98) hx hb hts i_12 hown hK hP 0 rfl rfl 95 (by decide) (hts _ gw_1514) (fun _ h9 => h9) rfl d_M_come_175 ?_
  refine lv_aload_n hx hb d_M_come_178 rfl (lv_at hl 0 rfl) ?_
  refine va_get (D := D) (ci := 12) (v := .ref (q 32)) (C := "CoinKeeperModel") (T := F_12) (N := 98) hx hb hts i_12 hown hK hP 0 rfl rfl 40 (by decide) (hts _ gw_1459) (fun _ h9 => h9) rfl d_M_come_179 ?_
  refine lv_iload hx hb d_M_come_182 (lv_at hl 5 rfl) ?_
  obtain ⟨hg, hf⟩ := gdp hf
  refine va_iald hx hb hK hP 8 1 rfl rfl (inb_in hg) d_M_come_184 ?_
  refine lv_topi (fun v3 ev => ?_)
  have hf := bn ev hf
  clear ev
  obtain ⟨hg, hf⟩ := gdp hf
  refine va_iast hx hb hK hP hD hS 7 1 rfl rfl (inb_in hg) d_M_come_185 (fun H locs hP hD hS => ?_)
  obtain ⟨f4, ev, hf⟩ := bne hf
  have hP : va_P D classes [(o, .inr (12, mo q u0)), ((q 14), .inl (cy 1, 17600, .inl g_tId)), ((q 17), .inl (cy 1, 2200, .inl g_tOut)), ((q 18), .inl (cy 1, 2200, .inl g_tOuts)), ((q 28), .inl (cy 1, 11600, .inl g_oTx)), ((q 29), .inl (cy 1, 11600, .inl u1)), ((q 30), .inl (cy 1, 11600, .inl f1)), ((q 31), .inl (cy 1, 11600, .inl f4)), ((q 32), .inl (cy 1, 32768, .inl u4)), ((q 33), .inl (cy 3, 11600, .inl f2)), ((q 76), .inl (cy 0, 32, .inl u6))] H := by rw [ev]; exact hP
  have hD : va_D A [(o, .inr (12, mo q u0)), ((q 14), .inl (cy 1, 17600, .inl g_tId)), ((q 17), .inl (cy 1, 2200, .inl g_tOut)), ((q 18), .inl (cy 1, 2200, .inl g_tOuts)), ((q 28), .inl (cy 1, 11600, .inl g_oTx)), ((q 29), .inl (cy 1, 11600, .inl u1)), ((q 30), .inl (cy 1, 11600, .inl f1)), ((q 31), .inl (cy 1, 11600, .inl f4)), ((q 32), .inl (cy 1, 32768, .inl u4)), ((q 33), .inl (cy 3, 11600, .inl f2)), ((q 76), .inl (cy 0, 32, .inl u6))] := by rw [ev]; exact hD
  clear ev
  refine lv_aload_n hx hb d_M_come_186 rfl (lv_at hl 0 rfl) ?_
  refine va_get (D := D) (ci := 12) (v := .ref (q 32)) (C := "CoinKeeperModel") (T := F_12) (N := 98) hx hb hts i_12 hown hK hP 0 rfl rfl 40 (by decide) (hts _ gw_1459) (fun _ h9 => h9) rfl d_M_come_187 ?_
  refine lv_iload hx hb d_M_come_190 (lv_at hl 5 rfl) ?_
  refine lv_aload_n hx hb d_M_come_192 rfl (lv_at hl 0 rfl) ?_
  refine va_get (D := D) (ci := 12) (v := .int (u0 19)) (C := "CoinKeeperModel") (T := F_12) (N := 98) hx hb hts i_12 hown hK hP 0 rfl rfl 95 (by decide) (hts _ gw_1514) (fun _ h9 => h9) rfl d_M_come_193 ?_
  obtain ⟨hg, hf⟩ := gdp hf
  refine va_iast hx hb hK hP hD hS 8 1 rfl rfl (inb_in hg) d_M_come_196 (fun H locs hP hD hS => ?_)
  obtain ⟨f5, ev, hf⟩ := bne hf
  have hP : va_P D classes [(o, .inr (12, mo q u0)), ((q 14), .inl (cy 1, 17600, .inl g_tId)), ((q 17), .inl (cy 1, 2200, .inl g_tOut)), ((q 18), .inl (cy 1, 2200, .inl g_tOuts)), ((q 28), .inl (cy 1, 11600, .inl g_oTx)), ((q 29), .inl (cy 1, 11600, .inl u1)), ((q 30), .inl (cy 1, 11600, .inl f1)), ((q 31), .inl (cy 1, 11600, .inl f4)), ((q 32), .inl (cy 1, 32768, .inl f5)), ((q 33), .inl (cy 3, 11600, .inl f2)), ((q 76), .inl (cy 0, 32, .inl u6))] H := by rw [ev]; exact hP
  have hD : va_D A [(o, .inr (12, mo q u0)), ((q 14), .inl (cy 1, 17600, .inl g_tId)), ((q 17), .inl (cy 1, 2200, .inl g_tOut)), ((q 18), .inl (cy 1, 2200, .inl g_tOuts)), ((q 28), .inl (cy 1, 11600, .inl g_oTx)), ((q 29), .inl (cy 1, 11600, .inl u1)), ((q 30), .inl (cy 1, 11600, .inl f1)), ((q 31), .inl (cy 1, 11600, .inl f4)), ((q 32), .inl (cy 1, 32768, .inl f5)), ((q 33), .inl (cy 3, 11600, .inl f2)), ((q 76), .inl (cy 0, 32, .inl u6))] := by rw [ev]; exact hD
  clear ev
  refine lv_aload_n hx hb d_M_come_197 rfl (lv_at hl 0 rfl) ?_
  refine lv_dup hx hb d_M_come_198 rfl ?_
  refine va_get (D := D) (ci := 12) (v := .int (u0 19)) (C := "CoinKeeperModel") (T := F_12) (N := 98) hx hb hts i_12 hown hK hP 0 rfl rfl 95 (by decide) (hts _ gw_1514) (fun _ h9 => h9) rfl d_M_come_199 ?_
  refine lv_iconst (v := 1) hx hb d_M_come_202 (by decide) ?_
  refine lv_iadd hx hb d_M_come_203 ?_
  refine lv_topi (fun v6 ev => ?_)
  have hf := bn ev hf
  clear ev
  refine va_put (D := D) (ci := 12) (v := .int v6) (ty := .int) (C := "CoinKeeperModel") (T := F_12) (N := 98) hx hb hts i_12 t_12 t_12_ok n_12 hown hK hP hD hS 0 rfl rfl 95 (by decide) (hts _ gw_1514) (fun _ h9 => h9) rfl (by decide +kernel) rfl rfl (Nat.le_of_ble_eq_true rfl) d_M_come_204 (fun H locs hP hD hS => ?_)
  obtain ⟨z7, ev, hf⟩ := bne hf
  have hP : va_P D classes [(o, .inr (12, mo q z7)), ((q 14), .inl (cy 1, 17600, .inl g_tId)), ((q 17), .inl (cy 1, 2200, .inl g_tOut)), ((q 18), .inl (cy 1, 2200, .inl g_tOuts)), ((q 28), .inl (cy 1, 11600, .inl g_oTx)), ((q 29), .inl (cy 1, 11600, .inl u1)), ((q 30), .inl (cy 1, 11600, .inl f1)), ((q 31), .inl (cy 1, 11600, .inl f4)), ((q 32), .inl (cy 1, 32768, .inl f5)), ((q 33), .inl (cy 3, 11600, .inl f2)), ((q 76), .inl (cy 0, 32, .inl u6))] H := by rw [ev]; exact hP
  have hD : va_D A [(o, .inr (12, mo q z7)), ((q 14), .inl (cy 1, 17600, .inl g_tId)), ((q 17), .inl (cy 1, 2200, .inl g_tOut)), ((q 18), .inl (cy 1, 2200, .inl g_tOuts)), ((q 28), .inl (cy 1, 11600, .inl g_oTx)), ((q 29), .inl (cy 1, 11600, .inl u1)), ((q 30), .inl (cy 1, 11600, .inl f1)), ((q 31), .inl (cy 1, 11600, .inl f4)), ((q 32), .inl (cy 1, 32768, .inl f5)), ((q 33), .inl (cy 3, 11600, .inl f2)), ((q 76), .inl (cy 0, 32, .inl u6))] := by rw [ev]; exact hD
  clear ev
  obtain ⟨v8, ev, hf⟩ := bne hf
  refine lv_iinc (v := v8) (lv' := [(4, .int v8), (0, .ref o), (1, .int x1), (2, .int x2), (3, .int x3), (6, .int x6)]) hx hb d_M_come_207 hl (k := 4) rfl (by rw [ev]; rfl) (by decide) rfl (fun ls hl => ?_)
  clear ev
  refine lv_goto (tgt := 54) hx hb d_M_come_210 (by decide) ?_
  exact hk_54 _ _ _ _ _ _ _ _ _ _ _ _ hf _ _ _ hP hD hS (lv_sub hl [1, 2, 3, 4, 0] rfl)
set_option maxHeartbeats 8000000 in
set_option maxRecDepth 100000 in
theorem wb_M_come_105 {p : Program} {l : Launch} {e : Env} {s : State} {m : MethodId} {args : Array Value} {below : List Frame} {meth : Method} {c : Code} {D : va_G} {cy : Nat → ClassId} {A : Nat → Prop} {ad : Nat → Nat} {o : Nat} {q : Nat → Nat} {g_tId : Nat → Int32} {g_tOut : Nat → Int32} {g_tOuts : Nat → Int32} {g_oTx : Nat → Int32} {fu : Nat} {k_54 : Int32 → Int32 → Int32 → Int32 → (Nat → Int32) → (Nat → Int32) → (Nat → Int32) → (Nat → Int32) → (Nat → Int32) → (Nat → Int32) → (Nat → Int32) → Option ((Nat → Int32) × (Nat → Int32) × (Nat → Int32) × (Nat → Int32) × (Nat → Int32) × (Nat → Int32) × (Nat → Int32))} (F : Fx p s m args meth c b_M_come 7 "CoinKeeperModel" "come" none D cy ad A) (hk_54 : I_M_come_54 p l e s m args below meth c D cy A ad o q g_tId g_tOut g_tOuts g_oTx k_54) : I_M_come_105 p l e s m args below meth c D cy A ad o q g_tId g_tOut g_tOuts g_oTx (xb_M_come_105 fu g_tId g_tOut g_tOuts g_oTx k_54) := by
  obtain ⟨hx, hb, hr, hml, hown, hts, hlocks, hK, hA, hSt, hnm, hex⟩ := id F
  intro x1 x2 x3 x4 u0 u1 u2 u3 u4 u5 u6 res hf H locs ls hP hD hS hl
  unfold xb_M_come_105 at hf
  refine lv_aload_n hx hb d_M_come_105 rfl (lv_at hl 0 rfl) ?_
  refine lv_aload_n hx hb d_M_come_106 rfl (lv_at hl 0 rfl) ?_
  refine va_get (D := D) (ci := 12) (v := .ref (q 14)) (C := "CoinKeeperModel") (T := F_12) (N := 98) hx hb hts i_12 hown hK hP 0 rfl rfl 19 (by decide) (hts _ gw_1438) (fun _ h9 => h9) rfl d_M_come_107 ?_
  refine lv_bipush (v := 8) hx hb d_M_come_110 (by decide) ?_
  refine lv_iload_n hx hb d_M_come_112 rfl (lv_at hl 1 rfl) ?_
  refine lv_imul hx hb d_M_come_113 ?_
  refine lv_topi (fun v1 ev => ?_)
  have hf := bn ev hf
  clear ev
  obtain ⟨hg, hf⟩ := gdp hf
  refine va_iald hx hb hK hP 1 1 rfl rfl (inb_in hg) d_M_come_114 ?_
  refine lv_topi (fun v2 ev => ?_)
  have hf := bn ev hf
  clear ev
  refine lv_iload hx hb d_M_come_115 (lv_at hl 4 rfl) ?_
  refine lv_aload_n hx hb d_M_come_117 rfl (lv_at hl 0 rfl) ?_
  refine va_get (D := D) (ci := 12) (v := .ref (q 17)) (C := "CoinKeeperModel") (T := F_12) (N := 98) hx hb hts i_12 hown hK hP 0 rfl rfl 22 (by decide) (hts _ gw_1441) (fun _ h9 => h9) rfl d_M_come_118 ?_
  refine lv_iload_n hx hb d_M_come_121 rfl (lv_at hl 1 rfl) ?_
  obtain ⟨hg, hf⟩ := gdp hf
  refine va_iald hx hb hK hP 2 1 rfl rfl (inb_in hg) d_M_come_122 ?_
  refine lv_topi (fun v3 ev => ?_)
  have hf := bn ev hf
  clear ev
  refine lv_isub hx hb d_M_come_123 ?_
  refine lv_topi (fun v4 ev => ?_)
  have hf := bn ev hf
  clear ev
  obtain ⟨v5, hc, hf⟩ := bdp1 hf
  refine q_ai (wr := [((q 14), .inl (cy 1, 17600, .inl g_tId)), ((q 17), .inl (cy 1, 2200, .inl g_tOut)), ((q 18), .inl (cy 1, 2200, .inl g_tOuts)), ((q 28), .inl (cy 1, 11600, .inl g_oTx)), ((q 29), .inl (cy 1, 11600, .inl u1)), ((q 30), .inl (cy 1, 11600, .inl u2)), ((q 31), .inl (cy 1, 11600, .inl u3)), ((q 32), .inl (cy 1, 32768, .inl u4)), ((q 33), .inl (cy 3, 11600, .inl u5)), ((q 76), .inl (cy 0, 32, .inl u6))]) (va_runV (C := "CoinKeeperModel") (As := [.int v2, .int v4]) (rest := []) ⟨hx, hb, hml, hown, hts⟩ (c_M_placeOf l D cy ad fu o q u0 v2 v4 _ hc H.size) ⟨q_cB hts gw_1856 gw_18 gw_1853 hdm_12 ⟨by decide, by decide⟩, hts _ gw_1855, hts _ gs_89⟩ (q_preV (q_pre (hP.sub [0] rfl) (hD.sub [0] (by decide) rfl) hK hSt hS (va_free hD hS hA [0] rfl) _) (va_recv hK (hP.sub [0] rfl) (ci := 12) (q0 := 0) rfl rfl)) rfl rfl hl.1 rfl (lv_room (Nat.le_of_ble_eq_true rfl)) d_M_come_124 ⟨Nat.le_of_ble_eq_true rfl, Nat.le_of_ble_eq_true rfl⟩) hP hD hS hA [0] [1, 2, 3, 4, 5, 6, 7, 8, 9, 10] rfl rfl (by decide) (by decide) (fun H locs hP hD hS => ?_)
  clear hc
  have hP : va_P D classes [((q 14), .inl (cy 1, 17600, .inl g_tId)), ((q 17), .inl (cy 1, 2200, .inl g_tOut)), ((q 18), .inl (cy 1, 2200, .inl g_tOuts)), ((q 28), .inl (cy 1, 11600, .inl g_oTx)), ((q 29), .inl (cy 1, 11600, .inl u1)), ((q 30), .inl (cy 1, 11600, .inl u2)), ((q 31), .inl (cy 1, 11600, .inl u3)), ((q 32), .inl (cy 1, 32768, .inl u4)), ((q 33), .inl (cy 3, 11600, .inl u5)), ((q 76), .inl (cy 0, 32, .inl u6)), (o, .inr (12, mo q u0))] H := hP
  have hD : va_D A [((q 14), .inl (cy 1, 17600, .inl g_tId)), ((q 17), .inl (cy 1, 2200, .inl g_tOut)), ((q 18), .inl (cy 1, 2200, .inl g_tOuts)), ((q 28), .inl (cy 1, 11600, .inl g_oTx)), ((q 29), .inl (cy 1, 11600, .inl u1)), ((q 30), .inl (cy 1, 11600, .inl u2)), ((q 31), .inl (cy 1, 11600, .inl u3)), ((q 32), .inl (cy 1, 32768, .inl u4)), ((q 33), .inl (cy 3, 11600, .inl u5)), ((q 76), .inl (cy 0, 32, .inl u6)), (o, .inr (12, mo q u0))] := hD
  refine lv_istore (lv' := [(6, .int v5), (0, .ref o), (1, .int x1), (2, .int x2), (3, .int x3), (4, .int x4)]) hx hb d_M_come_127 hl (by decide) rfl (fun ls hl => ?_)
  refine lv_aload_n hx hb d_M_come_129 rfl (lv_at hl 1 rfl) ?_
  refine va_get (D := D) (ci := 12) (v := .ref (q 29)) (C := "CoinKeeperModel") (T := F_12) (N := 98) hx hb hts i_12 hown hK hP 10 rfl rfl 37 (by decide) (hts _ gw_1456) (fun _ h9 => h9) rfl d_M_come_130 ?_
  refine lv_aload_n hx hb d_M_come_133 rfl (lv_at hl 1 rfl) ?_
  refine va_get (D := D) (ci := 12) (v := .int (u0 19)) (C := "CoinKeeperModel") (T := F_12) (N := 98) hx hb hts i_12 hown hK hP 10 rfl rfl 95 (by decide) (hts _ gw_1514) (fun _ h9 => h9) rfl d_M_come_134 ?_
  refine lv_iload hx hb d_M_come_137 (lv_at hl 5 rfl) ?_
  obtain ⟨hg, hf⟩ := gdp hf
  refine va_iast hx hb hK hP hD hS 4 1 rfl rfl (inb_in hg) d_M_come_139 (fun H locs hP hD hS => ?_)
  obtain ⟨f6, ev, hf⟩ := bne hf
  have hP : va_P D classes [((q 14), .inl (cy 1, 17600, .inl g_tId)), ((q 17), .inl (cy 1, 2200, .inl g_tOut)), ((q 18), .inl (cy 1, 2200, .inl g_tOuts)), ((q 28), .inl (cy 1, 11600, .inl g_oTx)), ((q 29), .inl (cy 1, 11600, .inl f6)), ((q 30), .inl (cy 1, 11600, .inl u2)), ((q 31), .inl (cy 1, 11600, .inl u3)), ((q 32), .inl (cy 1, 32768, .inl u4)), ((q 33), .inl (cy 3, 11600, .inl u5)), ((q 76), .inl (cy 0, 32, .inl u6)), (o, .inr (12, mo q u0))] H := by rw [ev]; exact hP
  have hD : va_D A [((q 14), .inl (cy 1, 17600, .inl g_tId)), ((q 17), .inl (cy 1, 2200, .inl g_tOut)), ((q 18), .inl (cy 1, 2200, .inl g_tOuts)), ((q 28), .inl (cy 1, 11600, .inl g_oTx)), ((q 29), .inl (cy 1, 11600, .inl f6)), ((q 30), .inl (cy 1, 11600, .inl u2)), ((q 31), .inl (cy 1, 11600, .inl u3)), ((q 32), .inl (cy 1, 32768, .inl u4)), ((q 33), .inl (cy 3, 11600, .inl u5)), ((q 76), .inl (cy 0, 32, .inl u6)), (o, .inr (12, mo q u0))] := by rw [ev]; exact hD
  clear ev
  refine lv_aload_n hx hb d_M_come_140 rfl (lv_at hl 1 rfl) ?_
  refine va_get (D := D) (ci := 12) (v := .ref (q 30)) (C := "CoinKeeperModel") (T := F_12) (N := 98) hx hb hts i_12 hown hK hP 10 rfl rfl 38 (by decide) (hts _ gw_1457) (fun _ h9 => h9) rfl d_M_come_141 ?_
  refine lv_aload_n hx hb d_M_come_144 rfl (lv_at hl 1 rfl) ?_
  refine va_get (D := D) (ci := 12) (v := .int (u0 19)) (C := "CoinKeeperModel") (T := F_12) (N := 98) hx hb hts i_12 hown hK hP 10 rfl rfl 95 (by decide) (hts _ gw_1514) (fun _ h9 => h9) rfl d_M_come_145 ?_
  refine lv_iload_n hx hb d_M_come_148 rfl (lv_at hl 4 rfl) ?_
  refine lv_if_eq (tgt := 158) hx hb d_M_come_149 (by decide) (fun cx => ?_) (fun cx => ?_)
  · have hf := ifp cx hf
    refine lv_iload_n hx hb d_M_come_158 rfl (lv_at hl 3 rfl) ?_
    exact wb_M_come_159 (fu := fu) F hk_54 _ _ _ _ _ _ _ _ _ _ _ _ _ _ _ hf _ _ _ (hP.sub (ws' := [(o, .inr (12, mo q u0)), ((q 14), .inl (cy 1, 17600, .inl g_tId)), ((q 17), .inl (cy 1, 2200, .inl g_tOut)), ((q 18), .inl (cy 1, 2200, .inl g_tOuts)), ((q 28), .inl (cy 1, 11600, .inl g_oTx)), ((q 29), .inl (cy 1, 11600, .inl f6)), ((q 30), .inl (cy 1, 11600, .inl u2)), ((q 31), .inl (cy 1, 11600, .inl u3)), ((q 32), .inl (cy 1, 32768, .inl u4)), ((q 33), .inl (cy 3, 11600, .inl u5)), ((q 76), .inl (cy 0, 32, .inl u6))]) [10, 0, 1, 2, 3, 4, 5, 6, 7, 8, 9] rfl) (hD.sub (ws' := [(o, .inr (12, mo q u0)), ((q 14), .inl (cy 1, 17600, .inl g_tId)), ((q 17), .inl (cy 1, 2200, .inl g_tOut)), ((q 18), .inl (cy 1, 2200, .inl g_tOuts)), ((q 28), .inl (cy 1, 11600, .inl g_oTx)), ((q 29), .inl (cy 1, 11600, .inl f6)), ((q 30), .inl (cy 1, 11600, .inl u2)), ((q 31), .inl (cy 1, 11600, .inl u3)), ((q 32), .inl (cy 1, 32768, .inl u4)), ((q 33), .inl (cy 3, 11600, .inl u5)), ((q 76), .inl (cy 0, 32, .inl u6))]) [10, 0, 1, 2, 3, 4, 5, 6, 7, 8, 9] (by decide) rfl) hS (lv_sub hl [1, 2, 3, 4, 5, 0] rfl)
  · have hf := ifn cx hf
    refine lv_iconst (v := (-1)) hx hb d_M_come_152 (by decide) ?_
    refine lv_iload_n hx hb d_M_come_153 rfl (lv_at hl 3 rfl) ?_
    refine lv_isub hx hb d_M_come_154 ?_
    refine lv_goto (tgt := 159) hx hb d_M_come_155 (by decide) ?_
    exact wb_M_come_159 (fu := fu) F hk_54 _ _ _ _ _ _ _ _ _ _ _ _ _ _ _ hf _ _ _ (hP.sub (ws' := [(o, .inr (12, mo q u0)), ((q 14), .inl (cy 1, 17600, .inl g_tId)), ((q 17), .inl (cy 1, 2200, .inl g_tOut)), ((q 18), .inl (cy 1, 2200, .inl g_tOuts)), ((q 28), .inl (cy 1, 11600, .inl g_oTx)), ((q 29), .inl (cy 1, 11600, .inl f6)), ((q 30), .inl (cy 1, 11600, .inl u2)), ((q 31), .inl (cy 1, 11600, .inl u3)), ((q 32), .inl (cy 1, 32768, .inl u4)), ((q 33), .inl (cy 3, 11600, .inl u5)), ((q 76), .inl (cy 0, 32, .inl u6))]) [10, 0, 1, 2, 3, 4, 5, 6, 7, 8, 9] rfl) (hD.sub (ws' := [(o, .inr (12, mo q u0)), ((q 14), .inl (cy 1, 17600, .inl g_tId)), ((q 17), .inl (cy 1, 2200, .inl g_tOut)), ((q 18), .inl (cy 1, 2200, .inl g_tOuts)), ((q 28), .inl (cy 1, 11600, .inl g_oTx)), ((q 29), .inl (cy 1, 11600, .inl f6)), ((q 30), .inl (cy 1, 11600, .inl u2)), ((q 31), .inl (cy 1, 11600, .inl u3)), ((q 32), .inl (cy 1, 32768, .inl u4)), ((q 33), .inl (cy 3, 11600, .inl u5)), ((q 76), .inl (cy 0, 32, .inl u6))]) [10, 0, 1, 2, 3, 4, 5, 6, 7, 8, 9] (by decide) rfl) hS (lv_sub hl [1, 2, 3, 4, 5, 0] rfl)
set_option maxHeartbeats 8000000 in
set_option maxRecDepth 100000 in
theorem wb_M_come_54 {p : Program} {l : Launch} {e : Env} {s : State} {m : MethodId} {args : Array Value} {below : List Frame} {meth : Method} {c : Code} {D : va_G} {cy : Nat → ClassId} {A : Nat → Prop} {ad : Nat → Nat} {o : Nat} {q : Nat → Nat} {g_tId : Nat → Int32} {g_tOut : Nat → Int32} {g_tOuts : Nat → Int32} {g_oTx : Nat → Int32} {fu : Nat} {k_54 : Int32 → Int32 → Int32 → Int32 → (Nat → Int32) → (Nat → Int32) → (Nat → Int32) → (Nat → Int32) → (Nat → Int32) → (Nat → Int32) → (Nat → Int32) → Option ((Nat → Int32) × (Nat → Int32) × (Nat → Int32) × (Nat → Int32) × (Nat → Int32) × (Nat → Int32) × (Nat → Int32))} (F : Fx p s m args meth c b_M_come 7 "CoinKeeperModel" "come" none D cy ad A) (hk_54 : I_M_come_54 p l e s m args below meth c D cy A ad o q g_tId g_tOut g_tOuts g_oTx k_54) : I_M_come_54 p l e s m args below meth c D cy A ad o q g_tId g_tOut g_tOuts g_oTx (xb_M_come_54 fu g_tId g_tOut g_tOuts g_oTx k_54) := by
  obtain ⟨hx, hb, hr, hml, hown, hts, hlocks, hK, hA, hSt, hnm, hex⟩ := id F
  intro x1 x2 x3 x4 u0 u1 u2 u3 u4 u5 u6 res hf H locs ls hP hD hS hl
  unfold xb_M_come_54 at hf
  refine lv_iload hx hb d_M_come_54 (lv_at hl 4 rfl) ?_
  refine lv_aload_n hx hb d_M_come_56 rfl (lv_at hl 0 rfl) ?_
  refine va_get (D := D) (ci := 12) (v := .ref (q 17)) (C := "CoinKeeperModel") (T := F_12) (N := 98) hx hb hts i_12 hown hK hP 0 rfl rfl 22 (by decide) (hts _ gw_1441) (fun _ h9 => h9) rfl d_M_come_57 ?_
  refine lv_iload_n hx hb d_M_come_60 rfl (lv_at hl 1 rfl) ?_
  obtain ⟨hg, hf⟩ := gdp hf
  refine va_iald hx hb hK hP 2 1 rfl rfl (inb_in hg) d_M_come_61 ?_
  refine lv_topi (fun v1 ev => ?_)
  have hf := bn ev hf
  clear ev
  refine lv_aload_n hx hb d_M_come_62 rfl (lv_at hl 0 rfl) ?_
  refine va_get (D := D) (ci := 12) (v := .ref (q 18)) (C := "CoinKeeperModel") (T := F_12) (N := 98) hx hb hts i_12 hown hK hP 0 rfl rfl 23 (by decide) (hts _ gw_1442) (fun _ h9 => h9) rfl d_M_come_63 ?_
  refine lv_iload_n hx hb d_M_come_66 rfl (lv_at hl 1 rfl) ?_
  obtain ⟨hg, hf⟩ := gdp hf
  refine va_iald hx hb hK hP 3 1 rfl rfl (inb_in hg) d_M_come_67 ?_
  refine lv_topi (fun v2 ev => ?_)
  have hf := bn ev hf
  clear ev
  refine lv_iadd hx hb d_M_come_68 ?_
  refine lv_icmp_ge (tgt := 213) hx hb d_M_come_69 (by decide) (fun cx => ?_) (fun cx => ?_)
  · have hf := ifp cx hf
    obtain rfl := Option.some.inj hf
    exact q_rv hx hb hr hlocks hK hP hD hS d_M_come_213
  · have hf := ifn cx hf
    refine lv_aload_n hx hb d_M_come_72 rfl (lv_at hl 0 rfl) ?_
    refine lv_aload_n hx hb d_M_come_73 rfl (lv_at hl 0 rfl) ?_
    refine va_get (D := D) (ci := 12) (v := .ref (q 76)) (C := "CoinKeeperModel") (T := F_12) (N := 98) hx hb hts i_12 hown hK hP 0 rfl rfl 96 (by decide) (hts _ gw_1515) (fun _ h9 => h9) rfl d_M_come_74 ?_
    refine lv_iconst (v := 0) hx hb d_M_come_77 (by decide) ?_
    refine lv_iload hx hb d_M_come_78 (lv_at hl 4 rfl) ?_
    refine lv_aload_n hx hb d_M_come_80 rfl (lv_at hl 0 rfl) ?_
    refine va_get (D := D) (ci := 12) (v := .ref (q 17)) (C := "CoinKeeperModel") (T := F_12) (N := 98) hx hb hts i_12 hown hK hP 0 rfl rfl 22 (by decide) (hts _ gw_1441) (fun _ h9 => h9) rfl d_M_come_81 ?_
    refine lv_iload_n hx hb d_M_come_84 rfl (lv_at hl 1 rfl) ?_
    obtain ⟨hg, hf⟩ := gdp hf
    refine va_iald hx hb hK hP 2 1 rfl rfl (inb_in hg) d_M_come_85 ?_
    refine lv_topi (fun v3 ev => ?_)
    have hf := bn ev hf
    clear ev
    refine lv_isub hx hb d_M_come_86 ?_
    refine lv_topi (fun v4 ev => ?_)
    have hf := bn ev hf
    clear ev
    obtain ⟨v5, hc, hf⟩ := bdp1 hf
    refine q_ai (wr := [((q 18), .inl (cy 1, 2200, .inl g_tOuts)), ((q 30), .inl (cy 1, 11600, .inl u2))]) (va_runV (C := "CoinKeeperModel") (As := [.ref (q 76), .int (0 : Int32), .int v4]) (rest := []) ⟨hx, hb, hml, hown, hts⟩ (c_M_entry l D cy ad fu o q (q 76) u0 g_tId g_tOut g_oTx u1 u3 u4 u5 32 u6 (0 : Int32) v4 _ hc H.size) ⟨q_cB hts gw_1852 gw_18 gw_1849 hdm_13 ⟨by decide, by decide⟩, hts _ gw_1851, hts _ gs_88⟩ (q_preV (q_pre (hP.sub [0, 1, 2, 4, 5, 7, 8, 9, 10] rfl) (hD.sub [0, 1, 2, 4, 5, 7, 8, 9, 10] (by decide) rfl) hK hSt hS (va_free hD hS hA [0, 1, 2, 4, 5, 7, 8, 9, 10] rfl) _) (va_recv hK (hP.sub [0, 1, 2, 4, 5, 7, 8, 9, 10] rfl) (ci := 12) (q0 := 0) rfl rfl)) rfl rfl hl.1 rfl (lv_room (Nat.le_of_ble_eq_true rfl)) d_M_come_87 ⟨Nat.le_of_ble_eq_true rfl, Nat.le_of_ble_eq_true rfl⟩) hP hD hS hA [0, 1, 2, 4, 5, 7, 8, 9, 10] [3, 6] rfl rfl (by decide) (by decide) (fun H locs hP hD hS => ?_)
    clear hc
    have hP : va_P D classes [((q 18), .inl (cy 1, 2200, .inl g_tOuts)), ((q 30), .inl (cy 1, 11600, .inl u2)), (o, .inr (12, mo q u0)), ((q 14), .inl (cy 1, 17600, .inl g_tId)), ((q 17), .inl (cy 1, 2200, .inl g_tOut)), ((q 28), .inl (cy 1, 11600, .inl g_oTx)), ((q 29), .inl (cy 1, 11600, .inl u1)), ((q 31), .inl (cy 1, 11600, .inl u3)), ((q 32), .inl (cy 1, 32768, .inl u4)), ((q 33), .inl (cy 3, 11600, .inl u5)), ((q 76), .inl (cy 0, 32, .inl u6))] H := hP
    have hD : va_D A [((q 18), .inl (cy 1, 2200, .inl g_tOuts)), ((q 30), .inl (cy 1, 11600, .inl u2)), (o, .inr (12, mo q u0)), ((q 14), .inl (cy 1, 17600, .inl g_tId)), ((q 17), .inl (cy 1, 2200, .inl g_tOut)), ((q 28), .inl (cy 1, 11600, .inl g_oTx)), ((q 29), .inl (cy 1, 11600, .inl u1)), ((q 31), .inl (cy 1, 11600, .inl u3)), ((q 32), .inl (cy 1, 32768, .inl u4)), ((q 33), .inl (cy 3, 11600, .inl u5)), ((q 76), .inl (cy 0, 32, .inl u6))] := hD
    refine lv_istore (lv' := [(5, .int v5), (0, .ref o), (1, .int x1), (2, .int x2), (3, .int x3), (4, .int x4)]) hx hb d_M_come_90 hl (by decide) rfl (fun ls hl => ?_)
    refine lv_iload hx hb d_M_come_92 (lv_at hl 0 rfl) ?_
    refine lv_if_lt (tgt := 105) hx hb d_M_come_94 (by decide) (fun cx => ?_) (fun cx => ?_)
    · have hf := ifp cx hf
      exact wb_M_come_105 (fu := fu) F hk_54 _ _ _ _ _ _ _ _ _ _ _ _ hf _ _ _ (hP.sub (ws' := [(o, .inr (12, mo q u0)), ((q 14), .inl (cy 1, 17600, .inl g_tId)), ((q 17), .inl (cy 1, 2200, .inl g_tOut)), ((q 18), .inl (cy 1, 2200, .inl g_tOuts)), ((q 28), .inl (cy 1, 11600, .inl g_oTx)), ((q 29), .inl (cy 1, 11600, .inl u1)), ((q 30), .inl (cy 1, 11600, .inl u2)), ((q 31), .inl (cy 1, 11600, .inl u3)), ((q 32), .inl (cy 1, 32768, .inl u4)), ((q 33), .inl (cy 3, 11600, .inl u5)), ((q 76), .inl (cy 0, 32, .inl u6))]) [2, 3, 4, 0, 5, 6, 1, 7, 8, 9, 10] rfl) (hD.sub (ws' := [(o, .inr (12, mo q u0)), ((q 14), .inl (cy 1, 17600, .inl g_tId)), ((q 17), .inl (cy 1, 2200, .inl g_tOut)), ((q 18), .inl (cy 1, 2200, .inl g_tOuts)), ((q 28), .inl (cy 1, 11600, .inl g_oTx)), ((q 29), .inl (cy 1, 11600, .inl u1)), ((q 30), .inl (cy 1, 11600, .inl u2)), ((q 31), .inl (cy 1, 11600, .inl u3)), ((q 32), .inl (cy 1, 32768, .inl u4)), ((q 33), .inl (cy 3, 11600, .inl u5)), ((q 76), .inl (cy 0, 32, .inl u6))]) [2, 3, 4, 0, 5, 6, 1, 7, 8, 9, 10] (by decide) rfl) hS (lv_sub hl [1, 2, 3, 4, 5] rfl)
    · have hf := ifn cx hf
      refine lv_aload_n hx hb d_M_come_97 rfl (lv_at hl 1 rfl) ?_
      refine va_get (D := D) (ci := 12) (v := .ref (q 33)) (C := "CoinKeeperModel") (T := F_12) (N := 98) hx hb hts i_12 hown hK hP 2 rfl rfl 41 (by decide) (hts _ gw_1460) (fun _ h9 => h9) rfl d_M_come_98 ?_
      refine lv_iload hx hb d_M_come_101 (lv_at hl 0 rfl) ?_
      refine lv_iconst (v := 0) hx hb d_M_come_103 (by decide) ?_
      obtain ⟨hg, hf⟩ := gdp hf
      refine va_zast hx hb hK hP hD hS 9 3 rfl rfl (inb_in hg) d_M_come_104 (fun H locs hP hD hS => ?_)
      obtain ⟨f6, ev, hf⟩ := bne hf
      have hP : va_P D classes [((q 18), .inl (cy 1, 2200, .inl g_tOuts)), ((q 30), .inl (cy 1, 11600, .inl u2)), (o, .inr (12, mo q u0)), ((q 14), .inl (cy 1, 17600, .inl g_tId)), ((q 17), .inl (cy 1, 2200, .inl g_tOut)), ((q 28), .inl (cy 1, 11600, .inl g_oTx)), ((q 29), .inl (cy 1, 11600, .inl u1)), ((q 31), .inl (cy 1, 11600, .inl u3)), ((q 32), .inl (cy 1, 32768, .inl u4)), ((q 33), .inl (cy 3, 11600, .inl f6)), ((q 76), .inl (cy 0, 32, .inl u6))] H := by rw [ev]; exact hP
      have hD : va_D A [((q 18), .inl (cy 1, 2200, .inl g_tOuts)), ((q 30), .inl (cy 1, 11600, .inl u2)), (o, .inr (12, mo q u0)), ((q 14), .inl (cy 1, 17600, .inl g_tId)), ((q 17), .inl (cy 1, 2200, .inl g_tOut)), ((q 28), .inl (cy 1, 11600, .inl g_oTx)), ((q 29), .inl (cy 1, 11600, .inl u1)), ((q 31), .inl (cy 1, 11600, .inl u3)), ((q 32), .inl (cy 1, 32768, .inl u4)), ((q 33), .inl (cy 3, 11600, .inl f6)), ((q 76), .inl (cy 0, 32, .inl u6))] := by rw [ev]; exact hD
      clear ev
      exact wb_M_come_105 (fu := fu) F hk_54 _ _ _ _ _ _ _ _ _ _ _ _ hf _ _ _ (hP.sub (ws' := [(o, .inr (12, mo q u0)), ((q 14), .inl (cy 1, 17600, .inl g_tId)), ((q 17), .inl (cy 1, 2200, .inl g_tOut)), ((q 18), .inl (cy 1, 2200, .inl g_tOuts)), ((q 28), .inl (cy 1, 11600, .inl g_oTx)), ((q 29), .inl (cy 1, 11600, .inl u1)), ((q 30), .inl (cy 1, 11600, .inl u2)), ((q 31), .inl (cy 1, 11600, .inl u3)), ((q 32), .inl (cy 1, 32768, .inl u4)), ((q 33), .inl (cy 3, 11600, .inl f6)), ((q 76), .inl (cy 0, 32, .inl u6))]) [2, 3, 4, 0, 5, 6, 1, 7, 8, 9, 10] rfl) (hD.sub (ws' := [(o, .inr (12, mo q u0)), ((q 14), .inl (cy 1, 17600, .inl g_tId)), ((q 17), .inl (cy 1, 2200, .inl g_tOut)), ((q 18), .inl (cy 1, 2200, .inl g_tOuts)), ((q 28), .inl (cy 1, 11600, .inl g_oTx)), ((q 29), .inl (cy 1, 11600, .inl u1)), ((q 30), .inl (cy 1, 11600, .inl u2)), ((q 31), .inl (cy 1, 11600, .inl u3)), ((q 32), .inl (cy 1, 32768, .inl u4)), ((q 33), .inl (cy 3, 11600, .inl f6)), ((q 76), .inl (cy 0, 32, .inl u6))]) [2, 3, 4, 0, 5, 6, 1, 7, 8, 9, 10] (by decide) rfl) hS (lv_sub hl [1, 2, 3, 4, 5] rfl)
theorem w_M_come_54 {p : Program} {l : Launch} {e : Env} {s : State} {m : MethodId} {args : Array Value} {below : List Frame} {meth : Method} {c : Code} {D : va_G} {cy : Nat → ClassId} {A : Nat → Prop} {ad : Nat → Nat} {o : Nat} {q : Nat → Nat} {g_tId : Nat → Int32} {g_tOut : Nat → Int32} {g_tOuts : Nat → Int32} {g_oTx : Nat → Int32} {fu : Nat} (F : Fx p s m args meth c b_M_come 7 "CoinKeeperModel" "come" none D cy ad A) : ∀ n : Nat, I_M_come_54 p l e s m args below meth c D cy A ad o q g_tId g_tOut g_tOuts g_oTx (x_M_come_54 fu g_tId g_tOut g_tOuts g_oTx n)
  | 0 => fun _ _ _ _ _ _ _ _ _ _ _ _ hf => nomatch (show (none : Option ((Nat → Int32) × (Nat → Int32) × (Nat → Int32) × (Nat → Int32) × (Nat → Int32) × (Nat → Int32) × (Nat → Int32))) = some _ from hf)
  | n + 1 => wb_M_come_54 F (w_M_come_54 F n)
set_option maxHeartbeats 8000000 in
set_option maxRecDepth 100000 in
theorem wb_M_come_3 {p : Program} {l : Launch} {e : Env} {s : State} {m : MethodId} {args : Array Value} {below : List Frame} {meth : Method} {c : Code} {D : va_G} {cy : Nat → ClassId} {A : Nat → Prop} {ad : Nat → Nat} {o : Nat} {q : Nat → Nat} {g_tId : Nat → Int32} {g_tOut : Nat → Int32} {g_tOuts : Nat → Int32} {g_oTx : Nat → Int32} {fu : Nat} {k_3 : Int32 → Int32 → Int32 → Int32 → (Nat → Int32) → (Nat → Int32) → (Nat → Int32) → (Nat → Int32) → (Nat → Int32) → (Nat → Int32) → (Nat → Int32) → Option ((Nat → Int32) × (Nat → Int32) × (Nat → Int32) × (Nat → Int32) × (Nat → Int32) × (Nat → Int32) × (Nat → Int32))} (F : Fx p s m args meth c b_M_come 7 "CoinKeeperModel" "come" none D cy ad A) (hk_3 : I_M_come_3 p l e s m args below meth c D cy A ad o q g_tId g_tOut g_tOuts g_oTx k_3) : I_M_come_3 p l e s m args below meth c D cy A ad o q g_tId g_tOut g_tOuts g_oTx (xb_M_come_3 fu g_tId g_tOut g_tOuts g_oTx k_3) := by
  obtain ⟨hx, hb, hr, hml, hown, hts, hlocks, hK, hA, hSt, hnm, hex⟩ := id F
  intro x1 x2 x3 x4 u0 u1 u2 u3 u4 u5 u6 res hf H locs ls hP hD hS hl
  unfold xb_M_come_3 at hf
  refine lv_iload hx hb d_M_come_3 (lv_at hl 4 rfl) ?_
  refine lv_bipush (v := 32) hx hb d_M_come_5 (by decide) ?_
  refine lv_icmp_ge (tgt := 46) hx hb d_M_come_7 (by decide) (fun cx => ?_) (fun cx => ?_)
  · have hf := ifp cx hf
    refine lv_aload_n hx hb d_M_come_46 rfl (lv_at hl 0 rfl) ?_
    refine va_get (D := D) (ci := 12) (v := .ref (q 17)) (C := "CoinKeeperModel") (T := F_12) (N := 98) hx hb hts i_12 hown hK hP 0 rfl rfl 22 (by decide) (hts _ gw_1441) (fun _ h9 => h9) rfl d_M_come_47 ?_
    refine lv_iload_n hx hb d_M_come_50 rfl (lv_at hl 1 rfl) ?_
    obtain ⟨hg, hf⟩ := gdp hf
    refine va_iald hx hb hK hP 2 1 rfl rfl (inb_in hg) d_M_come_51 ?_
    refine lv_topi (fun v1 ev => ?_)
    have hf := bn ev hf
    clear ev
    refine lv_istore (lv' := [(4, .int v1), (0, .ref o), (1, .int x1), (2, .int x2), (3, .int x3)]) hx hb d_M_come_52 hl (by decide) rfl (fun ls hl => ?_)
    exact w_M_come_54 F fu _ _ _ _ _ _ _ _ _ _ _ _ hf _ _ _ hP hD hS (lv_sub hl [1, 2, 3, 4, 0] rfl)
  · have hf := ifn cx hf
    refine lv_aload_n hx hb d_M_come_10 rfl (lv_at hl 0 rfl) ?_
    refine va_get (D := D) (ci := 12) (v := .ref (q 76)) (C := "CoinKeeperModel") (T := F_12) (N := 98) hx hb hts i_12 hown hK hP 0 rfl rfl 96 (by decide) (hts _ gw_1515) (fun _ h9 => h9) rfl d_M_come_11 ?_
    refine lv_iload hx hb d_M_come_14 (lv_at hl 4 rfl) ?_
    refine lv_aload_n hx hb d_M_come_16 rfl (lv_at hl 0 rfl) ?_
    refine va_get (D := D) (ci := 12) (v := .ref (q 14)) (C := "CoinKeeperModel") (T := F_12) (N := 98) hx hb hts i_12 hown hK hP 0 rfl rfl 19 (by decide) (hts _ gw_1438) (fun _ h9 => h9) rfl d_M_come_17 ?_
    refine lv_bipush (v := 8) hx hb d_M_come_20 (by decide) ?_
    refine lv_iload_n hx hb d_M_come_22 rfl (lv_at hl 1 rfl) ?_
    refine lv_imul hx hb d_M_come_23 ?_
    refine lv_topi (fun v2 ev => ?_)
    have hf := bn ev hf
    clear ev
    refine lv_iload hx hb d_M_come_24 (lv_at hl 4 rfl) ?_
    refine lv_iconst (v := 4) hx hb d_M_come_26 (by decide) ?_
    refine lv_idiv hx hb d_M_come_27 (by decide) ?_
    refine lv_iadd hx hb d_M_come_28 ?_
    refine lv_topi (fun v3 ev => ?_)
    have hf := bn ev hf
    clear ev
    obtain ⟨hg, hf⟩ := gdp hf
    refine va_iald hx hb hK hP 1 1 rfl rfl (inb_in hg) d_M_come_29 ?_
    refine lv_topi (fun v4 ev => ?_)
    have hf := bn ev hf
    clear ev
    refine lv_bipush (v := 8) hx hb d_M_come_30 (by decide) ?_
    refine lv_iload hx hb d_M_come_32 (lv_at hl 4 rfl) ?_
    refine lv_iconst (v := 4) hx hb d_M_come_34 (by decide) ?_
    refine lv_irem hx hb d_M_come_35 (by decide) ?_
    refine lv_imul hx hb d_M_come_36 ?_
    refine lv_ishr hx hb d_M_come_37 ?_
    refine lv_i2b hx hb d_M_come_38 rfl ?_
    refine lv_topi (fun v5 ev => ?_)
    have hf := bn ev hf
    clear ev
    obtain ⟨hg, hf⟩ := gdp hf
    refine va_bast hx hb hK hP hD hS 10 0 rfl rfl (inb_in hg) d_M_come_39 (fun H locs hP hD hS => ?_)
    obtain ⟨f6, ev, hf⟩ := bne hf
    have hP : va_P D classes [(o, .inr (12, mo q u0)), ((q 14), .inl (cy 1, 17600, .inl g_tId)), ((q 17), .inl (cy 1, 2200, .inl g_tOut)), ((q 18), .inl (cy 1, 2200, .inl g_tOuts)), ((q 28), .inl (cy 1, 11600, .inl g_oTx)), ((q 29), .inl (cy 1, 11600, .inl u1)), ((q 30), .inl (cy 1, 11600, .inl u2)), ((q 31), .inl (cy 1, 11600, .inl u3)), ((q 32), .inl (cy 1, 32768, .inl u4)), ((q 33), .inl (cy 3, 11600, .inl u5)), ((q 76), .inl (cy 0, 32, .inl f6))] H := by rw [ev]; exact hP
    have hD : va_D A [(o, .inr (12, mo q u0)), ((q 14), .inl (cy 1, 17600, .inl g_tId)), ((q 17), .inl (cy 1, 2200, .inl g_tOut)), ((q 18), .inl (cy 1, 2200, .inl g_tOuts)), ((q 28), .inl (cy 1, 11600, .inl g_oTx)), ((q 29), .inl (cy 1, 11600, .inl u1)), ((q 30), .inl (cy 1, 11600, .inl u2)), ((q 31), .inl (cy 1, 11600, .inl u3)), ((q 32), .inl (cy 1, 32768, .inl u4)), ((q 33), .inl (cy 3, 11600, .inl u5)), ((q 76), .inl (cy 0, 32, .inl f6))] := by rw [ev]; exact hD
    clear ev
    obtain ⟨v7, ev, hf⟩ := bne hf
    refine lv_iinc (v := v7) (lv' := [(4, .int v7), (0, .ref o), (1, .int x1), (2, .int x2), (3, .int x3)]) hx hb d_M_come_40 hl (k := 4) rfl (by rw [ev]; rfl) (by decide) rfl (fun ls hl => ?_)
    clear ev
    refine lv_goto (tgt := 3) hx hb d_M_come_43 (by decide) ?_
    exact hk_3 _ _ _ _ _ _ _ _ _ _ _ _ hf _ _ _ hP hD hS (lv_sub hl [1, 2, 3, 4, 0] rfl)
theorem w_M_come_3 {p : Program} {l : Launch} {e : Env} {s : State} {m : MethodId} {args : Array Value} {below : List Frame} {meth : Method} {c : Code} {D : va_G} {cy : Nat → ClassId} {A : Nat → Prop} {ad : Nat → Nat} {o : Nat} {q : Nat → Nat} {g_tId : Nat → Int32} {g_tOut : Nat → Int32} {g_tOuts : Nat → Int32} {g_oTx : Nat → Int32} {fu : Nat} (F : Fx p s m args meth c b_M_come 7 "CoinKeeperModel" "come" none D cy ad A) : ∀ n : Nat, I_M_come_3 p l e s m args below meth c D cy A ad o q g_tId g_tOut g_tOuts g_oTx (x_M_come_3 fu g_tId g_tOut g_tOuts g_oTx n)
  | 0 => fun _ _ _ _ _ _ _ _ _ _ _ _ hf => nomatch (show (none : Option ((Nat → Int32) × (Nat → Int32) × (Nat → Int32) × (Nat → Int32) × (Nat → Int32) × (Nat → Int32) × (Nat → Int32))) = some _ from hf)
  | n + 1 => wb_M_come_3 F (w_M_come_3 F n)
set_option maxHeartbeats 8000000 in
set_option maxRecDepth 100000 in
theorem we_M_come {p : Program} {l : Launch} {e : Env} {s : State} {m : MethodId} {args : Array Value} {below : List Frame} {meth : Method} {c : Code} {D : va_G} {cy : Nat → ClassId} {A : Nat → Prop} {ad : Nat → Nat} {o : Nat} {q : Nat → Nat} {g_tId : Nat → Int32} {g_tOut : Nat → Int32} {g_tOuts : Nat → Int32} {g_oTx : Nat → Int32} {fu : Nat} (F : Fx p s m args meth c b_M_come 7 "CoinKeeperModel" "come" none D cy ad A) : I_M_come_e p l e s m args below meth c D cy A ad o q g_tId g_tOut g_tOuts g_oTx (x_M_come fu g_tId g_tOut g_tOuts g_oTx) := by
  obtain ⟨hx, hb, hr, hml, hown, hts, hlocks, hK, hA, hSt, hnm, hex⟩ := id F
  intro a1 a2 a3 u0 u1 u2 u3 u4 u5 u6 res hf H locs ls hP hD hS hl
  unfold x_M_come at hf
  refine lv_iconst (v := 0) hx hb d_M_come_0 (by decide) ?_
  refine lv_istore (lv' := [(4, .int (0 : Int32)), (0, .ref o), (1, .int a1), (2, .int a2), (3, .int a3)]) hx hb d_M_come_1 hl (by decide) rfl (fun ls hl => ?_)
  exact w_M_come_3 F fu _ _ _ _ _ _ _ _ _ _ _ _ hf _ _ _ hP hD hS (lv_sub hl [1, 2, 3, 4, 0] rfl)
theorem c_M_come (l : Launch) (D : va_G) (cy : Nat → ClassId) (ad : Nat → Nat) (fu : Nat) (o : Nat) (q : Nat → Nat) (g_tId : Nat → Int32) (g_tOut : Nat → Int32) (g_tOuts : Nat → Int32) (g_oTx : Nat → Int32) (a1 : Int32) (a2 : Int32) (a3 : Int32) (u0 : Nat → Int32) (u1 : Nat → Int32) (u2 : Nat → Int32) (u3 : Nat → Int32) (u4 : Nat → Int32) (u5 : Nat → Int32) (u6 : Nat → Int32) (res : (Nat → Int32) × (Nat → Int32) × (Nat → Int32) × (Nat → Int32) × (Nat → Int32) × (Nat → Int32) × (Nat → Int32)) (hf : x_M_come fu g_tId g_tOut g_tOuts g_oTx a1 a2 a3 u0 u1 u2 u3 u4 u5 u6 = some res) (sz : Nat) : Met l ({ cls := "CoinKeeperModel", name := "come", desc := "(IIZ)V" } : Jvm.MethodName) (.code ({ cls := "CoinKeeperModel", name := "come", desc := "(IIZ)V" } : Jvm.MethodName) b_M_come 7 none :: gw) rm_M_come (va_Pc [.ref o, .int a1, .int a2, .int a3] (Pr D cy ad [(o, .inr (12, mo q u0)), ((q 14), .inl (cy 1, 17600, .inl g_tId)), ((q 17), .inl (cy 1, 2200, .inl g_tOut)), ((q 18), .inl (cy 1, 2200, .inl g_tOuts)), ((q 28), .inl (cy 1, 11600, .inl g_oTx)), ((q 29), .inl (cy 1, 11600, .inl u1)), ((q 30), .inl (cy 1, 11600, .inl u2)), ((q 31), .inl (cy 1, 11600, .inl u3)), ((q 32), .inl (cy 1, 32768, .inl u4)), ((q 33), .inl (cy 3, 11600, .inl u5)), ((q 76), .inl (cy 0, 32, .inl u6))] sz)) (q_M_come D cy (va_A [(o, .inr (12, mo q u0)), ((q 14), .inl (cy 1, 17600, .inl g_tId)), ((q 17), .inl (cy 1, 2200, .inl g_tOut)), ((q 18), .inl (cy 1, 2200, .inl g_tOuts)), ((q 28), .inl (cy 1, 11600, .inl g_oTx)), ((q 29), .inl (cy 1, 11600, .inl u1)), ((q 30), .inl (cy 1, 11600, .inl u2)), ((q 31), .inl (cy 1, 11600, .inl u3)), ((q 32), .inl (cy 1, 32768, .inl u4)), ((q 33), .inl (cy 3, 11600, .inl u5)), ((q 76), .inl (cy 0, 32, .inl u6))] sz) o q g_tId g_tOut g_tOuts g_oTx res) 0 0 (va_A [(o, .inr (12, mo q u0)), ((q 14), .inl (cy 1, 17600, .inl g_tId)), ((q 17), .inl (cy 1, 2200, .inl g_tOut)), ((q 18), .inl (cy 1, 2200, .inl g_tOuts)), ((q 28), .inl (cy 1, 11600, .inl g_oTx)), ((q 29), .inl (cy 1, 11600, .inl u1)), ((q 30), .inl (cy 1, 11600, .inl u2)), ((q 31), .inl (cy 1, 11600, .inl u3)), ((q 32), .inl (cy 1, 32768, .inl u4)), ((q 33), .inl (cy 3, 11600, .inl u5)), ((q 76), .inl (cy 0, 32, .inl u6))] sz) :=
  q_met (Qc := fun A => q_M_come D cy A o q g_tId g_tOut g_tOuts g_oTx res) (by decide) rfl rfl (Nat.le_of_ble_eq_true rfl) (fun p e s m below meth c ls F hP hD hS hl => we_M_come (fu := fu) F a1 a2 a3 u0 u1 u2 u3 u4 u5 u6 res hf _ _ _ hP hD hS hl) sz
