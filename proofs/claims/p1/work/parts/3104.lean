abbrev b_M_script : ByteArray := prog_14_method_85_code
theorem d_M_script_0 : decode b_M_script 0 = .ok (.aload_n 0, 1) := by decide +kernel
theorem d_M_script_1 : decode b_M_script 1 = .ok (.iload_n 1, 1) := by decide +kernel
theorem d_M_script_2 : decode b_M_script 2 = .ok (.ifCond .lt 30, 3) := by decide +kernel
theorem d_M_script_5 : decode b_M_script 5 = .ok (.iload_n 1, 1) := by decide +kernel
theorem d_M_script_6 : decode b_M_script 6 = .ok (.aload_n 0, 1) := by decide +kernel
theorem d_M_script_7 : decode b_M_script 7 = .ok (.getfield 656, 3) := by decide +kernel
theorem d_M_script_10 : decode b_M_script 10 = .ok (.if_icmp .gt 22, 3) := by decide +kernel
theorem d_M_script_13 : decode b_M_script 13 = .ok (.iload_n 1, 1) := by decide +kernel
theorem d_M_script_14 : decode b_M_script 14 = .ok (.sipush 1000, 3) := by decide +kernel
theorem d_M_script_17 : decode b_M_script 17 = .ok (.if_icmp .gt 15, 3) := by decide +kernel
theorem d_M_script_20 : decode b_M_script 20 = .ok (.aload_n 0, 1) := by decide +kernel
theorem d_M_script_21 : decode b_M_script 21 = .ok (.getfield 656, 3) := by decide +kernel
theorem d_M_script_24 : decode b_M_script 24 = .ok (.iload_n 1, 1) := by decide +kernel
theorem d_M_script_25 : decode b_M_script 25 = .ok (.isub, 1) := by decide +kernel
theorem d_M_script_26 : decode b_M_script 26 = .ok (.sipush 1000, 3) := by decide +kernel
theorem d_M_script_29 : decode b_M_script 29 = .ok (.if_icmp .le 7, 3) := by decide +kernel
theorem d_M_script_32 : decode b_M_script 32 = .ok (.iconst 1, 1) := by decide +kernel
theorem d_M_script_33 : decode b_M_script 33 = .ok (.goto 4, 3) := by decide +kernel
theorem d_M_script_36 : decode b_M_script 36 = .ok (.iconst 0, 1) := by decide +kernel
theorem d_M_script_37 : decode b_M_script 37 = .ok (.putfield 268, 3) := by decide +kernel
theorem d_M_script_40 : decode b_M_script 40 = .ok (.aload_n 0, 1) := by decide +kernel
theorem d_M_script_41 : decode b_M_script 41 = .ok (.getfield 268, 3) := by decide +kernel
theorem d_M_script_44 : decode b_M_script 44 = .ok (.ifCond .le 5, 3) := by decide +kernel
theorem d_M_script_47 : decode b_M_script 47 = .ok (.iconst 0, 1) := by decide +kernel
theorem d_M_script_48 : decode b_M_script 48 = .ok (.ireturn, 1) := by decide +kernel
theorem d_M_script_49 : decode b_M_script 49 = .ok (.aload_n 0, 1) := by decide +kernel
theorem d_M_script_50 : decode b_M_script 50 = .ok (.getfield 656, 3) := by decide +kernel
theorem d_M_script_53 : decode b_M_script 53 = .ok (.iload_n 1, 1) := by decide +kernel
theorem d_M_script_54 : decode b_M_script 54 = .ok (.isub, 1) := by decide +kernel
theorem d_M_script_55 : decode b_M_script 55 = .ok (.istore_n 2, 1) := by decide +kernel
theorem d_M_script_56 : decode b_M_script 56 = .ok (.aload_n 0, 1) := by decide +kernel
theorem d_M_script_57 : decode b_M_script 57 = .ok (.iconst 0, 1) := by decide +kernel
theorem d_M_script_58 : decode b_M_script 58 = .ok (.putfield 656, 3) := by decide +kernel
theorem d_M_script_61 : decode b_M_script 61 = .ok (.aload_n 0, 1) := by decide +kernel
theorem d_M_script_62 : decode b_M_script 62 = .ok (.iconst (-1), 1) := by decide +kernel
theorem d_M_script_63 : decode b_M_script 63 = .ok (.putfield 513, 3) := by decide +kernel
theorem d_M_script_66 : decode b_M_script 66 = .ok (.aload_n 0, 1) := by decide +kernel
theorem d_M_script_67 : decode b_M_script 67 = .ok (.aload_n 0, 1) := by decide +kernel
theorem d_M_script_68 : decode b_M_script 68 = .ok (.getfield 9, 3) := by decide +kernel
theorem d_M_script_71 : decode b_M_script 71 = .ok (.iconst 0, 1) := by decide +kernel
theorem d_M_script_72 : decode b_M_script 72 = .ok (.iload_n 1, 1) := by decide +kernel
theorem d_M_script_73 : decode b_M_script 73 = .ok (.iload_n 1, 1) := by decide +kernel
theorem d_M_script_74 : decode b_M_script 74 = .ok (.iload_n 2, 1) := by decide +kernel
theorem d_M_script_75 : decode b_M_script 75 = .ok (.invokevirtual 647, 3) := by decide +kernel
theorem d_M_script_78 : decode b_M_script 78 = .ok (.ireturn, 1) := by decide +kernel
abbrev rm_M_script : Room := { frames := 2, cells := 0, slots := 0, locals := 53 }
abbrev q_M_script (D : va_G) (cy : Nat → ClassId) (A : Nat → Prop) (o : Nat) (q : Nat → Nat) (g_row : Nat → Int32) (res : Int32 × (Nat → Int32)) : Array Value → State → Outcome → State → Prop := va_Qi (fun r' (_ : Unit) => r' = res.1) (fun _ t => Po D cy A [(o, .inr (12, mo q res.2)), ((q 0), .inl (cy 0, 3000, .inl g_row))] t) A
def I_M_script_37 (p : Program) (l : Launch) (e : Env) (s : State) (m : MethodId) (args : Array Value) (below : List Frame) (meth : Method) (c : Code) (D : va_G) (cy : Nat → ClassId) (A : Nat → Prop) (ad : Nat → Nat) (o : Nat) (q : Nat → Nat) (g_row : Nat → Int32) (k : Int32 → Int32 → (Nat → Int32) → Option (Int32 × (Nat → Int32))) : Prop :=
  ∀ (x1 : Int32) (y0 : Int32) (u0 : Nat → Int32) (res : Int32 × (Nat → Int32)), k x1 y0 u0 = some res → ∀ (H : Heap) (locs : List Loc) (ls : Array Slot), va_P D classes [(o, .inr (12, mo q u0)), ((q 0), .inl (cy 0, 3000, .inl g_row))] H → va_D A [(o, .inr (12, mo q u0)), ((q 0), .inl (cy 0, 3000, .inl g_row))] → va_S A s.heap H locs → lv_has ls 3 [(0, .ref o), (1, .int x1)] → W p l e rm_M_script s m args below meth c H locs 0 0 (MQ below (q_M_script D cy A o q g_row res) args s 0 0 A) (F0 m 37 ls [.int y0, .ref o])
def I_M_script_32 (p : Program) (l : Launch) (e : Env) (s : State) (m : MethodId) (args : Array Value) (below : List Frame) (meth : Method) (c : Code) (D : va_G) (cy : Nat → ClassId) (A : Nat → Prop) (ad : Nat → Nat) (o : Nat) (q : Nat → Nat) (g_row : Nat → Int32) (k : Int32 → (Nat → Int32) → Option (Int32 × (Nat → Int32))) : Prop :=
  ∀ (x1 : Int32) (u0 : Nat → Int32) (res : Int32 × (Nat → Int32)), k x1 u0 = some res → ∀ (H : Heap) (locs : List Loc) (ls : Array Slot), va_P D classes [(o, .inr (12, mo q u0)), ((q 0), .inl (cy 0, 3000, .inl g_row))] H → va_D A [(o, .inr (12, mo q u0)), ((q 0), .inl (cy 0, 3000, .inl g_row))] → va_S A s.heap H locs → lv_has ls 3 [(0, .ref o), (1, .int x1)] → W p l e rm_M_script s m args below meth c H locs 0 0 (MQ below (q_M_script D cy A o q g_row res) args s 0 0 A) (F0 m 32 ls [.ref o])
def I_M_script_e (p : Program) (l : Launch) (e : Env) (s : State) (m : MethodId) (args : Array Value) (below : List Frame) (meth : Method) (c : Code) (D : va_G) (cy : Nat → ClassId) (A : Nat → Prop) (ad : Nat → Nat) (o : Nat) (q : Nat → Nat) (g_row : Nat → Int32) (k : Int32 → (Nat → Int32) → Option (Int32 × (Nat → Int32))) : Prop :=
  ∀ (a1 : Int32) (u0 : Nat → Int32) (res : Int32 × (Nat → Int32)), k a1 u0 = some res → ∀ (H : Heap) (locs : List Loc) (ls : Array Slot), va_P D classes [(o, .inr (12, mo q u0)), ((q 0), .inl (cy 0, 3000, .inl g_row))] H → va_D A [(o, .inr (12, mo q u0)), ((q 0), .inl (cy 0, 3000, .inl g_row))] → va_S A s.heap H locs → lv_has ls 3 [(0, .ref o), (1, .int a1)] → W p l e rm_M_script s m args below meth c H locs 0 0 (MQ below (q_M_script D cy A o q g_row res) args s 0 0 A) (F0 m 0 ls [])
theorem hdb_15 : ({ cls := "CoinKeeperModel", name := "isTrue", desc := "([BIIII)Z" } : Jvm.MethodName).cls ≠ "java/lang/invoke/MethodHandle" ∧ ({ cls := "CoinKeeperModel", name := "isTrue", desc := "([BIIII)Z" } : Jvm.MethodName).cls ≠ "java/lang/invoke/VarHandle" ∧ (parseMethodDescriptor ({ cls := "CoinKeeperModel", name := "isTrue", desc := "([BIIII)Z" } : Jvm.MethodName).desc).map (fun d => d.parameters.length) = some 5 := by decide +kernel
def xb_M_script_37 (fu : Nat) (g_row : Nat → Int32) (x1 : Int32) (y0 : Int32) (u0 : Nat → Int32) : Option (Int32 × (Nat → Int32)) :=
  bnd (upd u0 2 y0) fun z1 => if (z1 2) ≤ 0 then (bnd ((z1 0) - x1) fun v2 => bnd (upd z1 0 (0 : Int32)) fun z3 => bnd (upd z3 12 (-1 : Int32)) fun z4 => bd2 (x_M_isTrue0 fu 3000 g_row (0 : Int32) x1 x1 v2 z4) fun v5 f6 => gd (isb v5) <| some (v5, f6)) else (some ((0 : Int32), z1))
set_option maxHeartbeats 8000000 in
set_option maxRecDepth 100000 in
theorem wb_M_script_37 {p : Program} {l : Launch} {e : Env} {s : State} {m : MethodId} {args : Array Value} {below : List Frame} {meth : Method} {c : Code} {D : va_G} {cy : Nat → ClassId} {A : Nat → Prop} {ad : Nat → Nat} {o : Nat} {q : Nat → Nat} {g_row : Nat → Int32} {fu : Nat} (F : Fx p s m args meth c b_M_script 3 "CoinKeeperModel" "script" (some .boolean) D cy ad A) : I_M_script_37 p l e s m args below meth c D cy A ad o q g_row (xb_M_script_37 fu g_row) := by
  obtain ⟨hx, hb, hr, hml, hown, hts, hlocks, hK, hA, hSt, hnm, hex⟩ := id F
  intro x1 y0 u0 res hf H locs ls hP hD hS hl
  unfold xb_M_script_37 at hf
  refine va_put (D := D) (ci := 12) (v := .int y0) (ty := .int) (C := "CoinKeeperModel") (T := F_12) (N := 98) hx hb hts i_12 t_12 t_12_ok n_12 hown hK hP hD hS 0 rfl rfl 4 (by decide) (hts _ gw_1423) (fun _ h9 => h9) rfl (by decide +kernel) rfl rfl (Nat.le_of_ble_eq_true rfl) d_M_script_37 (fun H locs hP hD hS => ?_)
  obtain ⟨z1, ev, hf⟩ := bne hf
  have hP : va_P D classes [(o, .inr (12, mo q z1)), ((q 0), .inl (cy 0, 3000, .inl g_row))] H := by rw [ev]; exact hP
  have hD : va_D A [(o, .inr (12, mo q z1)), ((q 0), .inl (cy 0, 3000, .inl g_row))] := by rw [ev]; exact hD
  clear ev
  refine lv_aload_n hx hb d_M_script_40 rfl (lv_at hl 0 rfl) ?_
  refine va_get (D := D) (ci := 12) (v := .int (z1 2)) (C := "CoinKeeperModel") (T := F_12) (N := 98) hx hb hts i_12 hown hK hP 0 rfl rfl 4 (by decide) (hts _ gw_1423) (fun _ h9 => h9) rfl d_M_script_41 ?_
  refine lv_if_le (tgt := 49) hx hb d_M_script_44 (by decide) (fun cx => ?_) (fun cx => ?_)
  · have hf := ifp cx hf
    refine lv_aload_n hx hb d_M_script_49 rfl (lv_at hl 0 rfl) ?_
    refine va_get (D := D) (ci := 12) (v := .int (z1 0)) (C := "CoinKeeperModel") (T := F_12) (N := 98) hx hb hts i_12 hown hK hP 0 rfl rfl 2 (by decide) (hts _ gw_1421) (fun _ h9 => h9) rfl d_M_script_50 ?_
    refine lv_iload_n hx hb d_M_script_53 rfl (lv_at hl 1 rfl) ?_
    refine lv_isub hx hb d_M_script_54 ?_
    refine lv_topi (fun v2 ev => ?_)
    have hf := bn ev hf
    clear ev
    refine lv_istore_n (lv' := [(2, .int v2), (0, .ref o), (1, .int x1)]) hx hb d_M_script_55 rfl hl (by decide) rfl (fun ls hl => ?_)
    refine lv_aload_n hx hb d_M_script_56 rfl (lv_at hl 1 rfl) ?_
    refine lv_iconst (v := 0) hx hb d_M_script_57 (by decide) ?_
    refine va_put (D := D) (ci := 12) (v := .int (0 : Int32)) (ty := .int) (C := "CoinKeeperModel") (T := F_12) (N := 98) hx hb hts i_12 t_12 t_12_ok n_12 hown hK hP hD hS 0 rfl rfl 2 (by decide) (hts _ gw_1421) (fun _ h9 => h9) rfl (by decide +kernel) rfl rfl (Nat.le_of_ble_eq_true rfl) d_M_script_58 (fun H locs hP hD hS => ?_)
    obtain ⟨z3, ev, hf⟩ := bne hf
    have hP : va_P D classes [(o, .inr (12, mo q z3)), ((q 0), .inl (cy 0, 3000, .inl g_row))] H := by rw [ev]; exact hP
    have hD : va_D A [(o, .inr (12, mo q z3)), ((q 0), .inl (cy 0, 3000, .inl g_row))] := by rw [ev]; exact hD
    clear ev
    refine lv_aload_n hx hb d_M_script_61 rfl (lv_at hl 1 rfl) ?_
    refine lv_iconst (v := (-1)) hx hb d_M_script_62 (by decide) ?_
    refine va_put (D := D) (ci := 12) (v := .int (-1 : Int32)) (ty := .int) (C := "CoinKeeperModel") (T := F_12) (N := 98) hx hb hts i_12 t_12 t_12_ok n_12 hown hK hP hD hS 0 rfl rfl 83 (by decide) (hts _ gw_1502) (fun _ h9 => h9) rfl (by decide +kernel) rfl rfl (Nat.le_of_ble_eq_true rfl) d_M_script_63 (fun H locs hP hD hS => ?_)
    obtain ⟨z4, ev, hf⟩ := bne hf
    have hP : va_P D classes [(o, .inr (12, mo q z4)), ((q 0), .inl (cy 0, 3000, .inl g_row))] H := by rw [ev]; exact hP
    have hD : va_D A [(o, .inr (12, mo q z4)), ((q 0), .inl (cy 0, 3000, .inl g_row))] := by rw [ev]; exact hD
    clear ev
    refine lv_aload_n hx hb d_M_script_66 rfl (lv_at hl 1 rfl) ?_
    refine lv_aload_n hx hb d_M_script_67 rfl (lv_at hl 1 rfl) ?_
    refine va_get (D := D) (ci := 12) (v := .ref (q 0)) (C := "CoinKeeperModel") (T := F_12) (N := 98) hx hb hts i_12 hown hK hP 0 rfl rfl 0 (by decide) (hts _ gw_1419) (fun _ h9 => h9) rfl d_M_script_68 ?_
    refine lv_iconst (v := 0) hx hb d_M_script_71 (by decide) ?_
    refine lv_iload_n hx hb d_M_script_72 rfl (lv_at hl 2 rfl) ?_
    refine lv_iload_n hx hb d_M_script_73 rfl (lv_at hl 2 rfl) ?_
    refine lv_iload_n hx hb d_M_script_74 rfl (lv_at hl 0 rfl) ?_
    obtain ⟨v5, f6, hc, hf⟩ := bdp2 hf
    refine q_ai (wr := []) (va_runV (C := "CoinKeeperModel") (As := [.ref (q 0), .int (0 : Int32), .int x1, .int x1, .int v2]) (rest := []) ⟨hx, hb, hml, hown, hts⟩ (c_M_isTrue0 l D cy ad fu o q (q 0) 3000 g_row (0 : Int32) x1 x1 v2 z4 _ hc H.size) ⟨q_cB hts gw_1865 gw_18 gw_1862 hdb_15 ⟨by decide, by decide⟩, hts _ gw_1864, hts _ gs_91⟩ (q_preV (q_pre (hP.sub [0, 1] rfl) (hD.sub [0, 1] (by decide) rfl) hK hSt hS (va_free hD hS hA [0, 1] rfl) _) (va_recv hK (hP.sub [0, 1] rfl) (ci := 12) (q0 := 0) rfl rfl)) rfl rfl hl.1 rfl (lv_room (Nat.le_of_ble_eq_true rfl)) d_M_script_75 ⟨Nat.le_of_ble_eq_true rfl, Nat.le_of_ble_eq_true rfl⟩) hP hD hS hA [0, 1] [] rfl rfl (by decide) (by decide) (fun H locs hP hD hS => ?_)
    clear hc
    have hP : va_P D classes [(o, .inr (12, mo q f6)), ((q 0), .inl (cy 0, 3000, .inl g_row))] H := hP
    have hD : va_D A [(o, .inr (12, mo q f6)), ((q 0), .inl (cy 0, 3000, .inl g_row))] := hD
    obtain ⟨hg, hf⟩ := gdp hf
    obtain rfl := Option.some.inj hf
    exact q_rz hx hb hr hlocks hK hP hD hS (isb_n hg) d_M_script_78
  · have hf := ifn cx hf
    refine lv_iconst (v := 0) hx hb d_M_script_47 (by decide) ?_
    obtain rfl := Option.some.inj hf
    exact q_rz hx hb hr hlocks hK hP hD hS (isb_n (v := 0) (by decide)) d_M_script_48
def xb_M_script_32 (fu : Nat) (g_row : Nat → Int32) (x1 : Int32) (u0 : Nat → Int32) : Option (Int32 × (Nat → Int32)) :=
  xb_M_script_37 fu g_row x1 (1 : Int32) u0
set_option maxHeartbeats 8000000 in
set_option maxRecDepth 100000 in
theorem wb_M_script_32 {p : Program} {l : Launch} {e : Env} {s : State} {m : MethodId} {args : Array Value} {below : List Frame} {meth : Method} {c : Code} {D : va_G} {cy : Nat → ClassId} {A : Nat → Prop} {ad : Nat → Nat} {o : Nat} {q : Nat → Nat} {g_row : Nat → Int32} {fu : Nat} (F : Fx p s m args meth c b_M_script 3 "CoinKeeperModel" "script" (some .boolean) D cy ad A) : I_M_script_32 p l e s m args below meth c D cy A ad o q g_row (xb_M_script_32 fu g_row) := by
  obtain ⟨hx, hb, hr, hml, hown, hts, hlocks, hK, hA, hSt, hnm, hex⟩ := id F
  intro x1 u0 res hf H locs ls hP hD hS hl
  unfold xb_M_script_32 at hf
  refine lv_iconst (v := 1) hx hb d_M_script_32 (by decide) ?_
  refine lv_goto (tgt := 37) hx hb d_M_script_33 (by decide) ?_
  exact wb_M_script_37 (fu := fu) F _ _ _ _ hf _ _ _ hP hD hS (lv_sub hl [0, 1] rfl)
def x_M_script (fu : Nat) (g_row : Nat → Int32) (a1 : Int32) (u0 : Nat → Int32) : Option (Int32 × (Nat → Int32)) :=
  if a1 < 0 then (xb_M_script_32 fu g_row a1 u0) else (if (u0 0) < a1 then (xb_M_script_32 fu g_row a1 u0) else (if (1000 : Int32) < a1 then (xb_M_script_32 fu g_row a1 u0) else (bnd ((u0 0) - a1) fun v1 => if v1 ≤ (1000 : Int32) then (xb_M_script_37 fu g_row a1 (0 : Int32) u0) else (xb_M_script_32 fu g_row a1 u0))))
set_option maxHeartbeats 8000000 in
set_option maxRecDepth 100000 in
theorem we_M_script {p : Program} {l : Launch} {e : Env} {s : State} {m : MethodId} {args : Array Value} {below : List Frame} {meth : Method} {c : Code} {D : va_G} {cy : Nat → ClassId} {A : Nat → Prop} {ad : Nat → Nat} {o : Nat} {q : Nat → Nat} {g_row : Nat → Int32} {fu : Nat} (F : Fx p s m args meth c b_M_script 3 "CoinKeeperModel" "script" (some .boolean) D cy ad A) : I_M_script_e p l e s m args below meth c D cy A ad o q g_row (x_M_script fu g_row) := by
  obtain ⟨hx, hb, hr, hml, hown, hts, hlocks, hK, hA, hSt, hnm, hex⟩ := id F
  intro a1 u0 res hf H locs ls hP hD hS hl
  unfold x_M_script at hf
  refine lv_aload_n hx hb d_M_script_0 rfl (lv_at hl 0 rfl) ?_
  refine lv_iload_n hx hb d_M_script_1 rfl (lv_at hl 1 rfl) ?_
  refine lv_if_lt (tgt := 32) hx hb d_M_script_2 (by decide) (fun cx => ?_) (fun cx => ?_)
  · have hf := ifp cx hf
    exact wb_M_script_32 (fu := fu) F _ _ _ hf _ _ _ hP hD hS (lv_sub hl [0, 1] rfl)
  · have hf := ifn cx hf
    refine lv_iload_n hx hb d_M_script_5 rfl (lv_at hl 1 rfl) ?_
    refine lv_aload_n hx hb d_M_script_6 rfl (lv_at hl 0 rfl) ?_
    refine va_get (D := D) (ci := 12) (v := .int (u0 0)) (C := "CoinKeeperModel") (T := F_12) (N := 98) hx hb hts i_12 hown hK hP 0 rfl rfl 2 (by decide) (hts _ gw_1421) (fun _ h9 => h9) rfl d_M_script_7 ?_
    refine lv_icmp_gt (tgt := 32) hx hb d_M_script_10 (by decide) (fun cx => ?_) (fun cx => ?_)
    · have hf := ifp cx hf
      exact wb_M_script_32 (fu := fu) F _ _ _ hf _ _ _ hP hD hS (lv_sub hl [0, 1] rfl)
    · have hf := ifn cx hf
      refine lv_iload_n hx hb d_M_script_13 rfl (lv_at hl 1 rfl) ?_
      refine lv_sipush (v := 1000) hx hb d_M_script_14 (by decide) ?_
      refine lv_icmp_gt (tgt := 32) hx hb d_M_script_17 (by decide) (fun cx => ?_) (fun cx => ?_)
      · have hf := ifp cx hf
        exact wb_M_script_32 (fu := fu) F _ _ _ hf _ _ _ hP hD hS (lv_sub hl [0, 1] rfl)
      · have hf := ifn cx hf
        refine lv_aload_n hx hb d_M_script_20 rfl (lv_at hl 0 rfl) ?_
        refine va_get (D := D) (ci := 12) (v := .int (u0 0)) (C := "CoinKeeperModel") (T := F_12) (N := 98) hx hb hts i_12 hown hK hP 0 rfl rfl 2 (by decide) (hts _ gw_1421) (fun _ h9 => h9) rfl d_M_script_21 ?_
        refine lv_iload_n hx hb d_M_script_24 rfl (lv_at hl 1 rfl) ?_
        refine lv_isub hx hb d_M_script_25 ?_
        refine lv_topi (fun v1 ev => ?_)
        have hf := bn ev hf
        clear ev
        refine lv_sipush (v := 1000) hx hb d_M_script_26 (by decide) ?_
        refine lv_icmp_le (tgt := 36) hx hb d_M_script_29 (by decide) (fun cx => ?_) (fun cx => ?_)
        · have hf := ifp cx hf
          refine lv_iconst (v := 0) hx hb d_M_script_36 (by decide) ?_
          exact wb_M_script_37 (fu := fu) F _ _ _ _ hf _ _ _ hP hD hS (lv_sub hl [0, 1] rfl)
        · have hf := ifn cx hf
          exact wb_M_script_32 (fu := fu) F _ _ _ hf _ _ _ hP hD hS (lv_sub hl [0, 1] rfl)
theorem c_M_script (l : Launch) (D : va_G) (cy : Nat → ClassId) (ad : Nat → Nat) (fu : Nat) (o : Nat) (q : Nat → Nat) (g_row : Nat → Int32) (a1 : Int32) (u0 : Nat → Int32) (res : Int32 × (Nat → Int32)) (hf : x_M_script fu g_row a1 u0 = some res) (sz : Nat) : Met l ({ cls := "CoinKeeperModel", name := "script", desc := "(I)Z" } : Jvm.MethodName) (.code ({ cls := "CoinKeeperModel", name := "script", desc := "(I)Z" } : Jvm.MethodName) b_M_script 3 (some .boolean) :: gw) rm_M_script (va_Pc [.ref o, .int a1] (Pr D cy ad [(o, .inr (12, mo q u0)), ((q 0), .inl (cy 0, 3000, .inl g_row))] sz)) (q_M_script D cy (va_A [(o, .inr (12, mo q u0)), ((q 0), .inl (cy 0, 3000, .inl g_row))] sz) o q g_row res) 0 0 (va_A [(o, .inr (12, mo q u0)), ((q 0), .inl (cy 0, 3000, .inl g_row))] sz) :=
  q_met (Qc := fun A => q_M_script D cy A o q g_row res) (by decide) rfl rfl (Nat.le_of_ble_eq_true rfl) (fun p e s m below meth c ls F hP hD hS hl => we_M_script (fu := fu) F a1 u0 res hf _ _ _ hP hD hS hl) sz
abbrev b_M_get : ByteArray := prog_14_method_59_code
theorem d_M_get_0 : decode b_M_get 0 = .ok (.iload_n 1, 1) := by decide +kernel
theorem d_M_get_1 : decode b_M_get 1 = .ok (.aload_n 0, 1) := by decide +kernel
theorem d_M_get_2 : decode b_M_get 2 = .ok (.getfield 540, 3) := by decide +kernel
theorem d_M_get_5 : decode b_M_get 5 = .ok (.aload_n 0, 1) := by decide +kernel
theorem d_M_get_6 : decode b_M_get 6 = .ok (.getfield 543, 3) := by decide +kernel
theorem d_M_get_9 : decode b_M_get 9 = .ok (.isub, 1) := by decide +kernel
theorem d_M_get_10 : decode b_M_get 10 = .ok (.if_icmp .le 18, 3) := by decide +kernel
theorem d_M_get_13 : decode b_M_get 13 = .ok (.aload_n 0, 1) := by decide +kernel
theorem d_M_get_14 : decode b_M_get 14 = .ok (.iconst 1, 1) := by decide +kernel
theorem d_M_get_15 : decode b_M_get 15 = .ok (.putfield 546, 3) := by decide +kernel
theorem d_M_get_18 : decode b_M_get 18 = .ok (.aload_n 0, 1) := by decide +kernel
theorem d_M_get_19 : decode b_M_get 19 = .ok (.aload_n 0, 1) := by decide +kernel
theorem d_M_get_20 : decode b_M_get 20 = .ok (.getfield 540, 3) := by decide +kernel
theorem d_M_get_23 : decode b_M_get 23 = .ok (.putfield 543, 3) := by decide +kernel
theorem d_M_get_26 : decode b_M_get 26 = .ok (.lconst 0, 1) := by decide +kernel
theorem d_M_get_27 : decode b_M_get 27 = .ok (.lreturn, 1) := by decide +kernel
theorem d_M_get_28 : decode b_M_get 28 = .ok (.lconst 0, 1) := by decide +kernel
theorem d_M_get_29 : decode b_M_get 29 = .ok (.lstore_n 2, 1) := by decide +kernel
theorem d_M_get_30 : decode b_M_get 30 = .ok (.iload_n 1, 1) := by decide +kernel
theorem d_M_get_31 : decode b_M_get 31 = .ok (.iconst 1, 1) := by decide +kernel
theorem d_M_get_32 : decode b_M_get 32 = .ok (.isub, 1) := by decide +kernel
theorem d_M_get_33 : decode b_M_get 33 = .ok (.istore 4, 2) := by decide +kernel
theorem d_M_get_35 : decode b_M_get 35 = .ok (.iload 4, 2) := by decide +kernel
theorem d_M_get_37 : decode b_M_get 37 = .ok (.ifCond .lt 32, 3) := by decide +kernel
theorem d_M_get_40 : decode b_M_get 40 = .ok (.lload_n 2, 1) := by decide +kernel
theorem d_M_get_41 : decode b_M_get 41 = .ok (.bipush 8, 2) := by decide +kernel
theorem d_M_get_43 : decode b_M_get 43 = .ok (.lshl, 1) := by decide +kernel
theorem d_M_get_44 : decode b_M_get 44 = .ok (.aload_n 0, 1) := by decide +kernel
theorem d_M_get_45 : decode b_M_get 45 = .ok (.getfield 14, 3) := by decide +kernel
theorem d_M_get_48 : decode b_M_get 48 = .ok (.aload_n 0, 1) := by decide +kernel
theorem d_M_get_49 : decode b_M_get 49 = .ok (.getfield 543, 3) := by decide +kernel
theorem d_M_get_52 : decode b_M_get 52 = .ok (.iload 4, 2) := by decide +kernel
theorem d_M_get_54 : decode b_M_get 54 = .ok (.iadd, 1) := by decide +kernel
theorem d_M_get_55 : decode b_M_get 55 = .ok (.baload, 1) := by decide +kernel
theorem d_M_get_56 : decode b_M_get 56 = .ok (.sipush 255, 3) := by decide +kernel
theorem d_M_get_59 : decode b_M_get 59 = .ok (.iand, 1) := by decide +kernel
theorem d_M_get_60 : decode b_M_get 60 = .ok (.i2l, 1) := by decide +kernel
theorem d_M_get_61 : decode b_M_get 61 = .ok (.lor, 1) := by decide +kernel
theorem d_M_get_62 : decode b_M_get 62 = .ok (.lstore_n 2, 1) := by decide +kernel
theorem d_M_get_63 : decode b_M_get 63 = .ok (.iinc 4 (-1), 3) := by decide +kernel
theorem d_M_get_66 : decode b_M_get 66 = .ok (.goto (-31), 3) := by decide +kernel
theorem d_M_get_69 : decode b_M_get 69 = .ok (.aload_n 0, 1) := by decide +kernel
theorem d_M_get_70 : decode b_M_get 70 = .ok (.dup, 1) := by decide +kernel
theorem d_M_get_71 : decode b_M_get 71 = .ok (.getfield 543, 3) := by decide +kernel
theorem d_M_get_74 : decode b_M_get 74 = .ok (.iload_n 1, 1) := by decide +kernel
theorem d_M_get_75 : decode b_M_get 75 = .ok (.iadd, 1) := by decide +kernel
theorem d_M_get_76 : decode b_M_get 76 = .ok (.putfield 543, 3) := by decide +kernel
theorem d_M_get_79 : decode b_M_get 79 = .ok (.lload_n 2, 1) := by decide +kernel
theorem d_M_get_80 : decode b_M_get 80 = .ok (.lreturn, 1) := by decide +kernel
abbrev rm_M_get : Room := { frames := 0, cells := 0, slots := 0, locals := 0 }
abbrev q_M_get (D : va_G) (cy : Nat → ClassId) (A : Nat → Prop) (o : Nat) (q : Nat → Nat) (g_store : Nat → Int32) (res : Int64 × (Nat → Int32)) : Array Value → State → Outcome → State → Prop := va_Ql (fun r' (_ : Unit) => r' = res.1) (fun _ t => Po D cy A [(o, .inr (12, mo q res.2)), ((q 1), .inl (cy 0, 103000, .inl g_store))] t) A
def I_M_get_35 (p : Program) (l : Launch) (e : Env) (s : State) (m : MethodId) (args : Array Value) (below : List Frame) (meth : Method) (c : Code) (D : va_G) (cy : Nat → ClassId) (A : Nat → Prop) (ad : Nat → Nat) (o : Nat) (q : Nat → Nat) (g_store : Nat → Int32) (k : Int32 → Int64 → Int32 → (Nat → Int32) → Option (Int64 × (Nat → Int32))) : Prop :=
  ∀ (x1 : Int32) (x2 : Int64) (x4 : Int32) (u0 : Nat → Int32) (res : Int64 × (Nat → Int32)), k x1 x2 x4 u0 = some res → ∀ (H : Heap) (locs : List Loc) (ls : Array Slot), va_P D classes [(o, .inr (12, mo q u0)), ((q 1), .inl (cy 0, 103000, .inl g_store))] H → va_D A [(o, .inr (12, mo q u0)), ((q 1), .inl (cy 0, 103000, .inl g_store))] → va_S A s.heap H locs → lv_has ls 5 [(0, .ref o), (1, .int x1), (2, .long x2), (4, .int x4)] → W p l e rm_M_get s m args below meth c H locs 0 0 (MQ below (q_M_get D cy A o q g_store res) args s 0 0 A) (F0 m 35 ls [])
def I_M_get_e (p : Program) (l : Launch) (e : Env) (s : State) (m : MethodId) (args : Array Value) (below : List Frame) (meth : Method) (c : Code) (D : va_G) (cy : Nat → ClassId) (A : Nat → Prop) (ad : Nat → Nat) (o : Nat) (q : Nat → Nat) (g_store : Nat → Int32) (k : Int32 → (Nat → Int32) → Option (Int64 × (Nat → Int32))) : Prop :=
  ∀ (a1 : Int32) (u0 : Nat → Int32) (res : Int64 × (Nat → Int32)), k a1 u0 = some res → ∀ (H : Heap) (locs : List Loc) (ls : Array Slot), va_P D classes [(o, .inr (12, mo q u0)), ((q 1), .inl (cy 0, 103000, .inl g_store))] H → va_D A [(o, .inr (12, mo q u0)), ((q 1), .inl (cy 0, 103000, .inl g_store))] → va_S A s.heap H locs → lv_has ls 5 [(0, .ref o), (1, .int a1)] → W p l e rm_M_get s m args below meth c H locs 0 0 (MQ below (q_M_get D cy A o q g_store res) args s 0 0 A) (F0 m 0 ls [])
def xb_M_get_35 (fu : Nat) (g_store : Nat → Int32) (k_35 : Int32 → Int64 → Int32 → (Nat → Int32) → Option (Int64 × (Nat → Int32))) (x1 : Int32) (x2 : Int64) (x4 : Int32) (u0 : Nat → Int32) : Option (Int64 × (Nat → Int32)) :=
  if x4 < 0 then (bnd ((u0 16) + x1) fun v1 => bnd (upd u0 16 v1) fun z2 => some (x2, z2)) else (bnd (x2 <<< ((8 : Int32).toInt64 &&& 63)) fun v3 => bnd ((u0 16) + x4) fun v4 => gd (inb v4 103000) <| bnd (g_store v4.toNatClampNeg) fun v5 => bnd (v3 ||| ((v5 &&& (255 : Int32)).toInt64)) fun v6 => bnd (x4 + (-1 : Int32)) fun v7 => k_35 x1 v6 v7 u0)
set_option maxHeartbeats 8000000 in
set_option maxRecDepth 100000 in
theorem wb_M_get_35 {p : Program} {l : Launch} {e : Env} {s : State} {m : MethodId} {args : Array Value} {below : List Frame} {meth : Method} {c : Code} {D : va_G} {cy : Nat → ClassId} {A : Nat → Prop} {ad : Nat → Nat} {o : Nat} {q : Nat → Nat} {g_store : Nat → Int32} {fu : Nat} {k_35 : Int32 → Int64 → Int32 → (Nat → Int32) → Option (Int64 × (Nat → Int32))} (F : Fx p s m args meth c b_M_get 5 "CoinKeeperModel" "get" (some .long) D cy ad A) (hk_35 : I_M_get_35 p l e s m args below meth c D cy A ad o q g_store k_35) : I_M_get_35 p l e s m args below meth c D cy A ad o q g_store (xb_M_get_35 fu g_store k_35) := by
  obtain ⟨hx, hb, hr, hml, hown, hts, hlocks, hK, hA, hSt, hnm, hex⟩ := id F
  intro x1 x2 x4 u0 res hf H locs ls hP hD hS hl
  unfold xb_M_get_35 at hf
  refine lv_iload hx hb d_M_get_35 (lv_at hl 3 rfl) ?_
  refine lv_if_lt (tgt := 69) hx hb d_M_get_37 (by decide) (fun cx => ?_) (fun cx => ?_)
  · have hf := ifp cx hf
    refine lv_aload_n hx hb d_M_get_69 rfl (lv_at hl 0 rfl) ?_
    refine lv_dup hx hb d_M_get_70 rfl ?_
    refine va_get (D := D) (ci := 12) (v := .int (u0 16)) (C := "CoinKeeperModel") (T := F_12) (N := 98) hx hb hts i_12 hown hK hP 0 rfl rfl 89 (by decide) (hts _ gw_1508) (fun _ h9 => h9) rfl d_M_get_71 ?_
    refine lv_iload_n hx hb d_M_get_74 rfl (lv_at hl 1 rfl) ?_
    refine lv_iadd hx hb d_M_get_75 ?_
    refine lv_topi (fun v1 ev => ?_)
    have hf := bn ev hf
    clear ev
    refine va_put (D := D) (ci := 12) (v := .int v1) (ty := .int) (C := "CoinKeeperModel") (T := F_12) (N := 98) hx hb hts i_12 t_12 t_12_ok n_12 hown hK hP hD hS 0 rfl rfl 89 (by decide) (hts _ gw_1508) (fun _ h9 => h9) rfl (by decide +kernel) rfl rfl (Nat.le_of_ble_eq_true rfl) d_M_get_76 (fun H locs hP hD hS => ?_)
    obtain ⟨z2, ev, hf⟩ := bne hf
    have hP : va_P D classes [(o, .inr (12, mo q z2)), ((q 1), .inl (cy 0, 103000, .inl g_store))] H := by rw [ev]; exact hP
    have hD : va_D A [(o, .inr (12, mo q z2)), ((q 1), .inl (cy 0, 103000, .inl g_store))] := by rw [ev]; exact hD
    clear ev
    refine lv_lload_n hx hb d_M_get_79 rfl (lv_at hl 2 rfl) ?_
    obtain rfl := Option.some.inj hf
    exact q_rl hx hb hr hlocks hK hP hD hS d_M_get_80
  · have hf := ifn cx hf
    refine lv_lload_n hx hb d_M_get_40 rfl (lv_at hl 2 rfl) ?_
    refine lv_bipush (v := 8) hx hb d_M_get_41 (by decide) ?_
    refine lv_lshl hx hb d_M_get_43 rfl ?_
    refine lv_topl (fun v3 ev => ?_)
    have hf := bn ev hf
    clear ev
    refine lv_aload_n hx hb d_M_get_44 rfl (lv_at hl 0 rfl) ?_
    refine va_get (D := D) (ci := 12) (v := .ref (q 1)) (C := "CoinKeeperModel") (T := F_12) (N := 98) hx hb hts i_12 hown hK hP 0 rfl rfl 1 (by decide) (hts _ gw_1420) (fun _ h9 => h9) rfl d_M_get_45 ?_
    refine lv_aload_n hx hb d_M_get_48 rfl (lv_at hl 0 rfl) ?_
    refine va_get (D := D) (ci := 12) (v := .int (u0 16)) (C := "CoinKeeperModel") (T := F_12) (N := 98) hx hb hts i_12 hown hK hP 0 rfl rfl 89 (by decide) (hts _ gw_1508) (fun _ h9 => h9) rfl d_M_get_49 ?_
    refine lv_iload hx hb d_M_get_52 (lv_at hl 3 rfl) ?_
    refine lv_iadd hx hb d_M_get_54 ?_
    refine lv_topi (fun v4 ev => ?_)
    have hf := bn ev hf
    clear ev
    obtain ⟨hg, hf⟩ := gdp hf
    refine va_bald hx hb hK hP 1 0 rfl rfl (inb_in hg) d_M_get_55 ?_
    refine lv_topi (fun v5 ev => ?_)
    have hf := bn ev hf
    clear ev
    refine lv_sipush (v := 255) hx hb d_M_get_56 (by decide) ?_
    refine lv_iand hx hb d_M_get_59 ?_
    refine lv_i2l hx hb d_M_get_60 rfl ?_
    refine lv_lor hx hb d_M_get_61 ?_
    refine lv_topl (fun v6 ev => ?_)
    have hf := bn ev hf
    clear ev
    refine lv_lstore_n (lv' := [(2, .long v6), (0, .ref o), (1, .int x1), (4, .int x4)]) hx hb d_M_get_62 rfl hl (by decide) rfl (fun ls hl => ?_)
    obtain ⟨v7, ev, hf⟩ := bne hf
    refine lv_iinc (v := v7) (lv' := [(4, .int v7), (2, .long v6), (0, .ref o), (1, .int x1)]) hx hb d_M_get_63 hl (k := 3) rfl (by rw [ev]; rfl) (by decide) rfl (fun ls hl => ?_)
    clear ev
    refine lv_goto (tgt := 35) hx hb d_M_get_66 (by decide) ?_
    exact hk_35 _ _ _ _ _ hf _ _ _ hP hD hS (lv_sub hl [2, 3, 1, 0] rfl)
def x_M_get_35 (fu : Nat) (g_store : Nat → Int32) : Nat → Int32 → Int64 → Int32 → (Nat → Int32) → Option (Int64 × (Nat → Int32))
  | 0 => fun _ _ _ _ => none
  | n + 1 => xb_M_get_35 fu g_store (x_M_get_35 fu g_store n)
theorem w_M_get_35 {p : Program} {l : Launch} {e : Env} {s : State} {m : MethodId} {args : Array Value} {below : List Frame} {meth : Method} {c : Code} {D : va_G} {cy : Nat → ClassId} {A : Nat → Prop} {ad : Nat → Nat} {o : Nat} {q : Nat → Nat} {g_store : Nat → Int32} {fu : Nat} (F : Fx p s m args meth c b_M_get 5 "CoinKeeperModel" "get" (some .long) D cy ad A) : ∀ n : Nat, I_M_get_35 p l e s m args below meth c D cy A ad o q g_store (x_M_get_35 fu g_store n)
  | 0 => fun _ _ _ _ _ hf => nomatch (show (none : Option (Int64 × (Nat → Int32))) = some _ from hf)
  | n + 1 => wb_M_get_35 F (w_M_get_35 F n)
def x_M_get (fu : Nat) (g_store : Nat → Int32) (a1 : Int32) (u0 : Nat → Int32) : Option (Int64 × (Nat → Int32)) :=
  if a1 ≤ ((u0 17) - (u0 16)) then (bnd (a1 - (1 : Int32)) fun v1 => x_M_get_35 fu g_store fu a1 (0 : Int64) v1 u0) else (bnd (upd u0 18 (1 : Int32)) fun z2 => bnd (upd z2 16 (z2 17)) fun z3 => some ((0 : Int64), z3))
set_option maxHeartbeats 8000000 in
set_option maxRecDepth 100000 in
theorem we_M_get {p : Program} {l : Launch} {e : Env} {s : State} {m : MethodId} {args : Array Value} {below : List Frame} {meth : Method} {c : Code} {D : va_G} {cy : Nat → ClassId} {A : Nat → Prop} {ad : Nat → Nat} {o : Nat} {q : Nat → Nat} {g_store : Nat → Int32} {fu : Nat} (F : Fx p s m args meth c b_M_get 5 "CoinKeeperModel" "get" (some .long) D cy ad A) : I_M_get_e p l e s m args below meth c D cy A ad o q g_store (x_M_get fu g_store) := by
  obtain ⟨hx, hb, hr, hml, hown, hts, hlocks, hK, hA, hSt, hnm, hex⟩ := id F
  intro a1 u0 res hf H locs ls hP hD hS hl
  unfold x_M_get at hf
  refine lv_iload_n hx hb d_M_get_0 rfl (lv_at hl 1 rfl) ?_
  refine lv_aload_n hx hb d_M_get_1 rfl (lv_at hl 0 rfl) ?_
  refine va_get (D := D) (ci := 12) (v := .int (u0 17)) (C := "CoinKeeperModel") (T := F_12) (N := 98) hx hb hts i_12 hown hK hP 0 rfl rfl 90 (by decide) (hts _ gw_1509) (fun _ h9 => h9) rfl d_M_get_2 ?_
  refine lv_aload_n hx hb d_M_get_5 rfl (lv_at hl 0 rfl) ?_
  refine va_get (D := D) (ci := 12) (v := .int (u0 16)) (C := "CoinKeeperModel") (T := F_12) (N := 98) hx hb hts i_12 hown hK hP 0 rfl rfl 89 (by decide) (hts _ gw_1508) (fun _ h9 => h9) rfl d_M_get_6 ?_
  refine lv_isub hx hb d_M_get_9 ?_
  refine lv_icmp_le (tgt := 28) hx hb d_M_get_10 (by decide) (fun cx => ?_) (fun cx => ?_)
  · have hf := ifp cx hf
    refine lv_lconst (v := 0) hx hb d_M_get_28 (by decide) ?_
    refine lv_lstore_n (lv' := [(2, .long (0 : Int64)), (0, .ref o), (1, .int a1)]) hx hb d_M_get_29 rfl hl (by decide) rfl (fun ls hl => ?_)
    refine lv_iload_n hx hb d_M_get_30 rfl (lv_at hl 2 rfl) ?_
    refine lv_iconst (v := 1) hx hb d_M_get_31 (by decide) ?_
    refine lv_isub hx hb d_M_get_32 ?_
    refine lv_topi (fun v1 ev => ?_)
    have hf := bn ev hf
    clear ev
    refine lv_istore (lv' := [(4, .int v1), (2, .long (0 : Int64)), (0, .ref o), (1, .int a1)]) hx hb d_M_get_33 hl (by decide) rfl (fun ls hl => ?_)
    exact w_M_get_35 F fu _ _ _ _ _ hf _ _ _ hP hD hS (lv_sub hl [2, 3, 1, 0] rfl)
  · have hf := ifn cx hf
    refine lv_aload_n hx hb d_M_get_13 rfl (lv_at hl 0 rfl) ?_
    refine lv_iconst (v := 1) hx hb d_M_get_14 (by decide) ?_
    refine va_put (D := D) (ci := 12) (v := .int (1 : Int32)) (ty := .boolean) (C := "CoinKeeperModel") (T := F_12) (N := 98) hx hb hts i_12 t_12 t_12_ok n_12 hown hK hP hD hS 0 rfl rfl 91 (by decide) (hts _ gw_1510) (fun _ h9 => h9) rfl (by decide +kernel) (isb_n (v := 1) (by decide)) (isb_f (v := 1) (by decide)) (Nat.le_of_ble_eq_true rfl) d_M_get_15 (fun H locs hP hD hS => ?_)
    obtain ⟨z2, ev, hf⟩ := bne hf
    have hP : va_P D classes [(o, .inr (12, mo q z2)), ((q 1), .inl (cy 0, 103000, .inl g_store))] H := by rw [ev]; exact hP
    have hD : va_D A [(o, .inr (12, mo q z2)), ((q 1), .inl (cy 0, 103000, .inl g_store))] := by rw [ev]; exact hD
    clear ev
    refine lv_aload_n hx hb d_M_get_18 rfl (lv_at hl 0 rfl) ?_
    refine lv_aload_n hx hb d_M_get_19 rfl (lv_at hl 0 rfl) ?_
    refine va_get (D := D) (ci := 12) (v := .int (z2 17)) (C := "CoinKeeperModel") (T := F_12) (N := 98) hx hb hts i_12 hown hK hP 0 rfl rfl 90 (by decide) (hts _ gw_1509) (fun _ h9 => h9) rfl d_M_get_20 ?_
    refine va_put (D := D) (ci := 12) (v := .int (z2 17)) (ty := .int) (C := "CoinKeeperModel") (T := F_12) (N := 98) hx hb hts i_12 t_12 t_12_ok n_12 hown hK hP hD hS 0 rfl rfl 89 (by decide) (hts _ gw_1508) (fun _ h9 => h9) rfl (by decide +kernel) rfl rfl (Nat.le_of_ble_eq_true rfl) d_M_get_23 (fun H locs hP hD hS => ?_)
    obtain ⟨z3, ev, hf⟩ := bne hf
    have hP : va_P D classes [(o, .inr (12, mo q z3)), ((q 1), .inl (cy 0, 103000, .inl g_store))] H := by rw [ev]; exact hP
    have hD : va_D A [(o, .inr (12, mo q z3)), ((q 1), .inl (cy 0, 103000, .inl g_store))] := by rw [ev]; exact hD
    clear ev
    refine lv_lconst (v := 0) hx hb d_M_get_26 (by decide) ?_
    obtain rfl := Option.some.inj hf
    exact q_rl hx hb hr hlocks hK hP hD hS d_M_get_27
theorem c_M_get (l : Launch) (D : va_G) (cy : Nat → ClassId) (ad : Nat → Nat) (fu : Nat) (o : Nat) (q : Nat → Nat) (g_store : Nat → Int32) (a1 : Int32) (u0 : Nat → Int32) (res : Int64 × (Nat → Int32)) (hf : x_M_get fu g_store a1 u0 = some res) (sz : Nat) : Met l ({ cls := "CoinKeeperModel", name := "get", desc := "(I)J" } : Jvm.MethodName) (.code ({ cls := "CoinKeeperModel", name := "get", desc := "(I)J" } : Jvm.MethodName) b_M_get 5 (some .long) :: gw) rm_M_get (va_Pc [.ref o, .int a1] (Pr D cy ad [(o, .inr (12, mo q u0)), ((q 1), .inl (cy 0, 103000, .inl g_store))] sz)) (q_M_get D cy (va_A [(o, .inr (12, mo q u0)), ((q 1), .inl (cy 0, 103000, .inl g_store))] sz) o q g_store res) 0 0 (va_A [(o, .inr (12, mo q u0)), ((q 1), .inl (cy 0, 103000, .inl g_store))] sz) :=
  q_met (Qc := fun A => q_M_get D cy A o q g_store res) (by decide) rfl rfl (Nat.le_of_ble_eq_true rfl) (fun p e s m below meth c ls F hP hD hS hl => we_M_get (fu := fu) F a1 u0 res hf _ _ _ hP hD hS hl) sz
abbrev b_M_skip : ByteArray := prog_14_method_61_code
theorem d_M_skip_0 : decode b_M_skip 0 = .ok (.lload_n 1, 1) := by decide +kernel
theorem d_M_skip_1 : decode b_M_skip 1 = .ok (.lconst 0, 1) := by decide +kernel
theorem d_M_skip_2 : decode b_M_skip 2 = .ok (.lcmp, 1) := by decide +kernel
theorem d_M_skip_3 : decode b_M_skip 3 = .ok (.ifCond .lt 18, 3) := by decide +kernel
theorem d_M_skip_6 : decode b_M_skip 6 = .ok (.lload_n 1, 1) := by decide +kernel
theorem d_M_skip_7 : decode b_M_skip 7 = .ok (.aload_n 0, 1) := by decide +kernel
theorem d_M_skip_8 : decode b_M_skip 8 = .ok (.getfield 540, 3) := by decide +kernel
theorem d_M_skip_11 : decode b_M_skip 11 = .ok (.aload_n 0, 1) := by decide +kernel
theorem d_M_skip_12 : decode b_M_skip 12 = .ok (.getfield 543, 3) := by decide +kernel
theorem d_M_skip_15 : decode b_M_skip 15 = .ok (.isub, 1) := by decide +kernel
theorem d_M_skip_16 : decode b_M_skip 16 = .ok (.i2l, 1) := by decide +kernel
theorem d_M_skip_17 : decode b_M_skip 17 = .ok (.lcmp, 1) := by decide +kernel
theorem d_M_skip_18 : decode b_M_skip 18 = .ok (.ifCond .le 11, 3) := by decide +kernel
theorem d_M_skip_21 : decode b_M_skip 21 = .ok (.aload_n 0, 1) := by decide +kernel
theorem d_M_skip_22 : decode b_M_skip 22 = .ok (.iconst 1, 1) := by decide +kernel
theorem d_M_skip_23 : decode b_M_skip 23 = .ok (.putfield 546, 3) := by decide +kernel
theorem d_M_skip_26 : decode b_M_skip 26 = .ok (.goto 14, 3) := by decide +kernel
theorem d_M_skip_29 : decode b_M_skip 29 = .ok (.aload_n 0, 1) := by decide +kernel
theorem d_M_skip_30 : decode b_M_skip 30 = .ok (.dup, 1) := by decide +kernel
theorem d_M_skip_31 : decode b_M_skip 31 = .ok (.getfield 543, 3) := by decide +kernel
theorem d_M_skip_34 : decode b_M_skip 34 = .ok (.lload_n 1, 1) := by decide +kernel
theorem d_M_skip_35 : decode b_M_skip 35 = .ok (.l2i, 1) := by decide +kernel
theorem d_M_skip_36 : decode b_M_skip 36 = .ok (.iadd, 1) := by decide +kernel
theorem d_M_skip_37 : decode b_M_skip 37 = .ok (.putfield 543, 3) := by decide +kernel
theorem d_M_skip_40 : decode b_M_skip 40 = .ok (.return_, 1) := by decide +kernel
abbrev rm_M_skip : Room := { frames := 0, cells := 0, slots := 0, locals := 0 }
abbrev q_M_skip (D : va_G) (cy : Nat → ClassId) (A : Nat → Prop) (o : Nat) (q : Nat → Nat) (res : (Nat → Int32)) : Array Value → State → Outcome → State → Prop := va_Qv (fun (_ : Unit) => True) (fun _ t => Po D cy A [(o, .inr (12, mo q res))] t) A
def I_M_skip_21 (p : Program) (l : Launch) (e : Env) (s : State) (m : MethodId) (args : Array Value) (below : List Frame) (meth : Method) (c : Code) (D : va_G) (cy : Nat → ClassId) (A : Nat → Prop) (ad : Nat → Nat) (o : Nat) (q : Nat → Nat) (k : (Nat → Int32) → Option ((Nat → Int32))) : Prop :=
  ∀ (u0 : Nat → Int32) (res : (Nat → Int32)), k u0 = some res → ∀ (H : Heap) (locs : List Loc) (ls : Array Slot), va_P D classes [(o, .inr (12, mo q u0))] H → va_D A [(o, .inr (12, mo q u0))] → va_S A s.heap H locs → lv_has ls 3 [(0, .ref o)] → W p l e rm_M_skip s m args below meth c H locs 0 0 (MQ below (q_M_skip D cy A o q res) args s 0 0 A) (F0 m 21 ls [])
def I_M_skip_e (p : Program) (l : Launch) (e : Env) (s : State) (m : MethodId) (args : Array Value) (below : List Frame) (meth : Method) (c : Code) (D : va_G) (cy : Nat → ClassId) (A : Nat → Prop) (ad : Nat → Nat) (o : Nat) (q : Nat → Nat) (k : Int64 → (Nat → Int32) → Option ((Nat → Int32))) : Prop :=
  ∀ (a1 : Int64) (u0 : Nat → Int32) (res : (Nat → Int32)), k a1 u0 = some res → ∀ (H : Heap) (locs : List Loc) (ls : Array Slot), va_P D classes [(o, .inr (12, mo q u0))] H → va_D A [(o, .inr (12, mo q u0))] → va_S A s.heap H locs → lv_has ls 3 [(0, .ref o), (1, .long a1)] → W p l e rm_M_skip s m args below meth c H locs 0 0 (MQ below (q_M_skip D cy A o q res) args s 0 0 A) (F0 m 0 ls [])
def xb_M_skip_21 (fu : Nat) (u0 : Nat → Int32) : Option ((Nat → Int32)) :=
  bnd (upd u0 18 (1 : Int32)) fun z1 => some (z1)
set_option maxHeartbeats 8000000 in
set_option maxRecDepth 100000 in
theorem wb_M_skip_21 {p : Program} {l : Launch} {e : Env} {s : State} {m : MethodId} {args : Array Value} {below : List Frame} {meth : Method} {c : Code} {D : va_G} {cy : Nat → ClassId} {A : Nat → Prop} {ad : Nat → Nat} {o : Nat} {q : Nat → Nat} {fu : Nat} (F : Fx p s m args meth c b_M_skip 3 "CoinKeeperModel" "skip" none D cy ad A) : I_M_skip_21 p l e s m args below meth c D cy A ad o q (xb_M_skip_21 fu) := by
  obtain ⟨hx, hb, hr, hml, hown, hts, hlocks, hK, hA, hSt, hnm, hex⟩ := id F
  intro u0 res hf H locs ls hP hD hS hl
  unfold xb_M_skip_21 at hf
  refine lv_aload_n hx hb d_M_skip_21 rfl (lv_at hl 0 rfl) ?_
  refine lv_iconst (v := 1) hx hb d_M_skip_22 (by decide) ?_
  refine va_put (D := D) (ci := 12) (v := .int (1 : Int32)) (ty := .boolean) (C := "CoinKeeperModel") (T := F_12) (N := 98) hx hb hts i_12 t_12 t_12_ok n_12 hown hK hP hD hS 0 rfl rfl 91 (by decide) (hts _ gw_1510) (fun _ h9 => h9) rfl (by decide +kernel) (isb_n (v := 1) (by decide)) (isb_f (v := 1) (by decide)) (Nat.le_of_ble_eq_true rfl) d_M_skip_23 (fun H locs hP hD hS => ?_)
  obtain ⟨z1, ev, hf⟩ := bne hf
  have hP : va_P D classes [(o, .inr (12, mo q z1))] H := by rw [ev]; exact hP
  have hD : va_D A [(o, .inr (12, mo q z1))] := by rw [ev]; exact hD
  clear ev
  refine lv_goto (tgt := 40) hx hb d_M_skip_26 (by decide) ?_
  obtain rfl := Option.some.inj hf
  exact q_rv hx hb hr hlocks hK hP hD hS d_M_skip_40
def x_M_skip (fu : Nat) (a1 : Int64) (u0 : Nat → Int32) : Option ((Nat → Int32)) :=
  if (lg_cmp a1 (0 : Int64)) < 0 then (xb_M_skip_21 fu u0) else (if (lg_cmp a1 (((u0 17) - (u0 16)).toInt64)) ≤ 0 then (bnd ((u0 16) + a1.toInt32) fun v1 => bnd (upd u0 16 v1) fun z2 => some (z2)) else (xb_M_skip_21 fu u0))
set_option maxHeartbeats 8000000 in
set_option maxRecDepth 100000 in
theorem we_M_skip {p : Program} {l : Launch} {e : Env} {s : State} {m : MethodId} {args : Array Value} {below : List Frame} {meth : Method} {c : Code} {D : va_G} {cy : Nat → ClassId} {A : Nat → Prop} {ad : Nat → Nat} {o : Nat} {q : Nat → Nat} {fu : Nat} (F : Fx p s m args meth c b_M_skip 3 "CoinKeeperModel" "skip" none D cy ad A) : I_M_skip_e p l e s m args below meth c D cy A ad o q (x_M_skip fu) := by
  obtain ⟨hx, hb, hr, hml, hown, hts, hlocks, hK, hA, hSt, hnm, hex⟩ := id F
  intro a1 u0 res hf H locs ls hP hD hS hl
  unfold x_M_skip at hf
  refine lv_lload_n hx hb d_M_skip_0 rfl (lv_at hl 1 rfl) ?_
  refine lv_lconst (v := 0) hx hb d_M_skip_1 (by decide) ?_
  refine W.lcmp hx hb d_M_skip_2 ?_
  refine lv_if_lt (tgt := 21) hx hb d_M_skip_3 (by decide) (fun cx => ?_) (fun cx => ?_)
  · have hf := ifp cx hf
    exact wb_M_skip_21 (fu := fu) F _ _ hf _ _ _ hP hD hS (lv_sub hl [0] rfl)
  · have hf := ifn cx hf
    refine lv_lload_n hx hb d_M_skip_6 rfl (lv_at hl 1 rfl) ?_
    refine lv_aload_n hx hb d_M_skip_7 rfl (lv_at hl 0 rfl) ?_
    refine va_get (D := D) (ci := 12) (v := .int (u0 17)) (C := "CoinKeeperModel") (T := F_12) (N := 98) hx hb hts i_12 hown hK hP 0 rfl rfl 90 (by decide) (hts _ gw_1509) (fun _ h9 => h9) rfl d_M_skip_8 ?_
    refine lv_aload_n hx hb d_M_skip_11 rfl (lv_at hl 0 rfl) ?_
    refine va_get (D := D) (ci := 12) (v := .int (u0 16)) (C := "CoinKeeperModel") (T := F_12) (N := 98) hx hb hts i_12 hown hK hP 0 rfl rfl 89 (by decide) (hts _ gw_1508) (fun _ h9 => h9) rfl d_M_skip_12 ?_
    refine lv_isub hx hb d_M_skip_15 ?_
    refine lv_i2l hx hb d_M_skip_16 rfl ?_
    refine W.lcmp hx hb d_M_skip_17 ?_
    refine lv_if_le (tgt := 29) hx hb d_M_skip_18 (by decide) (fun cx => ?_) (fun cx => ?_)
    · have hf := ifp cx hf
      refine lv_aload_n hx hb d_M_skip_29 rfl (lv_at hl 0 rfl) ?_
      refine lv_dup hx hb d_M_skip_30 rfl ?_
      refine va_get (D := D) (ci := 12) (v := .int (u0 16)) (C := "CoinKeeperModel") (T := F_12) (N := 98) hx hb hts i_12 hown hK hP 0 rfl rfl 89 (by decide) (hts _ gw_1508) (fun _ h9 => h9) rfl d_M_skip_31 ?_
      refine lv_lload_n hx hb d_M_skip_34 rfl (lv_at hl 1 rfl) ?_
      refine lv_l2i hx hb d_M_skip_35 rfl ?_
      refine lv_iadd hx hb d_M_skip_36 ?_
      refine lv_topi (fun v1 ev => ?_)
      have hf := bn ev hf
      clear ev
      refine va_put (D := D) (ci := 12) (v := .int v1) (ty := .int) (C := "CoinKeeperModel") (T := F_12) (N := 98) hx hb hts i_12 t_12 t_12_ok n_12 hown hK hP hD hS 0 rfl rfl 89 (by decide) (hts _ gw_1508) (fun _ h9 => h9) rfl (by decide +kernel) rfl rfl (Nat.le_of_ble_eq_true rfl) d_M_skip_37 (fun H locs hP hD hS => ?_)
      obtain ⟨z2, ev, hf⟩ := bne hf
      have hP : va_P D classes [(o, .inr (12, mo q z2))] H := by rw [ev]; exact hP
      have hD : va_D A [(o, .inr (12, mo q z2))] := by rw [ev]; exact hD
      clear ev
      obtain rfl := Option.some.inj hf
      exact q_rv hx hb hr hlocks hK hP hD hS d_M_skip_40
    · have hf := ifn cx hf
      exact wb_M_skip_21 (fu := fu) F _ _ hf _ _ _ hP hD hS (lv_sub hl [0] rfl)
theorem c_M_skip (l : Launch) (D : va_G) (cy : Nat → ClassId) (ad : Nat → Nat) (fu : Nat) (o : Nat) (q : Nat → Nat) (a1 : Int64) (u0 : Nat → Int32) (res : (Nat → Int32)) (hf : x_M_skip fu a1 u0 = some res) (sz : Nat) : Met l ({ cls := "CoinKeeperModel", name := "skip", desc := "(J)V" } : Jvm.MethodName) (.code ({ cls := "CoinKeeperModel", name := "skip", desc := "(J)V" } : Jvm.MethodName) b_M_skip 3 none :: gw) rm_M_skip (va_Pc [.ref o, .long a1] (Pr D cy ad [(o, .inr (12, mo q u0))] sz)) (q_M_skip D cy (va_A [(o, .inr (12, mo q u0))] sz) o q res) 0 0 (va_A [(o, .inr (12, mo q u0))] sz) :=
  q_met (Qc := fun A => q_M_skip D cy A o q res) (by decide) rfl rfl (Nat.le_of_ble_eq_true rfl) (fun p e s m below meth c ls F hP hD hS hl => we_M_skip (fu := fu) F a1 u0 res hf _ _ _ hP hD hS hl) sz
abbrev b_M_count0 : ByteArray := prog_14_method_60_code
theorem d_M_count0_0 : decode b_M_count0 0 = .ok (.aload_n 0, 1) := by decide +kernel
theorem d_M_count0_1 : decode b_M_count0 1 = .ok (.iconst 1, 1) := by decide +kernel
theorem d_M_count0_2 : decode b_M_count0 2 = .ok (.invokevirtual 549, 3) := by decide +kernel
theorem d_M_count0_5 : decode b_M_count0 5 = .ok (.l2i, 1) := by decide +kernel
theorem d_M_count0_6 : decode b_M_count0 6 = .ok (.istore_n 1, 1) := by decide +kernel
theorem d_M_count0_7 : decode b_M_count0 7 = .ok (.iload_n 1, 1) := by decide +kernel
theorem d_M_count0_8 : decode b_M_count0 8 = .ok (.sipush 253, 3) := by decide +kernel
theorem d_M_count0_11 : decode b_M_count0 11 = .ok (.if_icmp .ge 6, 3) := by decide +kernel
theorem d_M_count0_14 : decode b_M_count0 14 = .ok (.iload_n 1, 1) := by decide +kernel
theorem d_M_count0_15 : decode b_M_count0 15 = .ok (.i2l, 1) := by decide +kernel
theorem d_M_count0_16 : decode b_M_count0 16 = .ok (.lreturn, 1) := by decide +kernel
theorem d_M_count0_17 : decode b_M_count0 17 = .ok (.iload_n 1, 1) := by decide +kernel
theorem d_M_count0_18 : decode b_M_count0 18 = .ok (.sipush 255, 3) := by decide +kernel
theorem d_M_count0_21 : decode b_M_count0 21 = .ok (.if_icmp .ne 7, 3) := by decide +kernel
theorem d_M_count0_24 : decode b_M_count0 24 = .ok (.lconst 0, 1) := by decide +kernel
theorem d_M_count0_25 : decode b_M_count0 25 = .ok (.goto 19, 3) := by decide +kernel
theorem d_M_count0_28 : decode b_M_count0 28 = .ok (.aload_n 0, 1) := by decide +kernel
theorem d_M_count0_29 : decode b_M_count0 29 = .ok (.iload_n 1, 1) := by decide +kernel
theorem d_M_count0_30 : decode b_M_count0 30 = .ok (.sipush 253, 3) := by decide +kernel
theorem d_M_count0_33 : decode b_M_count0 33 = .ok (.if_icmp .ne 7, 3) := by decide +kernel
theorem d_M_count0_36 : decode b_M_count0 36 = .ok (.iconst 2, 1) := by decide +kernel
theorem d_M_count0_37 : decode b_M_count0 37 = .ok (.goto 4, 3) := by decide +kernel
theorem d_M_count0_40 : decode b_M_count0 40 = .ok (.iconst 4, 1) := by decide +kernel
theorem d_M_count0_41 : decode b_M_count0 41 = .ok (.invokevirtual 549, 3) := by decide +kernel
theorem d_M_count0_44 : decode b_M_count0 44 = .ok (.lstore_n 2, 1) := by decide +kernel
theorem d_M_count0_45 : decode b_M_count0 45 = .ok (.iload_n 1, 1) := by decide +kernel
theorem d_M_count0_46 : decode b_M_count0 46 = .ok (.sipush 255, 3) := by decide +kernel
theorem d_M_count0_49 : decode b_M_count0 49 = .ok (.if_icmp .eq 25, 3) := by decide +kernel
theorem d_M_count0_52 : decode b_M_count0 52 = .ok (.lload_n 2, 1) := by decide +kernel
theorem d_M_count0_53 : decode b_M_count0 53 = .ok (.iload_n 1, 1) := by decide +kernel
theorem d_M_count0_54 : decode b_M_count0 54 = .ok (.sipush 253, 3) := by decide +kernel
theorem d_M_count0_57 : decode b_M_count0 57 = .ok (.if_icmp .ne 9, 3) := by decide +kernel
theorem d_M_count0_60 : decode b_M_count0 60 = .ok (.sipush 253, 3) := by decide +kernel
theorem d_M_count0_63 : decode b_M_count0 63 = .ok (.goto 6, 3) := by decide +kernel
theorem d_M_count0_66 : decode b_M_count0 66 = .ok (.ldc_w 552, 3) := by decide +kernel
theorem d_M_count0_69 : decode b_M_count0 69 = .ok (.i2l, 1) := by decide +kernel
theorem d_M_count0_70 : decode b_M_count0 70 = .ok (.lcmp, 1) := by decide +kernel
theorem d_M_count0_71 : decode b_M_count0 71 = .ok (.ifCond .ge 8, 3) := by decide +kernel
theorem d_M_count0_74 : decode b_M_count0 74 = .ok (.aload_n 0, 1) := by decide +kernel
theorem d_M_count0_75 : decode b_M_count0 75 = .ok (.iconst 1, 1) := by decide +kernel
theorem d_M_count0_76 : decode b_M_count0 76 = .ok (.putfield 546, 3) := by decide +kernel
theorem d_M_count0_79 : decode b_M_count0 79 = .ok (.lload_n 2, 1) := by decide +kernel
theorem d_M_count0_80 : decode b_M_count0 80 = .ok (.lreturn, 1) := by decide +kernel
abbrev rm_M_count0 : Room := { frames := 1, cells := 0, slots := 0, locals := 24 }
abbrev q_M_count0 (D : va_G) (cy : Nat → ClassId) (A : Nat → Prop) (o : Nat) (q : Nat → Nat) (g_store : Nat → Int32) (res : Int64 × (Nat → Int32)) : Array Value → State → Outcome → State → Prop := va_Ql (fun r' (_ : Unit) => r' = res.1) (fun _ t => Po D cy A [(o, .inr (12, mo q res.2)), ((q 1), .inl (cy 0, 103000, .inl g_store))] t) A
def I_M_count0_74 (p : Program) (l : Launch) (e : Env) (s : State) (m : MethodId) (args : Array Value) (below : List Frame) (meth : Method) (c : Code) (D : va_G) (cy : Nat → ClassId) (A : Nat → Prop) (ad : Nat → Nat) (o : Nat) (q : Nat → Nat) (g_store : Nat → Int32) (k : Int64 → (Nat → Int32) → Option (Int64 × (Nat → Int32))) : Prop :=
  ∀ (x2 : Int64) (u0 : Nat → Int32) (res : Int64 × (Nat → Int32)), k x2 u0 = some res → ∀ (H : Heap) (locs : List Loc) (ls : Array Slot), va_P D classes [(o, .inr (12, mo q u0)), ((q 1), .inl (cy 0, 103000, .inl g_store))] H → va_D A [(o, .inr (12, mo q u0)), ((q 1), .inl (cy 0, 103000, .inl g_store))] → va_S A s.heap H locs → lv_has ls 4 [(0, .ref o), (2, .long x2)] → W p l e rm_M_count0 s m args below meth c H locs 0 0 (MQ below (q_M_count0 D cy A o q g_store res) args s 0 0 A) (F0 m 74 ls [])
def I_M_count0_69 (p : Program) (l : Launch) (e : Env) (s : State) (m : MethodId) (args : Array Value) (below : List Frame) (meth : Method) (c : Code) (D : va_G) (cy : Nat → ClassId) (A : Nat → Prop) (ad : Nat → Nat) (o : Nat) (q : Nat → Nat) (g_store : Nat → Int32) (k : Int64 → Int32 → Int64 → (Nat → Int32) → Option (Int64 × (Nat → Int32))) : Prop :=
  ∀ (x2 : Int64) (y0 : Int32) (y1 : Int64) (u0 : Nat → Int32) (res : Int64 × (Nat → Int32)), k x2 y0 y1 u0 = some res → ∀ (H : Heap) (locs : List Loc) (ls : Array Slot), va_P D classes [(o, .inr (12, mo q u0)), ((q 1), .inl (cy 0, 103000, .inl g_store))] H → va_D A [(o, .inr (12, mo q u0)), ((q 1), .inl (cy 0, 103000, .inl g_store))] → va_S A s.heap H locs → lv_has ls 4 [(0, .ref o), (2, .long x2)] → W p l e rm_M_count0 s m args below meth c H locs 0 0 (MQ below (q_M_count0 D cy A o q g_store res) args s 0 0 A) (F0 m 69 ls [.int y0, .long y1])
def I_M_count0_44 (p : Program) (l : Launch) (e : Env) (s : State) (m : MethodId) (args : Array Value) (below : List Frame) (meth : Method) (c : Code) (D : va_G) (cy : Nat → ClassId) (A : Nat → Prop) (ad : Nat → Nat) (o : Nat) (q : Nat → Nat) (g_store : Nat → Int32) (k : Int32 → Int64 → (Nat → Int32) → Option (Int64 × (Nat → Int32))) : Prop :=
  ∀ (x1 : Int32) (y0 : Int64) (u0 : Nat → Int32) (res : Int64 × (Nat → Int32)), k x1 y0 u0 = some res → ∀ (H : Heap) (locs : List Loc) (ls : Array Slot), va_P D classes [(o, .inr (12, mo q u0)), ((q 1), .inl (cy 0, 103000, .inl g_store))] H → va_D A [(o, .inr (12, mo q u0)), ((q 1), .inl (cy 0, 103000, .inl g_store))] → va_S A s.heap H locs → lv_has ls 4 [(0, .ref o), (1, .int x1)] → W p l e rm_M_count0 s m args below meth c H locs 0 0 (MQ below (q_M_count0 D cy A o q g_store res) args s 0 0 A) (F0 m 44 ls [.long y0])
def I_M_count0_41 (p : Program) (l : Launch) (e : Env) (s : State) (m : MethodId) (args : Array Value) (below : List Frame) (meth : Method) (c : Code) (D : va_G) (cy : Nat → ClassId) (A : Nat → Prop) (ad : Nat → Nat) (o : Nat) (q : Nat → Nat) (g_store : Nat → Int32) (k : Int32 → Int32 → (Nat → Int32) → Option (Int64 × (Nat → Int32))) : Prop :=
  ∀ (x1 : Int32) (y0 : Int32) (u0 : Nat → Int32) (res : Int64 × (Nat → Int32)), k x1 y0 u0 = some res → ∀ (H : Heap) (locs : List Loc) (ls : Array Slot), va_P D classes [(o, .inr (12, mo q u0)), ((q 1), .inl (cy 0, 103000, .inl g_store))] H → va_D A [(o, .inr (12, mo q u0)), ((q 1), .inl (cy 0, 103000, .inl g_store))] → va_S A s.heap H locs → lv_has ls 4 [(0, .ref o), (1, .int x1)] → W p l e rm_M_count0 s m args below meth c H locs 0 0 (MQ below (q_M_count0 D cy A o q g_store res) args s 0 0 A) (F0 m 41 ls [.int y0, .ref o])
def I_M_count0_e (p : Program) (l : Launch) (e : Env) (s : State) (m : MethodId) (args : Array Value) (below : List Frame) (meth : Method) (c : Code) (D : va_G) (cy : Nat → ClassId) (A : Nat → Prop) (ad : Nat → Nat) (o : Nat) (q : Nat → Nat) (g_store : Nat → Int32) (k : (Nat → Int32) → Option (Int64 × (Nat → Int32))) : Prop :=
  ∀ (u0 : Nat → Int32) (res : Int64 × (Nat → Int32)), k u0 = some res → ∀ (H : Heap) (locs : List Loc) (ls : Array Slot), va_P D classes [(o, .inr (12, mo q u0)), ((q 1), .inl (cy 0, 103000, .inl g_store))] H → va_D A [(o, .inr (12, mo q u0)), ((q 1), .inl (cy 0, 103000, .inl g_store))] → va_S A s.heap H locs → lv_has ls 4 [(0, .ref o)] → W p l e rm_M_count0 s m args below meth c H locs 0 0 (MQ below (q_M_count0 D cy A o q g_store res) args s 0 0 A) (F0 m 0 ls [])
def xb_M_count0_74 (fu : Nat) (g_store : Nat → Int32) (x2 : Int64) (u0 : Nat → Int32) : Option (Int64 × (Nat → Int32)) :=
  bnd (upd u0 18 (1 : Int32)) fun z1 => some (x2, z1)
set_option maxHeartbeats 8000000 in
set_option maxRecDepth 100000 in
theorem wb_M_count0_74 {p : Program} {l : Launch} {e : Env} {s : State} {m : MethodId} {args : Array Value} {below : List Frame} {meth : Method} {c : Code} {D : va_G} {cy : Nat → ClassId} {A : Nat → Prop} {ad : Nat → Nat} {o : Nat} {q : Nat → Nat} {g_store : Nat → Int32} {fu : Nat} (F : Fx p s m args meth c b_M_count0 4 "CoinKeeperModel" "count" (some .long) D cy ad A) : I_M_count0_74 p l e s m args below meth c D cy A ad o q g_store (xb_M_count0_74 fu g_store) := by
  obtain ⟨hx, hb, hr, hml, hown, hts, hlocks, hK, hA, hSt, hnm, hex⟩ := id F
  intro x2 u0 res hf H locs ls hP hD hS hl
  unfold xb_M_count0_74 at hf
  refine lv_aload_n hx hb d_M_count0_74 rfl (lv_at hl 0 rfl) ?_
  refine lv_iconst (v := 1) hx hb d_M_count0_75 (by decide) ?_
  refine va_put (D := D) (ci := 12) (v := .int (1 : Int32)) (ty := .boolean) (C := "CoinKeeperModel") (T := F_12) (N := 98) hx hb hts i_12 t_12 t_12_ok n_12 hown hK hP hD hS 0 rfl rfl 91 (by decide) (hts _ gw_1510) (fun _ h9 => h9) rfl (by decide +kernel) (isb_n (v := 1) (by decide)) (isb_f (v := 1) (by decide)) (Nat.le_of_ble_eq_true rfl) d_M_count0_76 (fun H locs hP hD hS => ?_)
  obtain ⟨z1, ev, hf⟩ := bne hf
  have hP : va_P D classes [(o, .inr (12, mo q z1)), ((q 1), .inl (cy 0, 103000, .inl g_store))] H := by rw [ev]; exact hP
  have hD : va_D A [(o, .inr (12, mo q z1)), ((q 1), .inl (cy 0, 103000, .inl g_store))] := by rw [ev]; exact hD
  clear ev
  refine lv_lload_n hx hb d_M_count0_79 rfl (lv_at hl 1 rfl) ?_
  obtain rfl := Option.some.inj hf
  exact q_rl hx hb hr hlocks hK hP hD hS d_M_count0_80
def xb_M_count0_69 (fu : Nat) (g_store : Nat → Int32) (x2 : Int64) (y0 : Int32) (y1 : Int64) (u0 : Nat → Int32) : Option (Int64 × (Nat → Int32)) :=
  if 0 ≤ (lg_cmp y1 y0.toInt64) then (some (x2, u0)) else (xb_M_count0_74 fu g_store x2 u0)
set_option maxHeartbeats 8000000 in
set_option maxRecDepth 100000 in
theorem wb_M_count0_69 {p : Program} {l : Launch} {e : Env} {s : State} {m : MethodId} {args : Array Value} {below : List Frame} {meth : Method} {c : Code} {D : va_G} {cy : Nat → ClassId} {A : Nat → Prop} {ad : Nat → Nat} {o : Nat} {q : Nat → Nat} {g_store : Nat → Int32} {fu : Nat} (F : Fx p s m args meth c b_M_count0 4 "CoinKeeperModel" "count" (some .long) D cy ad A) : I_M_count0_69 p l e s m args below meth c D cy A ad o q g_store (xb_M_count0_69 fu g_store) := by
  obtain ⟨hx, hb, hr, hml, hown, hts, hlocks, hK, hA, hSt, hnm, hex⟩ := id F
  intro x2 y0 y1 u0 res hf H locs ls hP hD hS hl
  unfold xb_M_count0_69 at hf
  refine lv_i2l hx hb d_M_count0_69 rfl ?_
  refine W.lcmp hx hb d_M_count0_70 ?_
  refine lv_if_ge (tgt := 79) hx hb d_M_count0_71 (by decide) (fun cx => ?_) (fun cx => ?_)
  · have hf := ifp cx hf
    refine lv_lload_n hx hb d_M_count0_79 rfl (lv_at hl 1 rfl) ?_
    obtain rfl := Option.some.inj hf
    exact q_rl hx hb hr hlocks hK hP hD hS d_M_count0_80
  · have hf := ifn cx hf
    exact wb_M_count0_74 (fu := fu) F _ _ _ hf _ _ _ hP hD hS (lv_sub hl [0, 1] rfl)
def xb_M_count0_44 (fu : Nat) (g_store : Nat → Int32) (x1 : Int32) (y0 : Int64) (u0 : Nat → Int32) : Option (Int64 × (Nat → Int32)) :=
  if x1 = (255 : Int32) then (xb_M_count0_74 fu g_store y0 u0) else (if x1 = (253 : Int32) then (xb_M_count0_69 fu g_store y0 (253 : Int32) y0 u0) else (xb_M_count0_69 fu g_store y0 (65536 : Int32) y0 u0))
set_option maxHeartbeats 8000000 in
set_option maxRecDepth 100000 in
theorem wb_M_count0_44 {p : Program} {l : Launch} {e : Env} {s : State} {m : MethodId} {args : Array Value} {below : List Frame} {meth : Method} {c : Code} {D : va_G} {cy : Nat → ClassId} {A : Nat → Prop} {ad : Nat → Nat} {o : Nat} {q : Nat → Nat} {g_store : Nat → Int32} {fu : Nat} (F : Fx p s m args meth c b_M_count0 4 "CoinKeeperModel" "count" (some .long) D cy ad A) : I_M_count0_44 p l e s m args below meth c D cy A ad o q g_store (xb_M_count0_44 fu g_store) := by
  obtain ⟨hx, hb, hr, hml, hown, hts, hlocks, hK, hA, hSt, hnm, hex⟩ := id F
  intro x1 y0 u0 res hf H locs ls hP hD hS hl
  unfold xb_M_count0_44 at hf
  refine lv_lstore_n (lv' := [(2, .long y0), (0, .ref o), (1, .int x1)]) hx hb d_M_count0_44 rfl hl (by decide) rfl (fun ls hl => ?_)
  refine lv_iload_n hx hb d_M_count0_45 rfl (lv_at hl 2 rfl) ?_
  refine lv_sipush (v := 255) hx hb d_M_count0_46 (by decide) ?_
  refine lv_icmp_eq (tgt := 74) hx hb d_M_count0_49 (by decide) (fun cx => ?_) (fun cx => ?_)
  · have hf := ifp cx hf
    exact wb_M_count0_74 (fu := fu) F _ _ _ hf _ _ _ hP hD hS (lv_sub hl [1, 0] rfl)
  · have hf := ifn cx hf
    refine lv_lload_n hx hb d_M_count0_52 rfl (lv_at hl 0 rfl) ?_
    refine lv_iload_n hx hb d_M_count0_53 rfl (lv_at hl 2 rfl) ?_
    refine lv_sipush (v := 253) hx hb d_M_count0_54 (by decide) ?_
    refine lv_icmp_ne (tgt := 66) hx hb d_M_count0_57 (by decide) (fun cx => ?_) (fun cx => ?_)
    · have hf := ifn cx hf
      refine lv_ldcw (v := 65536) hx hb hown (hts _ gw_1752) d_M_count0_66 ?_
      exact wb_M_count0_69 (fu := fu) F _ _ _ _ _ hf _ _ _ hP hD hS (lv_sub hl [1, 0] rfl)
    · have hf := ifp cx hf
      refine lv_sipush (v := 253) hx hb d_M_count0_60 (by decide) ?_
      refine lv_goto (tgt := 69) hx hb d_M_count0_63 (by decide) ?_
      exact wb_M_count0_69 (fu := fu) F _ _ _ _ _ hf _ _ _ hP hD hS (lv_sub hl [1, 0] rfl)
theorem hdb_16 : ({ cls := "CoinKeeperModel", name := "get", desc := "(I)J" } : Jvm.MethodName).cls ≠ "java/lang/invoke/MethodHandle" ∧ ({ cls := "CoinKeeperModel", name := "get", desc := "(I)J" } : Jvm.MethodName).cls ≠ "java/lang/invoke/VarHandle" ∧ (parseMethodDescriptor ({ cls := "CoinKeeperModel", name := "get", desc := "(I)J" } : Jvm.MethodName).desc).map (fun d => d.parameters.length) = some 1 := by decide +kernel
def xb_M_count0_41 (fu : Nat) (g_store : Nat → Int32) (x1 : Int32) (y0 : Int32) (u0 : Nat → Int32) : Option (Int64 × (Nat → Int32)) :=
  bd2 (x_M_get fu g_store y0 u0) fun v1 f2 => xb_M_count0_44 fu g_store x1 v1 f2
set_option maxHeartbeats 8000000 in
set_option maxRecDepth 100000 in
theorem wb_M_count0_41 {p : Program} {l : Launch} {e : Env} {s : State} {m : MethodId} {args : Array Value} {below : List Frame} {meth : Method} {c : Code} {D : va_G} {cy : Nat → ClassId} {A : Nat → Prop} {ad : Nat → Nat} {o : Nat} {q : Nat → Nat} {g_store : Nat → Int32} {fu : Nat} (F : Fx p s m args meth c b_M_count0 4 "CoinKeeperModel" "count" (some .long) D cy ad A) : I_M_count0_41 p l e s m args below meth c D cy A ad o q g_store (xb_M_count0_41 fu g_store) := by
  obtain ⟨hx, hb, hr, hml, hown, hts, hlocks, hK, hA, hSt, hnm, hex⟩ := id F
  intro x1 y0 u0 res hf H locs ls hP hD hS hl
  unfold xb_M_count0_41 at hf
  obtain ⟨v1, f2, hc, hf⟩ := bdp2 hf
  refine q_al (wr := []) (va_runV (C := "CoinKeeperModel") (As := [.int y0]) (rest := []) ⟨hx, hb, hml, hown, hts⟩ (c_M_get l D cy ad fu o q g_store y0 u0 _ hc H.size) ⟨q_cB hts gw_1742 gw_18 gw_1739 hdb_16 ⟨by decide, by decide⟩, hts _ gw_1741, hts _ gs_68⟩ (q_preV (q_pre (hP.sub [0, 1] rfl) (hD.sub [0, 1] (by decide) rfl) hK hSt hS (va_free hD hS hA [0, 1] rfl) _) (va_recv hK (hP.sub [0, 1] rfl) (ci := 12) (q0 := 0) rfl rfl)) rfl rfl hl.1 rfl (lv_room (Nat.le_of_ble_eq_true rfl)) d_M_count0_41 ⟨Nat.le_of_ble_eq_true rfl, Nat.le_of_ble_eq_true rfl⟩) hP hD hS hA [0, 1] [] rfl rfl (by decide) (by decide) (fun H locs hP hD hS => ?_)
  clear hc
  have hP : va_P D classes [(o, .inr (12, mo q f2)), ((q 1), .inl (cy 0, 103000, .inl g_store))] H := hP
  have hD : va_D A [(o, .inr (12, mo q f2)), ((q 1), .inl (cy 0, 103000, .inl g_store))] := hD
  exact wb_M_count0_44 (fu := fu) F _ _ _ _ hf _ _ _ hP hD hS (lv_sub hl [0, 1] rfl)
def x_M_count0 (fu : Nat) (g_store : Nat → Int32) (u0 : Nat → Int32) : Option (Int64 × (Nat → Int32)) :=
  bd2 (x_M_get fu g_store (1 : Int32) u0) fun v1 f2 => bnd (v1.toInt32) fun v3 => if (253 : Int32) ≤ v3 then (if v3 = (255 : Int32) then (xb_M_count0_44 fu g_store v3 (0 : Int64) f2) else (if v3 = (253 : Int32) then (xb_M_count0_41 fu g_store v3 (2 : Int32) f2) else (xb_M_count0_41 fu g_store v3 (4 : Int32) f2))) else (bnd (v3.toInt64) fun v4 => some (v4, f2))
set_option maxHeartbeats 8000000 in
set_option maxRecDepth 100000 in
theorem we_M_count0 {p : Program} {l : Launch} {e : Env} {s : State} {m : MethodId} {args : Array Value} {below : List Frame} {meth : Method} {c : Code} {D : va_G} {cy : Nat → ClassId} {A : Nat → Prop} {ad : Nat → Nat} {o : Nat} {q : Nat → Nat} {g_store : Nat → Int32} {fu : Nat} (F : Fx p s m args meth c b_M_count0 4 "CoinKeeperModel" "count" (some .long) D cy ad A) : I_M_count0_e p l e s m args below meth c D cy A ad o q g_store (x_M_count0 fu g_store) := by
  obtain ⟨hx, hb, hr, hml, hown, hts, hlocks, hK, hA, hSt, hnm, hex⟩ := id F
  intro u0 res hf H locs ls hP hD hS hl
  unfold x_M_count0 at hf
  refine lv_aload_n hx hb d_M_count0_0 rfl (lv_at hl 0 rfl) ?_
  refine lv_iconst (v := 1) hx hb d_M_count0_1 (by decide) ?_
  obtain ⟨v1, f2, hc, hf⟩ := bdp2 hf
  refine q_al (wr := []) (va_runV (C := "CoinKeeperModel") (As := [.int (1 : Int32)]) (rest := []) ⟨hx, hb, hml, hown, hts⟩ (c_M_get l D cy ad fu o q g_store (1 : Int32) u0 _ hc H.size) ⟨q_cB hts gw_1742 gw_18 gw_1739 hdb_16 ⟨by decide, by decide⟩, hts _ gw_1741, hts _ gs_68⟩ (q_preV (q_pre (hP.sub [0, 1] rfl) (hD.sub [0, 1] (by decide) rfl) hK hSt hS (va_free hD hS hA [0, 1] rfl) _) (va_recv hK (hP.sub [0, 1] rfl) (ci := 12) (q0 := 0) rfl rfl)) rfl rfl hl.1 rfl (lv_room (Nat.le_of_ble_eq_true rfl)) d_M_count0_2 ⟨Nat.le_of_ble_eq_true rfl, Nat.le_of_ble_eq_true rfl⟩) hP hD hS hA [0, 1] [] rfl rfl (by decide) (by decide) (fun H locs hP hD hS => ?_)
  clear hc
  have hP : va_P D classes [(o, .inr (12, mo q f2)), ((q 1), .inl (cy 0, 103000, .inl g_store))] H := hP
  have hD : va_D A [(o, .inr (12, mo q f2)), ((q 1), .inl (cy 0, 103000, .inl g_store))] := hD
  refine lv_l2i hx hb d_M_count0_5 rfl ?_
  refine lv_topi (fun v3 ev => ?_)
  have hf := bn ev hf
  clear ev
  refine lv_istore_n (lv' := [(1, .int v3), (0, .ref o)]) hx hb d_M_count0_6 rfl hl (by decide) rfl (fun ls hl => ?_)
  refine lv_iload_n hx hb d_M_count0_7 rfl (lv_at hl 0 rfl) ?_
  refine lv_sipush (v := 253) hx hb d_M_count0_8 (by decide) ?_
  refine lv_icmp_ge (tgt := 17) hx hb d_M_count0_11 (by decide) (fun cx => ?_) (fun cx => ?_)
  · have hf := ifp cx hf
    refine lv_iload_n hx hb d_M_count0_17 rfl (lv_at hl 0 rfl) ?_
    refine lv_sipush (v := 255) hx hb d_M_count0_18 (by decide) ?_
    refine lv_icmp_ne (tgt := 28) hx hb d_M_count0_21 (by decide) (fun cx => ?_) (fun cx => ?_)
    · have hf := ifn cx hf
      refine lv_aload_n hx hb d_M_count0_28 rfl (lv_at hl 1 rfl) ?_
      refine lv_iload_n hx hb d_M_count0_29 rfl (lv_at hl 0 rfl) ?_
      refine lv_sipush (v := 253) hx hb d_M_count0_30 (by decide) ?_
      refine lv_icmp_ne (tgt := 40) hx hb d_M_count0_33 (by decide) (fun cx => ?_) (fun cx => ?_)
      · have hf := ifn cx hf
        refine lv_iconst (v := 4) hx hb d_M_count0_40 (by decide) ?_
        exact wb_M_count0_41 (fu := fu) F _ _ _ _ hf _ _ _ hP hD hS (lv_sub hl [1, 0] rfl)
      · have hf := ifp cx hf
        refine lv_iconst (v := 2) hx hb d_M_count0_36 (by decide) ?_
        refine lv_goto (tgt := 41) hx hb d_M_count0_37 (by decide) ?_
        exact wb_M_count0_41 (fu := fu) F _ _ _ _ hf _ _ _ hP hD hS (lv_sub hl [1, 0] rfl)
    · have hf := ifp cx hf
      refine lv_lconst (v := 0) hx hb d_M_count0_24 (by decide) ?_
      refine lv_goto (tgt := 44) hx hb d_M_count0_25 (by decide) ?_
      exact wb_M_count0_44 (fu := fu) F _ _ _ _ hf _ _ _ hP hD hS (lv_sub hl [1, 0] rfl)
  · have hf := ifn cx hf
    refine lv_iload_n hx hb d_M_count0_14 rfl (lv_at hl 0 rfl) ?_
    refine lv_i2l hx hb d_M_count0_15 rfl ?_
    refine lv_topl (fun v4 ev => ?_)
    have hf := bn ev hf
    clear ev
    obtain rfl := Option.some.inj hf
    exact q_rl hx hb hr hlocks hK hP hD hS d_M_count0_16
theorem c_M_count0 (l : Launch) (D : va_G) (cy : Nat → ClassId) (ad : Nat → Nat) (fu : Nat) (o : Nat) (q : Nat → Nat) (g_store : Nat → Int32) (u0 : Nat → Int32) (res : Int64 × (Nat → Int32)) (hf : x_M_count0 fu g_store u0 = some res) (sz : Nat) : Met l ({ cls := "CoinKeeperModel", name := "count", desc := "()J" } : Jvm.MethodName) (.code ({ cls := "CoinKeeperModel", name := "count", desc := "()J" } : Jvm.MethodName) b_M_count0 4 (some .long) :: gw) rm_M_count0 (va_Pc [.ref o] (Pr D cy ad [(o, .inr (12, mo q u0)), ((q 1), .inl (cy 0, 103000, .inl g_store))] sz)) (q_M_count0 D cy (va_A [(o, .inr (12, mo q u0)), ((q 1), .inl (cy 0, 103000, .inl g_store))] sz) o q g_store res) 0 0 (va_A [(o, .inr (12, mo q u0)), ((q 1), .inl (cy 0, 103000, .inl g_store))] sz) :=
  q_met (Qc := fun A => q_M_count0 D cy A o q g_store res) (by decide) rfl rfl (Nat.le_of_ble_eq_true rfl) (fun p e s m below meth c ls F hP hD hS hl => we_M_count0 (fu := fu) F u0 res hf _ _ _ hP hD hS hl) sz
abbrev b_M_take : ByteArray := prog_14_method_72_code
theorem d_M_take_0 : decode b_M_take 0 = .ok (.aload_n 0, 1) := by decide +kernel
theorem d_M_take_1 : decode b_M_take 1 = .ok (.iload_n 1, 1) := by decide +kernel
theorem d_M_take_2 : decode b_M_take 2 = .ok (.putfield 543, 3) := by decide +kernel
theorem d_M_take_5 : decode b_M_take 5 = .ok (.aload_n 0, 1) := by decide +kernel
theorem d_M_take_6 : decode b_M_take 6 = .ok (.iconst 0, 1) := by decide +kernel
theorem d_M_take_7 : decode b_M_take 7 = .ok (.putfield 546, 3) := by decide +kernel
theorem d_M_take_10 : decode b_M_take 10 = .ok (.aload_n 0, 1) := by decide +kernel
theorem d_M_take_11 : decode b_M_take 11 = .ok (.iconst 4, 1) := by decide +kernel
theorem d_M_take_12 : decode b_M_take 12 = .ok (.invokevirtual 549, 3) := by decide +kernel
theorem d_M_take_15 : decode b_M_take 15 = .ok (.pop2, 1) := by decide +kernel
theorem d_M_take_16 : decode b_M_take 16 = .ok (.aload_n 0, 1) := by decide +kernel
theorem d_M_take_17 : decode b_M_take 17 = .ok (.ldc2_w 605, 3) := by decide +kernel
theorem d_M_take_20 : decode b_M_take 20 = .ok (.invokevirtual 564, 3) := by decide +kernel
theorem d_M_take_23 : decode b_M_take 23 = .ok (.aload_n 0, 1) := by decide +kernel
theorem d_M_take_24 : decode b_M_take 24 = .ok (.iconst 4, 1) := by decide +kernel
theorem d_M_take_25 : decode b_M_take 25 = .ok (.invokevirtual 549, 3) := by decide +kernel
theorem d_M_take_28 : decode b_M_take 28 = .ok (.l2i, 1) := by decide +kernel
theorem d_M_take_29 : decode b_M_take 29 = .ok (.istore_n 2, 1) := by decide +kernel
theorem d_M_take_30 : decode b_M_take 30 = .ok (.aload_n 0, 1) := by decide +kernel
theorem d_M_take_31 : decode b_M_take 31 = .ok (.iconst 4, 1) := by decide +kernel
theorem d_M_take_32 : decode b_M_take 32 = .ok (.invokevirtual 549, 3) := by decide +kernel
theorem d_M_take_35 : decode b_M_take 35 = .ok (.l2i, 1) := by decide +kernel
theorem d_M_take_36 : decode b_M_take 36 = .ok (.istore_n 3, 1) := by decide +kernel
theorem d_M_take_37 : decode b_M_take 37 = .ok (.aload_n 0, 1) := by decide +kernel
theorem d_M_take_38 : decode b_M_take 38 = .ok (.getfield 252, 3) := by decide +kernel
theorem d_M_take_41 : decode b_M_take 41 = .ok (.istore 4, 2) := by decide +kernel
theorem d_M_take_43 : decode b_M_take 43 = .ok (.aload_n 0, 1) := by decide +kernel
theorem d_M_take_44 : decode b_M_take 44 = .ok (.iconst 4, 1) := by decide +kernel
theorem d_M_take_45 : decode b_M_take 45 = .ok (.invokevirtual 549, 3) := by decide +kernel
theorem d_M_take_48 : decode b_M_take 48 = .ok (.pop2, 1) := by decide +kernel
theorem d_M_take_49 : decode b_M_take 49 = .ok (.aload_n 0, 1) := by decide +kernel
theorem d_M_take_50 : decode b_M_take 50 = .ok (.invokevirtual 559, 3) := by decide +kernel
theorem d_M_take_53 : decode b_M_take 53 = .ok (.lstore 5, 2) := by decide +kernel
theorem d_M_take_55 : decode b_M_take 55 = .ok (.aload_n 0, 1) := by decide +kernel
theorem d_M_take_56 : decode b_M_take 56 = .ok (.getfield 553, 3) := by decide +kernel
theorem d_M_take_59 : decode b_M_take 59 = .ok (.istore 7, 2) := by decide +kernel
theorem d_M_take_61 : decode b_M_take 61 = .ok (.lconst 0, 1) := by decide +kernel
theorem d_M_take_62 : decode b_M_take 62 = .ok (.lstore 8, 2) := by decide +kernel
theorem d_M_take_64 : decode b_M_take 64 = .ok (.lload 8, 2) := by decide +kernel
theorem d_M_take_66 : decode b_M_take 66 = .ok (.lload 5, 2) := by decide +kernel
theorem d_M_take_68 : decode b_M_take 68 = .ok (.lcmp, 1) := by decide +kernel
theorem d_M_take_69 : decode b_M_take 69 = .ok (.ifCond .ge 23, 3) := by decide +kernel
theorem d_M_take_72 : decode b_M_take 72 = .ok (.aload_n 0, 1) := by decide +kernel
theorem d_M_take_73 : decode b_M_take 73 = .ok (.getfield 546, 3) := by decide +kernel
theorem d_M_take_76 : decode b_M_take 76 = .ok (.ifCond .ne 16, 3) := by decide +kernel
theorem d_M_take_79 : decode b_M_take 79 = .ok (.aload_n 0, 1) := by decide +kernel
theorem d_M_take_80 : decode b_M_take 80 = .ok (.invokevirtual 607, 3) := by decide +kernel
theorem d_M_take_83 : decode b_M_take 83 = .ok (.lload 8, 2) := by decide +kernel
theorem d_M_take_85 : decode b_M_take 85 = .ok (.lconst 1, 1) := by decide +kernel
theorem d_M_take_86 : decode b_M_take 86 = .ok (.ladd, 1) := by decide +kernel
theorem d_M_take_87 : decode b_M_take 87 = .ok (.lstore 8, 2) := by decide +kernel
theorem d_M_take_89 : decode b_M_take 89 = .ok (.goto (-25), 3) := by decide +kernel
theorem d_M_take_92 : decode b_M_take 92 = .ok (.aload_n 0, 1) := by decide +kernel
theorem d_M_take_93 : decode b_M_take 93 = .ok (.getfield 546, 3) := by decide +kernel
theorem d_M_take_96 : decode b_M_take 96 = .ok (.ifCond .ne 14, 3) := by decide +kernel
theorem d_M_take_99 : decode b_M_take 99 = .ok (.aload_n 0, 1) := by decide +kernel
theorem d_M_take_100 : decode b_M_take 100 = .ok (.getfield 543, 3) := by decide +kernel
theorem d_M_take_103 : decode b_M_take 103 = .ok (.aload_n 0, 1) := by decide +kernel
theorem d_M_take_104 : decode b_M_take 104 = .ok (.getfield 540, 3) := by decide +kernel
theorem d_M_take_107 : decode b_M_take 107 = .ok (.if_icmp .eq 5, 3) := by decide +kernel
theorem d_M_take_110 : decode b_M_take 110 = .ok (.iconst 1, 1) := by decide +kernel
theorem d_M_take_111 : decode b_M_take 111 = .ok (.ireturn, 1) := by decide +kernel
theorem d_M_take_112 : decode b_M_take 112 = .ok (.aload_n 0, 1) := by decide +kernel
theorem d_M_take_113 : decode b_M_take 113 = .ok (.aload_n 0, 1) := by decide +kernel
theorem d_M_take_114 : decode b_M_take 114 = .ok (.getfield 14, 3) := by decide +kernel
theorem d_M_take_117 : decode b_M_take 117 = .ok (.iload_n 1, 1) := by decide +kernel
theorem d_M_take_118 : decode b_M_take 118 = .ok (.bipush 80, 2) := by decide +kernel
theorem d_M_take_120 : decode b_M_take 120 = .ok (.invokevirtual 519, 3) := by decide +kernel
theorem d_M_take_123 : decode b_M_take 123 = .ok (.iconst 0, 1) := by decide +kernel
theorem d_M_take_124 : decode b_M_take 124 = .ok (.istore 8, 2) := by decide +kernel
theorem d_M_take_126 : decode b_M_take 126 = .ok (.iload 8, 2) := by decide +kernel
theorem d_M_take_128 : decode b_M_take 128 = .ok (.bipush 8, 2) := by decide +kernel
theorem d_M_take_130 : decode b_M_take 130 = .ok (.if_icmp .ge 33, 3) := by decide +kernel
theorem d_M_take_133 : decode b_M_take 133 = .ok (.aload_n 0, 1) := by decide +kernel
theorem d_M_take_134 : decode b_M_take 134 = .ok (.getfield 39, 3) := by decide +kernel
theorem d_M_take_137 : decode b_M_take 137 = .ok (.bipush 8, 2) := by decide +kernel
theorem d_M_take_139 : decode b_M_take 139 = .ok (.iload 4, 2) := by decide +kernel
theorem d_M_take_141 : decode b_M_take 141 = .ok (.imul, 1) := by decide +kernel
theorem d_M_take_142 : decode b_M_take 142 = .ok (.iload 8, 2) := by decide +kernel
theorem d_M_take_144 : decode b_M_take 144 = .ok (.iadd, 1) := by decide +kernel
theorem d_M_take_145 : decode b_M_take 145 = .ok (.aload_n 0, 1) := by decide +kernel
theorem d_M_take_146 : decode b_M_take 146 = .ok (.getfield 123, 3) := by decide +kernel
theorem d_M_take_149 : decode b_M_take 149 = .ok (.iconst 4, 1) := by decide +kernel
theorem d_M_take_150 : decode b_M_take 150 = .ok (.iload 8, 2) := by decide +kernel
theorem d_M_take_152 : decode b_M_take 152 = .ok (.imul, 1) := by decide +kernel
theorem d_M_take_153 : decode b_M_take 153 = .ok (.invokestatic 309, 3) := by decide +kernel
theorem d_M_take_156 : decode b_M_take 156 = .ok (.iastore, 1) := by decide +kernel
theorem d_M_take_157 : decode b_M_take 157 = .ok (.iinc 8 1, 3) := by decide +kernel
theorem d_M_take_160 : decode b_M_take 160 = .ok (.goto (-34), 3) := by decide +kernel
theorem d_M_take_163 : decode b_M_take 163 = .ok (.aload_n 0, 1) := by decide +kernel
theorem d_M_take_164 : decode b_M_take 164 = .ok (.aload_n 0, 1) := by decide +kernel
theorem d_M_take_165 : decode b_M_take 165 = .ok (.getfield 123, 3) := by decide +kernel
theorem d_M_take_168 : decode b_M_take 168 = .ok (.iconst 0, 1) := by decide +kernel
theorem d_M_take_169 : decode b_M_take 169 = .ok (.invokevirtual 610, 3) := by decide +kernel
theorem d_M_take_172 : decode b_M_take 172 = .ok (.ifCond .lt 5, 3) := by decide +kernel
theorem d_M_take_175 : decode b_M_take 175 = .ok (.iconst 2, 1) := by decide +kernel
theorem d_M_take_176 : decode b_M_take 176 = .ok (.ireturn, 1) := by decide +kernel
theorem d_M_take_177 : decode b_M_take 177 = .ok (.aload_n 0, 1) := by decide +kernel
theorem d_M_take_178 : decode b_M_take 178 = .ok (.aload_n 0, 1) := by decide +kernel
theorem d_M_take_179 : decode b_M_take 179 = .ok (.getfield 14, 3) := by decide +kernel
theorem d_M_take_182 : decode b_M_take 182 = .ok (.iload_n 1, 1) := by decide +kernel
theorem d_M_take_183 : decode b_M_take 183 = .ok (.iconst 4, 1) := by decide +kernel
theorem d_M_take_184 : decode b_M_take 184 = .ok (.iadd, 1) := by decide +kernel
theorem d_M_take_185 : decode b_M_take 185 = .ok (.invokevirtual 610, 3) := by decide +kernel
theorem d_M_take_188 : decode b_M_take 188 = .ok (.istore 8, 2) := by decide +kernel
theorem d_M_take_190 : decode b_M_take 190 = .ok (.iload 8, 2) := by decide +kernel
theorem d_M_take_192 : decode b_M_take 192 = .ok (.ifCond .ge 5, 3) := by decide +kernel
theorem d_M_take_195 : decode b_M_take 195 = .ok (.iconst 3, 1) := by decide +kernel
theorem d_M_take_196 : decode b_M_take 196 = .ok (.ireturn, 1) := by decide +kernel
theorem d_M_take_197 : decode b_M_take 197 = .ok (.aload_n 0, 1) := by decide +kernel
theorem d_M_take_198 : decode b_M_take 198 = .ok (.getfield 45, 3) := by decide +kernel
theorem d_M_take_201 : decode b_M_take 201 = .ok (.iload 8, 2) := by decide +kernel
theorem d_M_take_203 : decode b_M_take 203 = .ok (.baload, 1) := by decide +kernel
theorem d_M_take_204 : decode b_M_take 204 = .ok (.ifCond .eq 5, 3) := by decide +kernel
theorem d_M_take_207 : decode b_M_take 207 = .ok (.iconst 4, 1) := by decide +kernel
theorem d_M_take_208 : decode b_M_take 208 = .ok (.ireturn, 1) := by decide +kernel
theorem d_M_take_209 : decode b_M_take 209 = .ok (.iload_n 3, 1) := by decide +kernel
theorem d_M_take_210 : decode b_M_take 210 = .ok (.aload_n 0, 1) := by decide +kernel
theorem d_M_take_211 : decode b_M_take 211 = .ok (.iload 8, 2) := by decide +kernel
theorem d_M_take_213 : decode b_M_take 213 = .ok (.invokevirtual 613, 3) := by decide +kernel
theorem d_M_take_216 : decode b_M_take 216 = .ok (.if_icmp .eq 5, 3) := by decide +kernel
theorem d_M_take_219 : decode b_M_take 219 = .ok (.iconst 5, 1) := by decide +kernel
theorem d_M_take_220 : decode b_M_take 220 = .ok (.ireturn, 1) := by decide +kernel
theorem d_M_take_221 : decode b_M_take 221 = .ok (.aload_n 0, 1) := by decide +kernel
theorem d_M_take_222 : decode b_M_take 222 = .ok (.iload_n 3, 1) := by decide +kernel
theorem d_M_take_223 : decode b_M_take 223 = .ok (.invokevirtual 258, 3) := by decide +kernel
theorem d_M_take_226 : decode b_M_take 226 = .ok (.pop, 1) := by decide +kernel
theorem d_M_take_227 : decode b_M_take 227 = .ok (.aload_n 0, 1) := by decide +kernel
theorem d_M_take_228 : decode b_M_take 228 = .ok (.getfield 39, 3) := by decide +kernel
theorem d_M_take_231 : decode b_M_take 231 = .ok (.bipush 8, 2) := by decide +kernel
theorem d_M_take_233 : decode b_M_take 233 = .ok (.iload 4, 2) := by decide +kernel
theorem d_M_take_235 : decode b_M_take 235 = .ok (.imul, 1) := by decide +kernel
theorem d_M_take_236 : decode b_M_take 236 = .ok (.aload_n 0, 1) := by decide +kernel
theorem d_M_take_237 : decode b_M_take 237 = .ok (.getfield 148, 3) := by decide +kernel
theorem d_M_take_240 : decode b_M_take 240 = .ok (.iconst 0, 1) := by decide +kernel
theorem d_M_take_241 : decode b_M_take 241 = .ok (.bipush 8, 2) := by decide +kernel
theorem d_M_take_243 : decode b_M_take 243 = .ok (.invokestatic 271, 3) := by decide +kernel
theorem d_M_take_246 : decode b_M_take 246 = .ok (.aload_n 0, 1) := by decide +kernel
theorem d_M_take_247 : decode b_M_take 247 = .ok (.getfield 148, 3) := by decide +kernel
theorem d_M_take_250 : decode b_M_take 250 = .ok (.aload_n 0, 1) := by decide +kernel
theorem d_M_take_251 : decode b_M_take 251 = .ok (.getfield 130, 3) := by decide +kernel
theorem d_M_take_254 : decode b_M_take 254 = .ok (.invokestatic 346, 3) := by decide +kernel
theorem d_M_take_257 : decode b_M_take 257 = .ok (.ifCond .le 6, 3) := by decide +kernel
theorem d_M_take_260 : decode b_M_take 260 = .ok (.bipush 6, 2) := by decide +kernel
theorem d_M_take_262 : decode b_M_take 262 = .ok (.ireturn, 1) := by decide +kernel
theorem d_M_take_263 : decode b_M_take 263 = .ok (.iload_n 2, 1) := by decide +kernel
theorem d_M_take_264 : decode b_M_take 264 = .ok (.aload_n 0, 1) := by decide +kernel
theorem d_M_take_265 : decode b_M_take 265 = .ok (.iload 8, 2) := by decide +kernel
theorem d_M_take_267 : decode b_M_take 267 = .ok (.invokevirtual 616, 3) := by decide +kernel
theorem d_M_take_270 : decode b_M_take 270 = .ok (.invokestatic 327, 3) := by decide +kernel
theorem d_M_take_273 : decode b_M_take 273 = .ok (.ifCond .gt 6, 3) := by decide +kernel
theorem d_M_take_276 : decode b_M_take 276 = .ok (.bipush 7, 2) := by decide +kernel
theorem d_M_take_278 : decode b_M_take 278 = .ok (.ireturn, 1) := by decide +kernel
theorem d_M_take_279 : decode b_M_take 279 = .ok (.aload_n 0, 1) := by decide +kernel
theorem d_M_take_280 : decode b_M_take 280 = .ok (.iload 7, 2) := by decide +kernel
theorem d_M_take_282 : decode b_M_take 282 = .ok (.lload 5, 2) := by decide +kernel
theorem d_M_take_284 : decode b_M_take 284 = .ok (.l2i, 1) := by decide +kernel
theorem d_M_take_285 : decode b_M_take 285 = .ok (.iload_n 1, 1) := by decide +kernel
theorem d_M_take_286 : decode b_M_take 286 = .ok (.bipush 36, 2) := by decide +kernel
theorem d_M_take_288 : decode b_M_take 288 = .ok (.iadd, 1) := by decide +kernel
theorem d_M_take_289 : decode b_M_take 289 = .ok (.invokevirtual 619, 3) := by decide +kernel
theorem d_M_take_292 : decode b_M_take 292 = .ok (.ifCond .ne 6, 3) := by decide +kernel
theorem d_M_take_295 : decode b_M_take 295 = .ok (.bipush 8, 2) := by decide +kernel
theorem d_M_take_297 : decode b_M_take 297 = .ok (.ireturn, 1) := by decide +kernel
theorem d_M_take_298 : decode b_M_take 298 = .ok (.aload_n 0, 1) := by decide +kernel
theorem d_M_take_299 : decode b_M_take 299 = .ok (.iload 7, 2) := by decide +kernel
theorem d_M_take_301 : decode b_M_take 301 = .ok (.lload 5, 2) := by decide +kernel
theorem d_M_take_303 : decode b_M_take 303 = .ok (.l2i, 1) := by decide +kernel
theorem d_M_take_304 : decode b_M_take 304 = .ok (.aload_n 0, 1) := by decide +kernel
theorem d_M_take_305 : decode b_M_take 305 = .ok (.getfield 24, 3) := by decide +kernel
theorem d_M_take_308 : decode b_M_take 308 = .ok (.iload 8, 2) := by decide +kernel
theorem d_M_take_310 : decode b_M_take 310 = .ok (.iaload, 1) := by decide +kernel
theorem d_M_take_311 : decode b_M_take 311 = .ok (.iconst 1, 1) := by decide +kernel
theorem d_M_take_312 : decode b_M_take 312 = .ok (.iadd, 1) := by decide +kernel
theorem d_M_take_313 : decode b_M_take 313 = .ok (.iload_n 2, 1) := by decide +kernel
theorem d_M_take_314 : decode b_M_take 314 = .ok (.invokevirtual 623, 3) := by decide +kernel
theorem d_M_take_317 : decode b_M_take 317 = .ok (.ifCond .ne 6, 3) := by decide +kernel
theorem d_M_take_320 : decode b_M_take 320 = .ok (.bipush 9, 2) := by decide +kernel
theorem d_M_take_322 : decode b_M_take 322 = .ok (.ireturn, 1) := by decide +kernel
theorem d_M_take_323 : decode b_M_take 323 = .ok (.aload_n 0, 1) := by decide +kernel
theorem d_M_take_324 : decode b_M_take 324 = .ok (.getfield 17, 3) := by decide +kernel
theorem d_M_take_327 : decode b_M_take 327 = .ok (.iload 4, 2) := by decide +kernel
theorem d_M_take_329 : decode b_M_take 329 = .ok (.iload_n 1, 1) := by decide +kernel
theorem d_M_take_330 : decode b_M_take 330 = .ok (.iastore, 1) := by decide +kernel
theorem d_M_take_331 : decode b_M_take 331 = .ok (.aload_n 0, 1) := by decide +kernel
theorem d_M_take_332 : decode b_M_take 332 = .ok (.getfield 21, 3) := by decide +kernel
theorem d_M_take_335 : decode b_M_take 335 = .ok (.iload 4, 2) := by decide +kernel
theorem d_M_take_337 : decode b_M_take 337 = .ok (.iload 8, 2) := by decide +kernel
theorem d_M_take_339 : decode b_M_take 339 = .ok (.iastore, 1) := by decide +kernel
theorem d_M_take_340 : decode b_M_take 340 = .ok (.aload_n 0, 1) := by decide +kernel
theorem d_M_take_341 : decode b_M_take 341 = .ok (.getfield 24, 3) := by decide +kernel
theorem d_M_take_344 : decode b_M_take 344 = .ok (.iload 4, 2) := by decide +kernel
theorem d_M_take_346 : decode b_M_take 346 = .ok (.aload_n 0, 1) := by decide +kernel
theorem d_M_take_347 : decode b_M_take 347 = .ok (.getfield 24, 3) := by decide +kernel
theorem d_M_take_350 : decode b_M_take 350 = .ok (.iload 8, 2) := by decide +kernel
theorem d_M_take_352 : decode b_M_take 352 = .ok (.iaload, 1) := by decide +kernel
theorem d_M_take_353 : decode b_M_take 353 = .ok (.iconst 1, 1) := by decide +kernel
theorem d_M_take_354 : decode b_M_take 354 = .ok (.iadd, 1) := by decide +kernel
theorem d_M_take_355 : decode b_M_take 355 = .ok (.iastore, 1) := by decide +kernel
theorem d_M_take_356 : decode b_M_take 356 = .ok (.aload_n 0, 1) := by decide +kernel
theorem d_M_take_357 : decode b_M_take 357 = .ok (.getfield 27, 3) := by decide +kernel
theorem d_M_take_360 : decode b_M_take 360 = .ok (.iload 4, 2) := by decide +kernel
theorem d_M_take_362 : decode b_M_take 362 = .ok (.iload_n 2, 1) := by decide +kernel
theorem d_M_take_363 : decode b_M_take 363 = .ok (.iastore, 1) := by decide +kernel
theorem d_M_take_364 : decode b_M_take 364 = .ok (.aload_n 0, 1) := by decide +kernel
theorem d_M_take_365 : decode b_M_take 365 = .ok (.getfield 30, 3) := by decide +kernel
theorem d_M_take_368 : decode b_M_take 368 = .ok (.iload 4, 2) := by decide +kernel
theorem d_M_take_370 : decode b_M_take 370 = .ok (.iload_n 3, 1) := by decide +kernel
theorem d_M_take_371 : decode b_M_take 371 = .ok (.iastore, 1) := by decide +kernel
theorem d_M_take_372 : decode b_M_take 372 = .ok (.aload_n 0, 1) := by decide +kernel
theorem d_M_take_373 : decode b_M_take 373 = .ok (.getfield 33, 3) := by decide +kernel
theorem d_M_take_376 : decode b_M_take 376 = .ok (.iload 4, 2) := by decide +kernel
theorem d_M_take_378 : decode b_M_take 378 = .ok (.iload 7, 2) := by decide +kernel
theorem d_M_take_380 : decode b_M_take 380 = .ok (.iastore, 1) := by decide +kernel
theorem d_M_take_381 : decode b_M_take 381 = .ok (.aload_n 0, 1) := by decide +kernel
theorem d_M_take_382 : decode b_M_take 382 = .ok (.getfield 36, 3) := by decide +kernel
theorem d_M_take_385 : decode b_M_take 385 = .ok (.iload 4, 2) := by decide +kernel
theorem d_M_take_387 : decode b_M_take 387 = .ok (.lload 5, 2) := by decide +kernel
theorem d_M_take_389 : decode b_M_take 389 = .ok (.l2i, 1) := by decide +kernel
theorem d_M_take_390 : decode b_M_take 390 = .ok (.iastore, 1) := by decide +kernel
theorem d_M_take_391 : decode b_M_take 391 = .ok (.aload_n 0, 1) := by decide +kernel
theorem d_M_take_392 : decode b_M_take 392 = .ok (.getfield 45, 3) := by decide +kernel
theorem d_M_take_395 : decode b_M_take 395 = .ok (.iload 4, 2) := by decide +kernel
theorem d_M_take_397 : decode b_M_take 397 = .ok (.iconst 0, 1) := by decide +kernel
theorem d_M_take_398 : decode b_M_take 398 = .ok (.bastore, 1) := by decide +kernel
theorem d_M_take_399 : decode b_M_take 399 = .ok (.aload_n 0, 1) := by decide +kernel
theorem d_M_take_400 : decode b_M_take 400 = .ok (.iload_n 3, 1) := by decide +kernel
theorem d_M_take_401 : decode b_M_take 401 = .ok (.invokevirtual 258, 3) := by decide +kernel
theorem d_M_take_404 : decode b_M_take 404 = .ok (.pop, 1) := by decide +kernel
theorem d_M_take_405 : decode b_M_take 405 = .ok (.aload_n 0, 1) := by decide +kernel
theorem d_M_take_406 : decode b_M_take 406 = .ok (.iload 4, 2) := by decide +kernel
theorem d_M_take_408 : decode b_M_take 408 = .ok (.invokevirtual 261, 3) := by decide +kernel
theorem d_M_take_411 : decode b_M_take 411 = .ok (.iconst 0, 1) := by decide +kernel
theorem d_M_take_412 : decode b_M_take 412 = .ok (.ireturn, 1) := by decide +kernel
abbrev rm_M_take : Room := { frames := 2, cells := 0, slots := 0, locals := 47 }
abbrev q_M_take (D : va_G) (cy : Nat → ClassId) (A : Nat → Prop) (o : Nat) (q : Nat → Nat) (g_store : Nat → Int32) (res : Int32 × (Nat → Int32)) : Array Value → State → Outcome → State → Prop := va_Qi (fun r' (_ : Unit) => r' = res.1) (fun _ t => Po D cy A [(o, .inr (12, mo q res.2)), ((q 1), .inl (cy 0, 103000, .inl g_store))] t) A
def I_M_take_92 (p : Program) (l : Launch) (e : Env) (s : State) (m : MethodId) (args : Array Value) (below : List Frame) (meth : Method) (c : Code) (D : va_G) (cy : Nat → ClassId) (A : Nat → Prop) (ad : Nat → Nat) (o : Nat) (q : Nat → Nat) (g_store : Nat → Int32) (k : Int32 → Int32 → Int32 → Int32 → Int64 → Int32 → (Nat → Int32) → Option (Int32 × (Nat → Int32))) : Prop :=
  ∀ (x1 : Int32) (x2 : Int32) (x3 : Int32) (x4 : Int32) (x5 : Int64) (x7 : Int32) (u0 : Nat → Int32) (res : Int32 × (Nat → Int32)), k x1 x2 x3 x4 x5 x7 u0 = some res → ∀ (H : Heap) (locs : List Loc) (ls : Array Slot), va_P D classes [(o, .inr (12, mo q u0)), ((q 1), .inl (cy 0, 103000, .inl g_store))] H → va_D A [(o, .inr (12, mo q u0)), ((q 1), .inl (cy 0, 103000, .inl g_store))] → va_S A s.heap H locs → lv_has ls 10 [(0, .ref o), (1, .int x1), (2, .int x2), (3, .int x3), (4, .int x4), (5, .long x5), (7, .int x7)] → W p l e rm_M_take s m args below meth c H locs 0 0 (MQ below (q_M_take D cy A o q g_store res) args s 0 0 A) (F0 m 92 ls [])
def I_M_take_64 (p : Program) (l : Launch) (e : Env) (s : State) (m : MethodId) (args : Array Value) (below : List Frame) (meth : Method) (c : Code) (D : va_G) (cy : Nat → ClassId) (A : Nat → Prop) (ad : Nat → Nat) (o : Nat) (q : Nat → Nat) (g_store : Nat → Int32) (k : Int32 → Int32 → Int32 → Int32 → Int64 → Int32 → Int64 → (Nat → Int32) → Option (Int32 × (Nat → Int32))) : Prop :=
  ∀ (x1 : Int32) (x2 : Int32) (x3 : Int32) (x4 : Int32) (x5 : Int64) (x7 : Int32) (x8 : Int64) (u0 : Nat → Int32) (res : Int32 × (Nat → Int32)), k x1 x2 x3 x4 x5 x7 x8 u0 = some res → ∀ (H : Heap) (locs : List Loc) (ls : Array Slot), va_P D classes [(o, .inr (12, mo q u0)), ((q 1), .inl (cy 0, 103000, .inl g_store))] H → va_D A [(o, .inr (12, mo q u0)), ((q 1), .inl (cy 0, 103000, .inl g_store))] → va_S A s.heap H locs → lv_has ls 10 [(0, .ref o), (1, .int x1), (2, .int x2), (3, .int x3), (4, .int x4), (5, .long x5), (7, .int x7), (8, .long x8)] → W p l e rm_M_take s m args below meth c H locs 0 0 (MQ below (q_M_take D cy A o q g_store res) args s 0 0 A) (F0 m 64 ls [])
def I_M_take_e (p : Program) (l : Launch) (e : Env) (s : State) (m : MethodId) (args : Array Value) (below : List Frame) (meth : Method) (c : Code) (D : va_G) (cy : Nat → ClassId) (A : Nat → Prop) (ad : Nat → Nat) (o : Nat) (q : Nat → Nat) (g_store : Nat → Int32) (k : Int32 → (Nat → Int32) → Option (Int32 × (Nat → Int32))) : Prop :=
  ∀ (a1 : Int32) (u0 : Nat → Int32) (res : Int32 × (Nat → Int32)), k a1 u0 = some res → ∀ (H : Heap) (locs : List Loc) (ls : Array Slot), va_P D classes [(o, .inr (12, mo q u0)), ((q 1), .inl (cy 0, 103000, .inl g_store))] H → va_D A [(o, .inr (12, mo q u0)), ((q 1), .inl (cy 0, 103000, .inl g_store))] → va_S A s.heap H locs → lv_has ls 10 [(0, .ref o), (1, .int a1)] → W p l e rm_M_take s m args below meth c H locs 0 0 (MQ below (q_M_take D cy A o q g_store res) args s 0 0 A) (F0 m 0 ls [])
def xb_M_take_92 (fu : Nat) (g_store : Nat → Int32) (x1 : Int32) (x2 : Int32) (x3 : Int32) (x4 : Int32) (x5 : Int64) (x7 : Int32) (u0 : Nat → Int32) : Option (Int32 × (Nat → Int32)) :=
  if (u0 18) = 0 then (if (u0 16) = (u0 17) then (none) else (some ((1 : Int32), u0))) else (some ((1 : Int32), u0))
set_option maxHeartbeats 8000000 in
set_option maxRecDepth 100000 in
theorem wb_M_take_92 {p : Program} {l : Launch} {e : Env} {s : State} {m : MethodId} {args : Array Value} {below : List Frame} {meth : Method} {c : Code} {D : va_G} {cy : Nat → ClassId} {A : Nat → Prop} {ad : Nat → Nat} {o : Nat} {q : Nat → Nat} {g_store : Nat → Int32} {fu : Nat} (F : Fx p s m args meth c b_M_take 10 "CoinKeeperModel" "take" (some .int) D cy ad A) : I_M_take_92 p l e s m args below meth c D cy A ad o q g_store (xb_M_take_92 fu g_store) := by
  obtain ⟨hx, hb, hr, hml, hown, hts, hlocks, hK, hA, hSt, hnm, hex⟩ := id F
  intro x1 x2 x3 x4 x5 x7 u0 res hf H locs ls hP hD hS hl
  unfold xb_M_take_92 at hf
  refine lv_aload_n hx hb d_M_take_92 rfl (lv_at hl 0 rfl) ?_
  refine va_get (D := D) (ci := 12) (v := .int (u0 18)) (C := "CoinKeeperModel") (T := F_12) (N := 98) hx hb hts i_12 hown hK hP 0 rfl rfl 91 (by decide) (hts _ gw_1510) (fun _ h9 => h9) rfl d_M_take_93 ?_
  refine lv_if_ne (tgt := 110) hx hb d_M_take_96 (by decide) (fun cx => ?_) (fun cx => ?_)
  · have hf := ifn cx hf
    refine lv_iconst (v := 1) hx hb d_M_take_110 (by decide) ?_
    obtain rfl := Option.some.inj hf
    exact q_ri hx hb hr hlocks hK hP hD hS d_M_take_111
  · have hf := ifp cx hf
    refine lv_aload_n hx hb d_M_take_99 rfl (lv_at hl 0 rfl) ?_
    refine va_get (D := D) (ci := 12) (v := .int (u0 16)) (C := "CoinKeeperModel") (T := F_12) (N := 98) hx hb hts i_12 hown hK hP 0 rfl rfl 89 (by decide) (hts _ gw_1508) (fun _ h9 => h9) rfl d_M_take_100 ?_
    refine lv_aload_n hx hb d_M_take_103 rfl (lv_at hl 0 rfl) ?_
    refine va_get (D := D) (ci := 12) (v := .int (u0 17)) (C := "CoinKeeperModel") (T := F_12) (N := 98) hx hb hts i_12 hown hK hP 0 rfl rfl 90 (by decide) (hts _ gw_1509) (fun _ h9 => h9) rfl d_M_take_104 ?_
    refine lv_icmp_eq (tgt := 112) hx hb d_M_take_107 (by decide) (fun cx => ?_) (fun cx => ?_)
    · have hf := ifp cx hf
      refine lv_aload_n hx hb d_M_take_112 rfl (lv_at hl 0 rfl) ?_
      refine lv_aload_n hx hb d_M_take_113 rfl (lv_at hl 0 rfl) ?_
      refine va_get (D := D) (ci := 12) (v := .ref (q 1)) (C := "CoinKeeperModel") (T := F_12) (N := 98) hx hb hts i_12 hown hK hP 0 rfl rfl 1 (by decide) (hts _ gw_1420) (fun _ h9 => h9) rfl d_M_take_114 ?_
      refine lv_iload_n hx hb d_M_take_117 rfl (lv_at hl 1 rfl) ?_
      refine lv_bipush (v := 80) hx hb d_M_take_118 (by decide) ?_
      exact nomatch hf
    · have hf := ifn cx hf
      refine lv_iconst (v := 1) hx hb d_M_take_110 (by decide) ?_
      obtain rfl := Option.some.inj hf
      exact q_ri hx hb hr hlocks hK hP hD hS d_M_take_111
def xb_M_take_64 (fu : Nat) (g_store : Nat → Int32) (k_64 : Int32 → Int32 → Int32 → Int32 → Int64 → Int32 → Int64 → (Nat → Int32) → Option (Int32 × (Nat → Int32))) (x1 : Int32) (x2 : Int32) (x3 : Int32) (x4 : Int32) (x5 : Int64) (x7 : Int32) (x8 : Int64) (u0 : Nat → Int32) : Option (Int32 × (Nat → Int32)) :=
  if 0 ≤ (lg_cmp x8 x5) then (xb_M_take_92 fu g_store x1 x2 x3 x4 x5 x7 u0) else (if (u0 18) = 0 then (none) else (xb_M_take_92 fu g_store x1 x2 x3 x4 x5 x7 u0))
set_option maxHeartbeats 8000000 in
set_option maxRecDepth 100000 in
theorem wb_M_take_64 {p : Program} {l : Launch} {e : Env} {s : State} {m : MethodId} {args : Array Value} {below : List Frame} {meth : Method} {c : Code} {D : va_G} {cy : Nat → ClassId} {A : Nat → Prop} {ad : Nat → Nat} {o : Nat} {q : Nat → Nat} {g_store : Nat → Int32} {fu : Nat} {k_64 : Int32 → Int32 → Int32 → Int32 → Int64 → Int32 → Int64 → (Nat → Int32) → Option (Int32 × (Nat → Int32))} (F : Fx p s m args meth c b_M_take 10 "CoinKeeperModel" "take" (some .int) D cy ad A) (hk_64 : I_M_take_64 p l e s m args below meth c D cy A ad o q g_store k_64) : I_M_take_64 p l e s m args below meth c D cy A ad o q g_store (xb_M_take_64 fu g_store k_64) := by
  obtain ⟨hx, hb, hr, hml, hown, hts, hlocks, hK, hA, hSt, hnm, hex⟩ := id F
  intro x1 x2 x3 x4 x5 x7 x8 u0 res hf H locs ls hP hD hS hl
  unfold xb_M_take_64 at hf
  refine lv_lload hx hb d_M_take_64 (lv_at hl 7 rfl) ?_
  refine lv_lload hx hb d_M_take_66 (lv_at hl 5 rfl) ?_
  refine W.lcmp hx hb d_M_take_68 ?_
  refine lv_if_ge (tgt := 92) hx hb d_M_take_69 (by decide) (fun cx => ?_) (fun cx => ?_)
  · have hf := ifp cx hf
    exact wb_M_take_92 (fu := fu) F _ _ _ _ _ _ _ _ hf _ _ _ hP hD hS (lv_sub hl [0, 1, 2, 3, 4, 5, 6] rfl)
  · have hf := ifn cx hf
    refine lv_aload_n hx hb d_M_take_72 rfl (lv_at hl 0 rfl) ?_
    refine va_get (D := D) (ci := 12) (v := .int (u0 18)) (C := "CoinKeeperModel") (T := F_12) (N := 98) hx hb hts i_12 hown hK hP 0 rfl rfl 91 (by decide) (hts _ gw_1510) (fun _ h9 => h9) rfl d_M_take_73 ?_
    refine lv_if_ne (tgt := 92) hx hb d_M_take_76 (by decide) (fun cx => ?_) (fun cx => ?_)
    · have hf := ifn cx hf
      exact wb_M_take_92 (fu := fu) F _ _ _ _ _ _ _ _ hf _ _ _ hP hD hS (lv_sub hl [0, 1, 2, 3, 4, 5, 6] rfl)
    · have hf := ifp cx hf
      refine lv_aload_n hx hb d_M_take_79 rfl (lv_at hl 0 rfl) ?_
      exact nomatch hf
def x_M_take_64 (fu : Nat) (g_store : Nat → Int32) : Nat → Int32 → Int32 → Int32 → Int32 → Int64 → Int32 → Int64 → (Nat → Int32) → Option (Int32 × (Nat → Int32))
  | 0 => fun _ _ _ _ _ _ _ _ => none
  | n + 1 => xb_M_take_64 fu g_store (x_M_take_64 fu g_store n)
theorem w_M_take_64 {p : Program} {l : Launch} {e : Env} {s : State} {m : MethodId} {args : Array Value} {below : List Frame} {meth : Method} {c : Code} {D : va_G} {cy : Nat → ClassId} {A : Nat → Prop} {ad : Nat → Nat} {o : Nat} {q : Nat → Nat} {g_store : Nat → Int32} {fu : Nat} (F : Fx p s m args meth c b_M_take 10 "CoinKeeperModel" "take" (some .int) D cy ad A) : ∀ n : Nat, I_M_take_64 p l e s m args below meth c D cy A ad o q g_store (x_M_take_64 fu g_store n)
  | 0 => fun _ _ _ _ _ _ _ _ _ hf => nomatch (show (none : Option (Int32 × (Nat → Int32))) = some _ from hf)
  | n + 1 => wb_M_take_64 F (w_M_take_64 F n)
theorem hdb_17 : ({ cls := "CoinKeeperModel", name := "skip", desc := "(J)V" } : Jvm.MethodName).cls ≠ "java/lang/invoke/MethodHandle" ∧ ({ cls := "CoinKeeperModel", name := "skip", desc := "(J)V" } : Jvm.MethodName).cls ≠ "java/lang/invoke/VarHandle" ∧ (parseMethodDescriptor ({ cls := "CoinKeeperModel", name := "skip", desc := "(J)V" } : Jvm.MethodName).desc).map (fun d => d.parameters.length) = some 1 := by decide +kernel
theorem hdb_18 : ({ cls := "CoinKeeperModel", name := "count", desc := "()J" } : Jvm.MethodName).cls ≠ "java/lang/invoke/MethodHandle" ∧ ({ cls := "CoinKeeperModel", name := "count", desc := "()J" } : Jvm.MethodName).cls ≠ "java/lang/invoke/VarHandle" ∧ (parseMethodDescriptor ({ cls := "CoinKeeperModel", name := "count", desc := "()J" } : Jvm.MethodName).desc).map (fun d => d.parameters.length) = some 0 := by decide +kernel
def x_M_take (fu : Nat) (g_store : Nat → Int32) (a1 : Int32) (u0 : Nat → Int32) : Option (Int32 × (Nat → Int32)) :=
  bnd (upd u0 16 a1) fun z1 => bnd (upd z1 18 (0 : Int32)) fun z2 => bd2 (x_M_get fu g_store (4 : Int32) z2) fun v3 f4 => bd1 (x_M_skip fu (64 : Int64) f4) fun f5 => bd2 (x_M_get fu g_store (4 : Int32) f5) fun v6 f7 => bnd (v6.toInt32) fun v8 => bd2 (x_M_get fu g_store (4 : Int32) f7) fun v9 f10 => bnd (v9.toInt32) fun v11 => bd2 (x_M_get fu g_store (4 : Int32) f10) fun v12 f13 => bd2 (x_M_count0 fu g_store f13) fun v14 f15 => x_M_take_64 fu g_store fu a1 v8 v11 (f10 3) v14 (f15 5) (0 : Int64) f15
set_option maxHeartbeats 8000000 in
set_option maxRecDepth 100000 in
theorem we_M_take {p : Program} {l : Launch} {e : Env} {s : State} {m : MethodId} {args : Array Value} {below : List Frame} {meth : Method} {c : Code} {D : va_G} {cy : Nat → ClassId} {A : Nat → Prop} {ad : Nat → Nat} {o : Nat} {q : Nat → Nat} {g_store : Nat → Int32} {fu : Nat} (F : Fx p s m args meth c b_M_take 10 "CoinKeeperModel" "take" (some .int) D cy ad A) : I_M_take_e p l e s m args below meth c D cy A ad o q g_store (x_M_take fu g_store) := by
  obtain ⟨hx, hb, hr, hml, hown, hts, hlocks, hK, hA, hSt, hnm, hex⟩ := id F
  intro a1 u0 res hf H locs ls hP hD hS hl
  unfold x_M_take at hf
  refine lv_aload_n hx hb d_M_take_0 rfl (lv_at hl 0 rfl) ?_
  refine lv_iload_n hx hb d_M_take_1 rfl (lv_at hl 1 rfl) ?_
  refine va_put (D := D) (ci := 12) (v := .int a1) (ty := .int) (C := "CoinKeeperModel") (T := F_12) (N := 98) hx hb hts i_12 t_12 t_12_ok n_12 hown hK hP hD hS 0 rfl rfl 89 (by decide) (hts _ gw_1508) (fun _ h9 => h9) rfl (by decide +kernel) rfl rfl (Nat.le_of_ble_eq_true rfl) d_M_take_2 (fun H locs hP hD hS => ?_)
  obtain ⟨z1, ev, hf⟩ := bne hf
  have hP : va_P D classes [(o, .inr (12, mo q z1)), ((q 1), .inl (cy 0, 103000, .inl g_store))] H := by rw [ev]; exact hP
  have hD : va_D A [(o, .inr (12, mo q z1)), ((q 1), .inl (cy 0, 103000, .inl g_store))] := by rw [ev]; exact hD
  clear ev
  refine lv_aload_n hx hb d_M_take_5 rfl (lv_at hl 0 rfl) ?_
  refine lv_iconst (v := 0) hx hb d_M_take_6 (by decide) ?_
  refine va_put (D := D) (ci := 12) (v := .int (0 : Int32)) (ty := .boolean) (C := "CoinKeeperModel") (T := F_12) (N := 98) hx hb hts i_12 t_12 t_12_ok n_12 hown hK hP hD hS 0 rfl rfl 91 (by decide) (hts _ gw_1510) (fun _ h9 => h9) rfl (by decide +kernel) (isb_n (v := 0) (by decide)) (isb_f (v := 0) (by decide)) (Nat.le_of_ble_eq_true rfl) d_M_take_7 (fun H locs hP hD hS => ?_)
  obtain ⟨z2, ev, hf⟩ := bne hf
  have hP : va_P D classes [(o, .inr (12, mo q z2)), ((q 1), .inl (cy 0, 103000, .inl g_store))] H := by rw [ev]; exact hP
  have hD : va_D A [(o, .inr (12, mo q z2)), ((q 1), .inl (cy 0, 103000, .inl g_store))] := by rw [ev]; exact hD
  clear ev
  refine lv_aload_n hx hb d_M_take_10 rfl (lv_at hl 0 rfl) ?_
  refine lv_iconst (v := 4) hx hb d_M_take_11 (by decide) ?_
  obtain ⟨v3, f4, hc, hf⟩ := bdp2 hf
  refine q_al (wr := []) (va_runV (C := "CoinKeeperModel") (As := [.int (4 : Int32)]) (rest := []) ⟨hx, hb, hml, hown, hts⟩ (c_M_get l D cy ad fu o q g_store (4 : Int32) z2 _ hc H.size) ⟨q_cB hts gw_1742 gw_18 gw_1739 hdb_16 ⟨by decide, by decide⟩, hts _ gw_1741, hts _ gs_68⟩ (q_preV (q_pre (hP.sub [0, 1] rfl) (hD.sub [0, 1] (by decide) rfl) hK hSt hS (va_free hD hS hA [0, 1] rfl) _) (va_recv hK (hP.sub [0, 1] rfl) (ci := 12) (q0 := 0) rfl rfl)) rfl rfl hl.1 rfl (lv_room (Nat.le_of_ble_eq_true rfl)) d_M_take_12 ⟨Nat.le_of_ble_eq_true rfl, Nat.le_of_ble_eq_true rfl⟩) hP hD hS hA [0, 1] [] rfl rfl (by decide) (by decide) (fun H locs hP hD hS => ?_)
  clear hc
  have hP : va_P D classes [(o, .inr (12, mo q f4)), ((q 1), .inl (cy 0, 103000, .inl g_store))] H := hP
  have hD : va_D A [(o, .inr (12, mo q f4)), ((q 1), .inl (cy 0, 103000, .inl g_store))] := hD
  refine lv_pop2_2 hx hb d_M_take_15 rfl ?_
  refine lv_aload_n hx hb d_M_take_16 rfl (lv_at hl 0 rfl) ?_
  refine lv_ldc2 (v := 64) hx hb hown (hts _ gw_1743) d_M_take_17 ?_
  obtain ⟨f5, hc, hf⟩ := bdp1 hf
  refine q_av (wr := [((q 1), .inl (cy 0, 103000, .inl g_store))]) (va_runV (C := "CoinKeeperModel") (As := [.long (64 : Int64)]) (rest := []) ⟨hx, hb, hml, hown, hts⟩ (c_M_skip l D cy ad fu o q (64 : Int64) f4 _ hc H.size) ⟨q_cB hts gw_1747 gw_18 gw_1744 hdb_17 ⟨by decide, by decide⟩, hts _ gw_1746, hts _ gs_69⟩ (q_preV (q_pre (hP.sub [0] rfl) (hD.sub [0] (by decide) rfl) hK hSt hS (va_free hD hS hA [0] rfl) _) (va_recv hK (hP.sub [0] rfl) (ci := 12) (q0 := 0) rfl rfl)) rfl rfl hl.1 rfl (lv_room (Nat.le_of_ble_eq_true rfl)) d_M_take_20 ⟨Nat.le_of_ble_eq_true rfl, Nat.le_of_ble_eq_true rfl⟩) hP hD hS hA [0] [1] rfl rfl (by decide) (by decide) (fun H locs hP hD hS => ?_)
  clear hc
  have hP : va_P D classes [((q 1), .inl (cy 0, 103000, .inl g_store)), (o, .inr (12, mo q f5))] H := hP
  have hD : va_D A [((q 1), .inl (cy 0, 103000, .inl g_store)), (o, .inr (12, mo q f5))] := hD
  refine lv_aload_n hx hb d_M_take_23 rfl (lv_at hl 0 rfl) ?_
  refine lv_iconst (v := 4) hx hb d_M_take_24 (by decide) ?_
  obtain ⟨v6, f7, hc, hf⟩ := bdp2 hf
  refine q_al (wr := []) (va_runV (C := "CoinKeeperModel") (As := [.int (4 : Int32)]) (rest := []) ⟨hx, hb, hml, hown, hts⟩ (c_M_get l D cy ad fu o q g_store (4 : Int32) f5 _ hc H.size) ⟨q_cB hts gw_1742 gw_18 gw_1739 hdb_16 ⟨by decide, by decide⟩, hts _ gw_1741, hts _ gs_68⟩ (q_preV (q_pre (hP.sub [1, 0] rfl) (hD.sub [1, 0] (by decide) rfl) hK hSt hS (va_free hD hS hA [1, 0] rfl) _) (va_recv hK (hP.sub [1, 0] rfl) (ci := 12) (q0 := 0) rfl rfl)) rfl rfl hl.1 rfl (lv_room (Nat.le_of_ble_eq_true rfl)) d_M_take_25 ⟨Nat.le_of_ble_eq_true rfl, Nat.le_of_ble_eq_true rfl⟩) hP hD hS hA [1, 0] [] rfl rfl (by decide) (by decide) (fun H locs hP hD hS => ?_)
  clear hc
  have hP : va_P D classes [(o, .inr (12, mo q f7)), ((q 1), .inl (cy 0, 103000, .inl g_store))] H := hP
  have hD : va_D A [(o, .inr (12, mo q f7)), ((q 1), .inl (cy 0, 103000, .inl g_store))] := hD
  refine lv_l2i hx hb d_M_take_28 rfl ?_
  refine lv_topi (fun v8 ev => ?_)
  have hf := bn ev hf
  clear ev
  refine lv_istore_n (lv' := [(2, .int v8), (0, .ref o), (1, .int a1)]) hx hb d_M_take_29 rfl hl (by decide) rfl (fun ls hl => ?_)
  refine lv_aload_n hx hb d_M_take_30 rfl (lv_at hl 1 rfl) ?_
  refine lv_iconst (v := 4) hx hb d_M_take_31 (by decide) ?_
  obtain ⟨v9, f10, hc, hf⟩ := bdp2 hf
  refine q_al (wr := []) (va_runV (C := "CoinKeeperModel") (As := [.int (4 : Int32)]) (rest := []) ⟨hx, hb, hml, hown, hts⟩ (c_M_get l D cy ad fu o q g_store (4 : Int32) f7 _ hc H.size) ⟨q_cB hts gw_1742 gw_18 gw_1739 hdb_16 ⟨by decide, by decide⟩, hts _ gw_1741, hts _ gs_68⟩ (q_preV (q_pre (hP.sub [0, 1] rfl) (hD.sub [0, 1] (by decide) rfl) hK hSt hS (va_free hD hS hA [0, 1] rfl) _) (va_recv hK (hP.sub [0, 1] rfl) (ci := 12) (q0 := 0) rfl rfl)) rfl rfl hl.1 rfl (lv_room (Nat.le_of_ble_eq_true rfl)) d_M_take_32 ⟨Nat.le_of_ble_eq_true rfl, Nat.le_of_ble_eq_true rfl⟩) hP hD hS hA [0, 1] [] rfl rfl (by decide) (by decide) (fun H locs hP hD hS => ?_)
  clear hc
  have hP : va_P D classes [(o, .inr (12, mo q f10)), ((q 1), .inl (cy 0, 103000, .inl g_store))] H := hP
  have hD : va_D A [(o, .inr (12, mo q f10)), ((q 1), .inl (cy 0, 103000, .inl g_store))] := hD
  refine lv_l2i hx hb d_M_take_35 rfl ?_
  refine lv_topi (fun v11 ev => ?_)
  have hf := bn ev hf
  clear ev
  refine lv_istore_n (lv' := [(3, .int v11), (2, .int v8), (0, .ref o), (1, .int a1)]) hx hb d_M_take_36 rfl hl (by decide) rfl (fun ls hl => ?_)
  refine lv_aload_n hx hb d_M_take_37 rfl (lv_at hl 2 rfl) ?_
  refine va_get (D := D) (ci := 12) (v := .int (f10 3)) (C := "CoinKeeperModel") (T := F_12) (N := 98) hx hb hts i_12 hown hK hP 0 rfl rfl 15 (by decide) (hts _ gw_1434) (fun _ h9 => h9) rfl d_M_take_38 ?_
  refine lv_istore (lv' := [(4, .int (f10 3)), (3, .int v11), (2, .int v8), (0, .ref o), (1, .int a1)]) hx hb d_M_take_41 hl (by decide) rfl (fun ls hl => ?_)
  refine lv_aload_n hx hb d_M_take_43 rfl (lv_at hl 3 rfl) ?_
  refine lv_iconst (v := 4) hx hb d_M_take_44 (by decide) ?_
  obtain ⟨v12, f13, hc, hf⟩ := bdp2 hf
  refine q_al (wr := []) (va_runV (C := "CoinKeeperModel") (As := [.int (4 : Int32)]) (rest := []) ⟨hx, hb, hml, hown, hts⟩ (c_M_get l D cy ad fu o q g_store (4 : Int32) f10 _ hc H.size) ⟨q_cB hts gw_1742 gw_18 gw_1739 hdb_16 ⟨by decide, by decide⟩, hts _ gw_1741, hts _ gs_68⟩ (q_preV (q_pre (hP.sub [0, 1] rfl) (hD.sub [0, 1] (by decide) rfl) hK hSt hS (va_free hD hS hA [0, 1] rfl) _) (va_recv hK (hP.sub [0, 1] rfl) (ci := 12) (q0 := 0) rfl rfl)) rfl rfl hl.1 rfl (lv_room (Nat.le_of_ble_eq_true rfl)) d_M_take_45 ⟨Nat.le_of_ble_eq_true rfl, Nat.le_of_ble_eq_true rfl⟩) hP hD hS hA [0, 1] [] rfl rfl (by decide) (by decide) (fun H locs hP hD hS => ?_)
  clear hc
  have hP : va_P D classes [(o, .inr (12, mo q f13)), ((q 1), .inl (cy 0, 103000, .inl g_store))] H := hP
  have hD : va_D A [(o, .inr (12, mo q f13)), ((q 1), .inl (cy 0, 103000, .inl g_store))] := hD
  refine lv_pop2_2 hx hb d_M_take_48 rfl ?_
  refine lv_aload_n hx hb d_M_take_49 rfl (lv_at hl 3 rfl) ?_
  obtain ⟨v14, f15, hc, hf⟩ := bdp2 hf
  refine q_al (wr := []) (va_runV (C := "CoinKeeperModel") (As := []) (rest := []) ⟨hx, hb, hml, hown, hts⟩ (c_M_count0 l D cy ad fu o q g_store f13 _ hc H.size) ⟨q_cB hts gw_1751 gw_18 gw_1748 hdb_18 ⟨by decide, by decide⟩, hts _ gw_1750, hts _ gs_70⟩ (q_preV (q_pre (hP.sub [0, 1] rfl) (hD.sub [0, 1] (by decide) rfl) hK hSt hS (va_free hD hS hA [0, 1] rfl) _) (va_recv hK (hP.sub [0, 1] rfl) (ci := 12) (q0 := 0) rfl rfl)) rfl rfl hl.1 rfl (lv_room (Nat.le_of_ble_eq_true rfl)) d_M_take_50 ⟨Nat.le_of_ble_eq_true rfl, Nat.le_of_ble_eq_true rfl⟩) hP hD hS hA [0, 1] [] rfl rfl (by decide) (by decide) (fun H locs hP hD hS => ?_)
  clear hc
  have hP : va_P D classes [(o, .inr (12, mo q f15)), ((q 1), .inl (cy 0, 103000, .inl g_store))] H := hP
  have hD : va_D A [(o, .inr (12, mo q f15)), ((q 1), .inl (cy 0, 103000, .inl g_store))] := hD
  refine lv_lstore (lv' := [(5, .long v14), (4, .int (f10 3)), (3, .int v11), (2, .int v8), (0, .ref o), (1, .int a1)]) hx hb d_M_take_53 hl (by decide) rfl (fun ls hl => ?_)
  refine lv_aload_n hx hb d_M_take_55 rfl (lv_at hl 4 rfl) ?_
  refine va_get (D := D) (ci := 12) (v := .int (f15 5)) (C := "CoinKeeperModel") (T := F_12) (N := 98) hx hb hts i_12 hown hK hP 0 rfl rfl 25 (by decide) (hts _ gw_1444) (fun _ h9 => h9) rfl d_M_take_56 ?_
  refine lv_istore (lv' := [(7, .int (f15 5)), (5, .long v14), (4, .int (f10 3)), (3, .int v11), (2, .int v8), (0, .ref o), (1, .int a1)]) hx hb d_M_take_59 hl (by decide) rfl (fun ls hl => ?_)
  refine lv_lconst (v := 0) hx hb d_M_take_61 (by decide) ?_
  refine lv_lstore (lv' := [(8, .long (0 : Int64)), (7, .int (f15 5)), (5, .long v14), (4, .int (f10 3)), (3, .int v11), (2, .int v8), (0, .ref o), (1, .int a1)]) hx hb d_M_take_62 hl (by decide) rfl (fun ls hl => ?_)
  exact w_M_take_64 F fu _ _ _ _ _ _ _ _ _ hf _ _ _ hP hD hS (lv_sub hl [6, 7, 5, 4, 3, 2, 1, 0] rfl)
theorem c_M_take (l : Launch) (D : va_G) (cy : Nat → ClassId) (ad : Nat → Nat) (fu : Nat) (o : Nat) (q : Nat → Nat) (g_store : Nat → Int32) (a1 : Int32) (u0 : Nat → Int32) (res : Int32 × (Nat → Int32)) (hf : x_M_take fu g_store a1 u0 = some res) (sz : Nat) : Met l ({ cls := "CoinKeeperModel", name := "take", desc := "(I)I" } : Jvm.MethodName) (.code ({ cls := "CoinKeeperModel", name := "take", desc := "(I)I" } : Jvm.MethodName) b_M_take 10 (some .int) :: gw) rm_M_take (va_Pc [.ref o, .int a1] (Pr D cy ad [(o, .inr (12, mo q u0)), ((q 1), .inl (cy 0, 103000, .inl g_store))] sz)) (q_M_take D cy (va_A [(o, .inr (12, mo q u0)), ((q 1), .inl (cy 0, 103000, .inl g_store))] sz) o q g_store res) 0 0 (va_A [(o, .inr (12, mo q u0)), ((q 1), .inl (cy 0, 103000, .inl g_store))] sz) :=
  q_met (Qc := fun A => q_M_take D cy A o q g_store res) (by decide) rfl rfl (Nat.le_of_ble_eq_true rfl) (fun p e s m below meth c ls F hP hD hS hl => we_M_take (fu := fu) F a1 u0 res hf _ _ _ hP hD hS hl) sz
abbrev b_M_submit : ByteArray := prog_14_method_84_code
theorem d_M_submit_0 : decode b_M_submit 0 = .ok (.aload_n 0, 1) := by decide +kernel
theorem d_M_submit_1 : decode b_M_submit 1 = .ok (.aload_n 0, 1) := by decide +kernel
theorem d_M_submit_2 : decode b_M_submit 2 = .ok (.getfield 252, 3) := by decide +kernel
theorem d_M_submit_5 : decode b_M_submit 5 = .ok (.iconst 1, 1) := by decide +kernel
theorem d_M_submit_6 : decode b_M_submit 6 = .ok (.isub, 1) := by decide +kernel
theorem d_M_submit_7 : decode b_M_submit 7 = .ok (.sipush 200, 3) := by decide +kernel
theorem d_M_submit_10 : decode b_M_submit 10 = .ok (.if_icmp .eq 18, 3) := by decide +kernel
theorem d_M_submit_13 : decode b_M_submit 13 = .ok (.aload_n 0, 1) := by decide +kernel
theorem d_M_submit_14 : decode b_M_submit 14 = .ok (.getfield 662, 3) := by decide +kernel
theorem d_M_submit_17 : decode b_M_submit 17 = .ok (.aload_n 0, 1) := by decide +kernel
theorem d_M_submit_18 : decode b_M_submit 18 = .ok (.getfield 656, 3) := by decide +kernel
theorem d_M_submit_21 : decode b_M_submit 21 = .ok (.iadd, 1) := by decide +kernel
theorem d_M_submit_22 : decode b_M_submit 22 = .ok (.ldc_w 665, 3) := by decide +kernel
theorem d_M_submit_25 : decode b_M_submit 25 = .ok (.if_icmp .le 7, 3) := by decide +kernel
theorem d_M_submit_28 : decode b_M_submit 28 = .ok (.iconst 1, 1) := by decide +kernel
theorem d_M_submit_29 : decode b_M_submit 29 = .ok (.goto 4, 3) := by decide +kernel
theorem d_M_submit_32 : decode b_M_submit 32 = .ok (.iconst 0, 1) := by decide +kernel
theorem d_M_submit_33 : decode b_M_submit 33 = .ok (.putfield 268, 3) := by decide +kernel
theorem d_M_submit_36 : decode b_M_submit 36 = .ok (.aload_n 0, 1) := by decide +kernel
theorem d_M_submit_37 : decode b_M_submit 37 = .ok (.getfield 268, 3) := by decide +kernel
theorem d_M_submit_40 : decode b_M_submit 40 = .ok (.ifCond .le 5, 3) := by decide +kernel
theorem d_M_submit_43 : decode b_M_submit 43 = .ok (.iconst 0, 1) := by decide +kernel
theorem d_M_submit_44 : decode b_M_submit 44 = .ok (.ireturn, 1) := by decide +kernel
theorem d_M_submit_45 : decode b_M_submit 45 = .ok (.aload_n 0, 1) := by decide +kernel
theorem d_M_submit_46 : decode b_M_submit 46 = .ok (.getfield 553, 3) := by decide +kernel
theorem d_M_submit_49 : decode b_M_submit 49 = .ok (.istore_n 1, 1) := by decide +kernel
theorem d_M_submit_50 : decode b_M_submit 50 = .ok (.aload_n 0, 1) := by decide +kernel
theorem d_M_submit_51 : decode b_M_submit 51 = .ok (.getfield 556, 3) := by decide +kernel
theorem d_M_submit_54 : decode b_M_submit 54 = .ok (.istore_n 2, 1) := by decide +kernel
theorem d_M_submit_55 : decode b_M_submit 55 = .ok (.aload_n 0, 1) := by decide +kernel
theorem d_M_submit_56 : decode b_M_submit 56 = .ok (.getfield 567, 3) := by decide +kernel
theorem d_M_submit_59 : decode b_M_submit 59 = .ok (.istore_n 3, 1) := by decide +kernel
theorem d_M_submit_60 : decode b_M_submit 60 = .ok (.aload_n 0, 1) := by decide +kernel
theorem d_M_submit_61 : decode b_M_submit 61 = .ok (.getfield 9, 3) := by decide +kernel
theorem d_M_submit_64 : decode b_M_submit 64 = .ok (.iconst 0, 1) := by decide +kernel
theorem d_M_submit_65 : decode b_M_submit 65 = .ok (.aload_n 0, 1) := by decide +kernel
theorem d_M_submit_66 : decode b_M_submit 66 = .ok (.getfield 14, 3) := by decide +kernel
theorem d_M_submit_69 : decode b_M_submit 69 = .ok (.aload_n 0, 1) := by decide +kernel
theorem d_M_submit_70 : decode b_M_submit 70 = .ok (.getfield 662, 3) := by decide +kernel
theorem d_M_submit_73 : decode b_M_submit 73 = .ok (.aload_n 0, 1) := by decide +kernel
theorem d_M_submit_74 : decode b_M_submit 74 = .ok (.getfield 656, 3) := by decide +kernel
theorem d_M_submit_77 : decode b_M_submit 77 = .ok (.invokestatic 271, 3) := by decide +kernel
theorem d_M_submit_80 : decode b_M_submit 80 = .ok (.aload_n 0, 1) := by decide +kernel
theorem d_M_submit_81 : decode b_M_submit 81 = .ok (.aload_n 0, 1) := by decide +kernel
theorem d_M_submit_82 : decode b_M_submit 82 = .ok (.getfield 662, 3) := by decide +kernel
theorem d_M_submit_85 : decode b_M_submit 85 = .ok (.aload_n 0, 1) := by decide +kernel
theorem d_M_submit_86 : decode b_M_submit 86 = .ok (.getfield 656, 3) := by decide +kernel
theorem d_M_submit_89 : decode b_M_submit 89 = .ok (.iadd, 1) := by decide +kernel
theorem d_M_submit_90 : decode b_M_submit 90 = .ok (.putfield 540, 3) := by decide +kernel
theorem d_M_submit_93 : decode b_M_submit 93 = .ok (.aload_n 0, 1) := by decide +kernel
theorem d_M_submit_94 : decode b_M_submit 94 = .ok (.getfield 656, 3) := by decide +kernel
theorem d_M_submit_97 : decode b_M_submit 97 = .ok (.istore 4, 2) := by decide +kernel
theorem d_M_submit_99 : decode b_M_submit 99 = .ok (.aload_n 0, 1) := by decide +kernel
theorem d_M_submit_100 : decode b_M_submit 100 = .ok (.aload_n 0, 1) := by decide +kernel
theorem d_M_submit_101 : decode b_M_submit 101 = .ok (.getfield 662, 3) := by decide +kernel
theorem d_M_submit_104 : decode b_M_submit 104 = .ok (.invokevirtual 666, 3) := by decide +kernel
theorem d_M_submit_107 : decode b_M_submit 107 = .ok (.istore 5, 2) := by decide +kernel
theorem d_M_submit_109 : decode b_M_submit 109 = .ok (.aload_n 0, 1) := by decide +kernel
theorem d_M_submit_110 : decode b_M_submit 110 = .ok (.iconst 0, 1) := by decide +kernel
theorem d_M_submit_111 : decode b_M_submit 111 = .ok (.putfield 656, 3) := by decide +kernel
theorem d_M_submit_114 : decode b_M_submit 114 = .ok (.iload 5, 2) := by decide +kernel
theorem d_M_submit_116 : decode b_M_submit 116 = .ok (.ifCond .le 21, 3) := by decide +kernel
theorem d_M_submit_119 : decode b_M_submit 119 = .ok (.aload_n 0, 1) := by decide +kernel
theorem d_M_submit_120 : decode b_M_submit 120 = .ok (.iload_n 1, 1) := by decide +kernel
theorem d_M_submit_121 : decode b_M_submit 121 = .ok (.putfield 553, 3) := by decide +kernel
theorem d_M_submit_124 : decode b_M_submit 124 = .ok (.aload_n 0, 1) := by decide +kernel
theorem d_M_submit_125 : decode b_M_submit 125 = .ok (.iload_n 2, 1) := by decide +kernel
theorem d_M_submit_126 : decode b_M_submit 126 = .ok (.putfield 556, 3) := by decide +kernel
theorem d_M_submit_129 : decode b_M_submit 129 = .ok (.aload_n 0, 1) := by decide +kernel
theorem d_M_submit_130 : decode b_M_submit 130 = .ok (.iload_n 3, 1) := by decide +kernel
theorem d_M_submit_131 : decode b_M_submit 131 = .ok (.putfield 567, 3) := by decide +kernel
theorem d_M_submit_134 : decode b_M_submit 134 = .ok (.iload 5, 2) := by decide +kernel
theorem d_M_submit_136 : decode b_M_submit 136 = .ok (.ireturn, 1) := by decide +kernel
theorem d_M_submit_137 : decode b_M_submit 137 = .ok (.aload_n 0, 1) := by decide +kernel
theorem d_M_submit_138 : decode b_M_submit 138 = .ok (.dup, 1) := by decide +kernel
theorem d_M_submit_139 : decode b_M_submit 139 = .ok (.getfield 662, 3) := by decide +kernel
theorem d_M_submit_142 : decode b_M_submit 142 = .ok (.iload 4, 2) := by decide +kernel
theorem d_M_submit_144 : decode b_M_submit 144 = .ok (.iadd, 1) := by decide +kernel
theorem d_M_submit_145 : decode b_M_submit 145 = .ok (.putfield 662, 3) := by decide +kernel
theorem d_M_submit_148 : decode b_M_submit 148 = .ok (.aload_n 0, 1) := by decide +kernel
theorem d_M_submit_149 : decode b_M_submit 149 = .ok (.getfield 252, 3) := by decide +kernel
theorem d_M_submit_152 : decode b_M_submit 152 = .ok (.istore 6, 2) := by decide +kernel
theorem d_M_submit_154 : decode b_M_submit 154 = .ok (.aload_n 0, 1) := by decide +kernel
theorem d_M_submit_155 : decode b_M_submit 155 = .ok (.dup, 1) := by decide +kernel
theorem d_M_submit_156 : decode b_M_submit 156 = .ok (.getfield 252, 3) := by decide +kernel
theorem d_M_submit_159 : decode b_M_submit 159 = .ok (.iconst 1, 1) := by decide +kernel
theorem d_M_submit_160 : decode b_M_submit 160 = .ok (.iadd, 1) := by decide +kernel
theorem d_M_submit_161 : decode b_M_submit 161 = .ok (.putfield 252, 3) := by decide +kernel
theorem d_M_submit_164 : decode b_M_submit 164 = .ok (.aload_n 0, 1) := by decide +kernel
theorem d_M_submit_165 : decode b_M_submit 165 = .ok (.iload 6, 2) := by decide +kernel
theorem d_M_submit_167 : decode b_M_submit 167 = .ok (.aload_n 0, 1) := by decide +kernel
theorem d_M_submit_168 : decode b_M_submit 168 = .ok (.getfield 669, 3) := by decide +kernel
theorem d_M_submit_171 : decode b_M_submit 171 = .ok (.invokevirtual 672, 3) := by decide +kernel
theorem d_M_submit_174 : decode b_M_submit 174 = .ok (.ifCond .gt 5, 3) := by decide +kernel
theorem d_M_submit_177 : decode b_M_submit 177 = .ok (.iconst 1, 1) := by decide +kernel
theorem d_M_submit_178 : decode b_M_submit 178 = .ok (.ireturn, 1) := by decide +kernel
theorem d_M_submit_179 : decode b_M_submit 179 = .ok (.aload_n 0, 1) := by decide +kernel
theorem d_M_submit_180 : decode b_M_submit 180 = .ok (.getfield 669, 3) := by decide +kernel
theorem d_M_submit_183 : decode b_M_submit 183 = .ok (.istore 7, 2) := by decide +kernel
theorem d_M_submit_185 : decode b_M_submit 185 = .ok (.aload_n 0, 1) := by decide +kernel
theorem d_M_submit_186 : decode b_M_submit 186 = .ok (.iload 6, 2) := by decide +kernel
theorem d_M_submit_188 : decode b_M_submit 188 = .ok (.invokevirtual 675, 3) := by decide +kernel
theorem d_M_submit_191 : decode b_M_submit 191 = .ok (.istore 5, 2) := by decide +kernel
theorem d_M_submit_193 : decode b_M_submit 193 = .ok (.iload 5, 2) := by decide +kernel
theorem d_M_submit_195 : decode b_M_submit 195 = .ok (.ifCond .ne 11, 3) := by decide +kernel
theorem d_M_submit_198 : decode b_M_submit 198 = .ok (.aload_n 0, 1) := by decide +kernel
theorem d_M_submit_199 : decode b_M_submit 199 = .ok (.iload 6, 2) := by decide +kernel
theorem d_M_submit_201 : decode b_M_submit 201 = .ok (.putfield 669, 3) := by decide +kernel
theorem d_M_submit_204 : decode b_M_submit 204 = .ok (.iconst 0, 1) := by decide +kernel
theorem d_M_submit_205 : decode b_M_submit 205 = .ok (.ireturn, 1) := by decide +kernel
theorem d_M_submit_206 : decode b_M_submit 206 = .ok (.aload_n 0, 1) := by decide +kernel
theorem d_M_submit_207 : decode b_M_submit 207 = .ok (.iload 7, 2) := by decide +kernel
theorem d_M_submit_209 : decode b_M_submit 209 = .ok (.invokevirtual 675, 3) := by decide +kernel
theorem d_M_submit_212 : decode b_M_submit 212 = .ok (.pop, 1) := by decide +kernel
theorem d_M_submit_213 : decode b_M_submit 213 = .ok (.iload 5, 2) := by decide +kernel
theorem d_M_submit_215 : decode b_M_submit 215 = .ok (.ireturn, 1) := by decide +kernel
abbrev rm_M_submit : Room := { frames := 3, cells := 0, slots := 0, locals := 76 }
abbrev q_M_submit (D : va_G) (cy : Nat → ClassId) (A : Nat → Prop) (o : Nat) (q : Nat → Nat) (g_row : Nat → Int32) (res : Int32 × (Nat → Int32) × (Nat → Int32)) : Array Value → State → Outcome → State → Prop := va_Qi (fun r' (_ : Unit) => r' = res.1) (fun _ t => Po D cy A [(o, .inr (12, mo q res.2.1)), ((q 0), .inl (cy 0, 3000, .inl g_row)), ((q 1), .inl (cy 0, 103000, .inl res.2.2))] t) A
def I_M_submit_33 (p : Program) (l : Launch) (e : Env) (s : State) (m : MethodId) (args : Array Value) (below : List Frame) (meth : Method) (c : Code) (D : va_G) (cy : Nat → ClassId) (A : Nat → Prop) (ad : Nat → Nat) (o : Nat) (q : Nat → Nat) (g_row : Nat → Int32) (k : Int32 → (Nat → Int32) → (Nat → Int32) → Option (Int32 × (Nat → Int32) × (Nat → Int32))) : Prop :=
  ∀ (y0 : Int32) (u0 : Nat → Int32) (u1 : Nat → Int32) (res : Int32 × (Nat → Int32) × (Nat → Int32)), k y0 u0 u1 = some res → ∀ (H : Heap) (locs : List Loc) (ls : Array Slot), va_P D classes [(o, .inr (12, mo q u0)), ((q 0), .inl (cy 0, 3000, .inl g_row)), ((q 1), .inl (cy 0, 103000, .inl u1))] H → va_D A [(o, .inr (12, mo q u0)), ((q 0), .inl (cy 0, 3000, .inl g_row)), ((q 1), .inl (cy 0, 103000, .inl u1))] → va_S A s.heap H locs → lv_has ls 8 [(0, .ref o)] → W p l e rm_M_submit s m args below meth c H locs 0 0 (MQ below (q_M_submit D cy A o q g_row res) args s 0 0 A) (F0 m 33 ls [.int y0, .ref o])
def I_M_submit_28 (p : Program) (l : Launch) (e : Env) (s : State) (m : MethodId) (args : Array Value) (below : List Frame) (meth : Method) (c : Code) (D : va_G) (cy : Nat → ClassId) (A : Nat → Prop) (ad : Nat → Nat) (o : Nat) (q : Nat → Nat) (g_row : Nat → Int32) (k : (Nat → Int32) → (Nat → Int32) → Option (Int32 × (Nat → Int32) × (Nat → Int32))) : Prop :=
  ∀ (u0 : Nat → Int32) (u1 : Nat → Int32) (res : Int32 × (Nat → Int32) × (Nat → Int32)), k u0 u1 = some res → ∀ (H : Heap) (locs : List Loc) (ls : Array Slot), va_P D classes [(o, .inr (12, mo q u0)), ((q 0), .inl (cy 0, 3000, .inl g_row)), ((q 1), .inl (cy 0, 103000, .inl u1))] H → va_D A [(o, .inr (12, mo q u0)), ((q 0), .inl (cy 0, 3000, .inl g_row)), ((q 1), .inl (cy 0, 103000, .inl u1))] → va_S A s.heap H locs → lv_has ls 8 [(0, .ref o)] → W p l e rm_M_submit s m args below meth c H locs 0 0 (MQ below (q_M_submit D cy A o q g_row res) args s 0 0 A) (F0 m 28 ls [.ref o])
def I_M_submit_e (p : Program) (l : Launch) (e : Env) (s : State) (m : MethodId) (args : Array Value) (below : List Frame) (meth : Method) (c : Code) (D : va_G) (cy : Nat → ClassId) (A : Nat → Prop) (ad : Nat → Nat) (o : Nat) (q : Nat → Nat) (g_row : Nat → Int32) (k : (Nat → Int32) → (Nat → Int32) → Option (Int32 × (Nat → Int32) × (Nat → Int32))) : Prop :=
  ∀ (u0 : Nat → Int32) (u1 : Nat → Int32) (res : Int32 × (Nat → Int32) × (Nat → Int32)), k u0 u1 = some res → ∀ (H : Heap) (locs : List Loc) (ls : Array Slot), va_P D classes [(o, .inr (12, mo q u0)), ((q 0), .inl (cy 0, 3000, .inl g_row)), ((q 1), .inl (cy 0, 103000, .inl u1))] H → va_D A [(o, .inr (12, mo q u0)), ((q 0), .inl (cy 0, 3000, .inl g_row)), ((q 1), .inl (cy 0, 103000, .inl u1))] → va_S A s.heap H locs → lv_has ls 8 [(0, .ref o)] → W p l e rm_M_submit s m args below meth c H locs 0 0 (MQ below (q_M_submit D cy A o q g_row res) args s 0 0 A) (F0 m 0 ls [])
theorem hdb_19 : ({ cls := "CoinKeeperModel", name := "take", desc := "(I)I" } : Jvm.MethodName).cls ≠ "java/lang/invoke/MethodHandle" ∧ ({ cls := "CoinKeeperModel", name := "take", desc := "(I)I" } : Jvm.MethodName).cls ≠ "java/lang/invoke/VarHandle" ∧ (parseMethodDescriptor ({ cls := "CoinKeeperModel", name := "take", desc := "(I)I" } : Jvm.MethodName).desc).map (fun d => d.parameters.length) = some 1 := by decide +kernel
def xb_M_submit_33 (fu : Nat) (g_row : Nat → Int32) (y0 : Int32) (u0 : Nat → Int32) (u1 : Nat → Int32) : Option (Int32 × (Nat → Int32) × (Nat → Int32)) :=
  bnd (upd u0 2 y0) fun z1 => if (z1 2) ≤ 0 then (gd (cpk (0 : Int32) (z1 1) (z1 0) 3000 103000) <| gd (bfit g_row (0 : Int32) (z1 0)) <| bnd (va_cpy g_row u1 (0 : Int32).toNatClampNeg (z1 1).toNatClampNeg (z1 0).toNatClampNeg) fun f2 => bnd ((z1 1) + (z1 0)) fun v3 => bnd (upd z1 17 v3) fun z4 => bd2 (x_M_take fu f2 (z4 1) z4) fun v5 f6 => bnd (upd f6 0 (0 : Int32)) fun z7 => if v5 ≤ 0 then (bnd ((z7 1) + (z4 0)) fun v8 => bnd (upd z7 1 v8) fun z9 => bnd ((z9 3) + (1 : Int32)) fun v10 => bnd (upd z9 3 v10) fun z11 => none) else (bnd (upd z7 5 (z1 5)) fun z12 => bnd (upd z12 6 (z1 6)) fun z13 => bnd (upd z13 7 (z1 7)) fun z14 => some (v5, z14, f2))) else (some ((0 : Int32), z1, u1))
set_option maxHeartbeats 8000000 in
set_option maxRecDepth 100000 in
theorem wb_M_submit_33 {p : Program} {l : Launch} {e : Env} {s : State} {m : MethodId} {args : Array Value} {below : List Frame} {meth : Method} {c : Code} {D : va_G} {cy : Nat → ClassId} {A : Nat → Prop} {ad : Nat → Nat} {o : Nat} {q : Nat → Nat} {g_row : Nat → Int32} {fu : Nat} (F : Fx p s m args meth c b_M_submit 8 "CoinKeeperModel" "submit" (some .int) D cy ad A) : I_M_submit_33 p l e s m args below meth c D cy A ad o q g_row (xb_M_submit_33 fu g_row) := by
  obtain ⟨hx, hb, hr, hml, hown, hts, hlocks, hK, hA, hSt, hnm, hex⟩ := id F
  intro y0 u0 u1 res hf H locs ls hP hD hS hl
  unfold xb_M_submit_33 at hf
  refine va_put (D := D) (ci := 12) (v := .int y0) (ty := .int) (C := "CoinKeeperModel") (T := F_12) (N := 98) hx hb hts i_12 t_12 t_12_ok n_12 hown hK hP hD hS 0 rfl rfl 4 (by decide) (hts _ gw_1423) (fun _ h9 => h9) rfl (by decide +kernel) rfl rfl (Nat.le_of_ble_eq_true rfl) d_M_submit_33 (fun H locs hP hD hS => ?_)
  obtain ⟨z1, ev, hf⟩ := bne hf
  have hP : va_P D classes [(o, .inr (12, mo q z1)), ((q 0), .inl (cy 0, 3000, .inl g_row)), ((q 1), .inl (cy 0, 103000, .inl u1))] H := by rw [ev]; exact hP
  have hD : va_D A [(o, .inr (12, mo q z1)), ((q 0), .inl (cy 0, 3000, .inl g_row)), ((q 1), .inl (cy 0, 103000, .inl u1))] := by rw [ev]; exact hD
  clear ev
  refine lv_aload_n hx hb d_M_submit_36 rfl (lv_at hl 0 rfl) ?_
  refine va_get (D := D) (ci := 12) (v := .int (z1 2)) (C := "CoinKeeperModel") (T := F_12) (N := 98) hx hb hts i_12 hown hK hP 0 rfl rfl 4 (by decide) (hts _ gw_1423) (fun _ h9 => h9) rfl d_M_submit_37 ?_
  refine lv_if_le (tgt := 45) hx hb d_M_submit_40 (by decide) (fun cx => ?_) (fun cx => ?_)
  · have hf := ifp cx hf
    refine lv_aload_n hx hb d_M_submit_45 rfl (lv_at hl 0 rfl) ?_
    refine va_get (D := D) (ci := 12) (v := .int (z1 5)) (C := "CoinKeeperModel") (T := F_12) (N := 98) hx hb hts i_12 hown hK hP 0 rfl rfl 25 (by decide) (hts _ gw_1444) (fun _ h9 => h9) rfl d_M_submit_46 ?_
    refine lv_istore_n (lv' := [(1, .int (z1 5)), (0, .ref o)]) hx hb d_M_submit_49 rfl hl (by decide) rfl (fun ls hl => ?_)
    refine lv_aload_n hx hb d_M_submit_50 rfl (lv_at hl 1 rfl) ?_
    refine va_get (D := D) (ci := 12) (v := .int (z1 6)) (C := "CoinKeeperModel") (T := F_12) (N := 98) hx hb hts i_12 hown hK hP 0 rfl rfl 31 (by decide) (hts _ gw_1450) (fun _ h9 => h9) rfl d_M_submit_51 ?_
    refine lv_istore_n (lv' := [(2, .int (z1 6)), (1, .int (z1 5)), (0, .ref o)]) hx hb d_M_submit_54 rfl hl (by decide) rfl (fun ls hl => ?_)
    refine lv_aload_n hx hb d_M_submit_55 rfl (lv_at hl 2 rfl) ?_
    refine va_get (D := D) (ci := 12) (v := .int (z1 7)) (C := "CoinKeeperModel") (T := F_12) (N := 98) hx hb hts i_12 hown hK hP 0 rfl rfl 36 (by decide) (hts _ gw_1455) (fun _ h9 => h9) rfl d_M_submit_56 ?_
    refine lv_istore_n (lv' := [(3, .int (z1 7)), (2, .int (z1 6)), (1, .int (z1 5)), (0, .ref o)]) hx hb d_M_submit_59 rfl hl (by decide) rfl (fun ls hl => ?_)
    refine lv_aload_n hx hb d_M_submit_60 rfl (lv_at hl 3 rfl) ?_
    refine va_get (D := D) (ci := 12) (v := .ref (q 0)) (C := "CoinKeeperModel") (T := F_12) (N := 98) hx hb hts i_12 hown hK hP 0 rfl rfl 0 (by decide) (hts _ gw_1419) (fun _ h9 => h9) rfl d_M_submit_61 ?_
    refine lv_iconst (v := 0) hx hb d_M_submit_64 (by decide) ?_
    refine lv_aload_n hx hb d_M_submit_65 rfl (lv_at hl 3 rfl) ?_
    refine va_get (D := D) (ci := 12) (v := .ref (q 1)) (C := "CoinKeeperModel") (T := F_12) (N := 98) hx hb hts i_12 hown hK hP 0 rfl rfl 1 (by decide) (hts _ gw_1420) (fun _ h9 => h9) rfl d_M_submit_66 ?_
    refine lv_aload_n hx hb d_M_submit_69 rfl (lv_at hl 3 rfl) ?_
    refine va_get (D := D) (ci := 12) (v := .int (z1 1)) (C := "CoinKeeperModel") (T := F_12) (N := 98) hx hb hts i_12 hown hK hP 0 rfl rfl 3 (by decide) (hts _ gw_1422) (fun _ h9 => h9) rfl d_M_submit_70 ?_
    refine lv_aload_n hx hb d_M_submit_73 rfl (lv_at hl 3 rfl) ?_
    refine va_get (D := D) (ci := 12) (v := .int (z1 0)) (C := "CoinKeeperModel") (T := F_12) (N := 98) hx hb hts i_12 hown hK hP 0 rfl rfl 2 (by decide) (hts _ gw_1421) (fun _ h9 => h9) rfl d_M_submit_74 ?_
    obtain ⟨hg, hf⟩ := gdp hf
    obtain ⟨hg2, hf⟩ := gdp hf
    refine va_copyi (rest := []) hx hb (hml.trans hl.1.symm) hown (hts _ gw_1398) (hts _ gw_497) (hts _ gw_496) (hts _ gw_17) hK hP hD hS 1 2 0 0 rfl rfl rfl rfl rfl (cpk_p hg).1 (cpk_p hg).2.1 (cpk_p hg).2.2.1 (cpk_p hg).2.2.2.1 (cpk_p hg).2.2.2.2 (bfit_p hg2) (by decide) (by decide) d_M_submit_77 (fun H locs hP hD hS => ?_)
    obtain ⟨f2, ev, hf⟩ := bne hf
    have hP : va_P D classes [(o, .inr (12, mo q z1)), ((q 0), .inl (cy 0, 3000, .inl g_row)), ((q 1), .inl (cy 0, 103000, .inl f2))] H := by rw [ev]; exact hP
    have hD : va_D A [(o, .inr (12, mo q z1)), ((q 0), .inl (cy 0, 3000, .inl g_row)), ((q 1), .inl (cy 0, 103000, .inl f2))] := by rw [ev]; exact hD
    clear ev
    refine lv_aload_n hx hb d_M_submit_80 rfl (lv_at hl 3 rfl) ?_
    refine lv_aload_n hx hb d_M_submit_81 rfl (lv_at hl 3 rfl) ?_
    refine va_get (D := D) (ci := 12) (v := .int (z1 1)) (C := "CoinKeeperModel") (T := F_12) (N := 98) hx hb hts i_12 hown hK hP 0 rfl rfl 3 (by decide) (hts _ gw_1422) (fun _ h9 => h9) rfl d_M_submit_82 ?_
    refine lv_aload_n hx hb d_M_submit_85 rfl (lv_at hl 3 rfl) ?_
    refine va_get (D := D) (ci := 12) (v := .int (z1 0)) (C := "CoinKeeperModel") (T := F_12) (N := 98) hx hb hts i_12 hown hK hP 0 rfl rfl 2 (by decide) (hts _ gw_1421) (fun _ h9 => h9) rfl d_M_submit_86 ?_
    refine lv_iadd hx hb d_M_submit_89 ?_
    refine lv_topi (fun v3 ev => ?_)
    have hf := bn ev hf
    clear ev
    refine va_put (D := D) (ci := 12) (v := .int v3) (ty := .int) (C := "CoinKeeperModel") (T := F_12) (N := 98) hx hb hts i_12 t_12 t_12_ok n_12 hown hK hP hD hS 0 rfl rfl 90 (by decide) (hts _ gw_1509) (fun _ h9 => h9) rfl (by decide +kernel) rfl rfl (Nat.le_of_ble_eq_true rfl) d_M_submit_90 (fun H locs hP hD hS => ?_)
    obtain ⟨z4, ev, hf⟩ := bne hf
    have hP : va_P D classes [(o, .inr (12, mo q z4)), ((q 0), .inl (cy 0, 3000, .inl g_row)), ((q 1), .inl (cy 0, 103000, .inl f2))] H := by rw [ev]; exact hP
    have hD : va_D A [(o, .inr (12, mo q z4)), ((q 0), .inl (cy 0, 3000, .inl g_row)), ((q 1), .inl (cy 0, 103000, .inl f2))] := by rw [ev]; exact hD
    clear ev
    refine lv_aload_n hx hb d_M_submit_93 rfl (lv_at hl 3 rfl) ?_
    refine va_get (D := D) (ci := 12) (v := .int (z4 0)) (C := "CoinKeeperModel") (T := F_12) (N := 98) hx hb hts i_12 hown hK hP 0 rfl rfl 2 (by decide) (hts _ gw_1421) (fun _ h9 => h9) rfl d_M_submit_94 ?_
    refine lv_istore (lv' := [(4, .int (z4 0)), (3, .int (z1 7)), (2, .int (z1 6)), (1, .int (z1 5)), (0, .ref o)]) hx hb d_M_submit_97 hl (by decide) rfl (fun ls hl => ?_)
    refine lv_aload_n hx hb d_M_submit_99 rfl (lv_at hl 4 rfl) ?_
    refine lv_aload_n hx hb d_M_submit_100 rfl (lv_at hl 4 rfl) ?_
    refine va_get (D := D) (ci := 12) (v := .int (z4 1)) (C := "CoinKeeperModel") (T := F_12) (N := 98) hx hb hts i_12 hown hK hP 0 rfl rfl 3 (by decide) (hts _ gw_1422) (fun _ h9 => h9) rfl d_M_submit_101 ?_
    obtain ⟨v5, f6, hc, hf⟩ := bdp2 hf
    refine q_ai (wr := [((q 0), .inl (cy 0, 3000, .inl g_row))]) (va_runV (C := "CoinKeeperModel") (As := [.int (z4 1)]) (rest := []) ⟨hx, hb, hml, hown, hts⟩ (c_M_take l D cy ad fu o q f2 (z4 1) z4 _ hc H.size) ⟨q_cB hts gw_1738 gw_18 gw_1735 hdb_19 ⟨by decide, by decide⟩, hts _ gw_1737, hts _ gs_67⟩ (q_preV (q_pre (hP.sub [0, 2] rfl) (hD.sub [0, 2] (by decide) rfl) hK hSt hS (va_free hD hS hA [0, 2] rfl) _) (va_recv hK (hP.sub [0, 2] rfl) (ci := 12) (q0 := 0) rfl rfl)) rfl rfl hl.1 rfl (lv_room (Nat.le_of_ble_eq_true rfl)) d_M_submit_104 ⟨Nat.le_of_ble_eq_true rfl, Nat.le_of_ble_eq_true rfl⟩) hP hD hS hA [0, 2] [1] rfl rfl (by decide) (by decide) (fun H locs hP hD hS => ?_)
    clear hc
    have hP : va_P D classes [((q 0), .inl (cy 0, 3000, .inl g_row)), (o, .inr (12, mo q f6)), ((q 1), .inl (cy 0, 103000, .inl f2))] H := hP
    have hD : va_D A [((q 0), .inl (cy 0, 3000, .inl g_row)), (o, .inr (12, mo q f6)), ((q 1), .inl (cy 0, 103000, .inl f2))] := hD
    refine lv_istore (lv' := [(5, .int v5), (4, .int (z4 0)), (3, .int (z1 7)), (2, .int (z1 6)), (1, .int (z1 5)), (0, .ref o)]) hx hb d_M_submit_107 hl (by decide) rfl (fun ls hl => ?_)
    refine lv_aload_n hx hb d_M_submit_109 rfl (lv_at hl 5 rfl) ?_
    refine lv_iconst (v := 0) hx hb d_M_submit_110 (by decide) ?_
    refine va_put (D := D) (ci := 12) (v := .int (0 : Int32)) (ty := .int) (C := "CoinKeeperModel") (T := F_12) (N := 98) hx hb hts i_12 t_12 t_12_ok n_12 hown hK hP hD hS 1 rfl rfl 2 (by decide) (hts _ gw_1421) (fun _ h9 => h9) rfl (by decide +kernel) rfl rfl (Nat.le_of_ble_eq_true rfl) d_M_submit_111 (fun H locs hP hD hS => ?_)
    obtain ⟨z7, ev, hf⟩ := bne hf
    have hP : va_P D classes [((q 0), .inl (cy 0, 3000, .inl g_row)), (o, .inr (12, mo q z7)), ((q 1), .inl (cy 0, 103000, .inl f2))] H := by rw [ev]; exact hP
    have hD : va_D A [((q 0), .inl (cy 0, 3000, .inl g_row)), (o, .inr (12, mo q z7)), ((q 1), .inl (cy 0, 103000, .inl f2))] := by rw [ev]; exact hD
    clear ev
    refine lv_iload hx hb d_M_submit_114 (lv_at hl 0 rfl) ?_
    refine lv_if_le (tgt := 137) hx hb d_M_submit_116 (by decide) (fun cx => ?_) (fun cx => ?_)
    · have hf := ifp cx hf
      refine lv_aload_n hx hb d_M_submit_137 rfl (lv_at hl 5 rfl) ?_
      refine lv_dup hx hb d_M_submit_138 rfl ?_
      refine va_get (D := D) (ci := 12) (v := .int (z7 1)) (C := "CoinKeeperModel") (T := F_12) (N := 98) hx hb hts i_12 hown hK hP 1 rfl rfl 3 (by decide) (hts _ gw_1422) (fun _ h9 => h9) rfl d_M_submit_139 ?_
      refine lv_iload hx hb d_M_submit_142 (lv_at hl 1 rfl) ?_
      refine lv_iadd hx hb d_M_submit_144 ?_
      refine lv_topi (fun v8 ev => ?_)
      have hf := bn ev hf
      clear ev
      refine va_put (D := D) (ci := 12) (v := .int v8) (ty := .int) (C := "CoinKeeperModel") (T := F_12) (N := 98) hx hb hts i_12 t_12 t_12_ok n_12 hown hK hP hD hS 1 rfl rfl 3 (by decide) (hts _ gw_1422) (fun _ h9 => h9) rfl (by decide +kernel) rfl rfl (Nat.le_of_ble_eq_true rfl) d_M_submit_145 (fun H locs hP hD hS => ?_)
      obtain ⟨z9, ev, hf⟩ := bne hf
      have hP : va_P D classes [((q 0), .inl (cy 0, 3000, .inl g_row)), (o, .inr (12, mo q z9)), ((q 1), .inl (cy 0, 103000, .inl f2))] H := by rw [ev]; exact hP
      have hD : va_D A [((q 0), .inl (cy 0, 3000, .inl g_row)), (o, .inr (12, mo q z9)), ((q 1), .inl (cy 0, 103000, .inl f2))] := by rw [ev]; exact hD
      clear ev
      refine lv_aload_n hx hb d_M_submit_148 rfl (lv_at hl 5 rfl) ?_
      refine va_get (D := D) (ci := 12) (v := .int (z9 3)) (C := "CoinKeeperModel") (T := F_12) (N := 98) hx hb hts i_12 hown hK hP 1 rfl rfl 15 (by decide) (hts _ gw_1434) (fun _ h9 => h9) rfl d_M_submit_149 ?_
      refine lv_istore (lv' := [(6, .int (z9 3)), (5, .int v5), (4, .int (z4 0)), (3, .int (z1 7)), (2, .int (z1 6)), (1, .int (z1 5)), (0, .ref o)]) hx hb d_M_submit_152 hl (by decide) rfl (fun ls hl => ?_)
      refine lv_aload_n hx hb d_M_submit_154 rfl (lv_at hl 6 rfl) ?_
      refine lv_dup hx hb d_M_submit_155 rfl ?_
      refine va_get (D := D) (ci := 12) (v := .int (z9 3)) (C := "CoinKeeperModel") (T := F_12) (N := 98) hx hb hts i_12 hown hK hP 1 rfl rfl 15 (by decide) (hts _ gw_1434) (fun _ h9 => h9) rfl d_M_submit_156 ?_
      refine lv_iconst (v := 1) hx hb d_M_submit_159 (by decide) ?_
      refine lv_iadd hx hb d_M_submit_160 ?_
      refine lv_topi (fun v10 ev => ?_)
      have hf := bn ev hf
      clear ev
      refine va_put (D := D) (ci := 12) (v := .int v10) (ty := .int) (C := "CoinKeeperModel") (T := F_12) (N := 98) hx hb hts i_12 t_12 t_12_ok n_12 hown hK hP hD hS 1 rfl rfl 15 (by decide) (hts _ gw_1434) (fun _ h9 => h9) rfl (by decide +kernel) rfl rfl (Nat.le_of_ble_eq_true rfl) d_M_submit_161 (fun H locs hP hD hS => ?_)
      obtain ⟨z11, ev, hf⟩ := bne hf
      have hP : va_P D classes [((q 0), .inl (cy 0, 3000, .inl g_row)), (o, .inr (12, mo q z11)), ((q 1), .inl (cy 0, 103000, .inl f2))] H := by rw [ev]; exact hP
      have hD : va_D A [((q 0), .inl (cy 0, 3000, .inl g_row)), (o, .inr (12, mo q z11)), ((q 1), .inl (cy 0, 103000, .inl f2))] := by rw [ev]; exact hD
      clear ev
      refine lv_aload_n hx hb d_M_submit_164 rfl (lv_at hl 6 rfl) ?_
      refine lv_iload hx hb d_M_submit_165 (lv_at hl 0 rfl) ?_
      refine lv_aload_n hx hb d_M_submit_167 rfl (lv_at hl 6 rfl) ?_
      refine va_get (D := D) (ci := 12) (v := .int (z11 4)) (C := "CoinKeeperModel") (T := F_12) (N := 98) hx hb hts i_12 hown hK hP 1 rfl rfl 16 (by decide) (hts _ gw_1435) (fun _ h9 => h9) rfl d_M_submit_168 ?_
      exact nomatch hf
    · have hf := ifn cx hf
      refine lv_aload_n hx hb d_M_submit_119 rfl (lv_at hl 5 rfl) ?_
      refine lv_iload_n hx hb d_M_submit_120 rfl (lv_at hl 4 rfl) ?_
      refine va_put (D := D) (ci := 12) (v := .int (z1 5)) (ty := .int) (C := "CoinKeeperModel") (T := F_12) (N := 98) hx hb hts i_12 t_12 t_12_ok n_12 hown hK hP hD hS 1 rfl rfl 25 (by decide) (hts _ gw_1444) (fun _ h9 => h9) rfl (by decide +kernel) rfl rfl (Nat.le_of_ble_eq_true rfl) d_M_submit_121 (fun H locs hP hD hS => ?_)
      obtain ⟨z12, ev, hf⟩ := bne hf
      have hP : va_P D classes [((q 0), .inl (cy 0, 3000, .inl g_row)), (o, .inr (12, mo q z12)), ((q 1), .inl (cy 0, 103000, .inl f2))] H := by rw [ev]; exact hP
      have hD : va_D A [((q 0), .inl (cy 0, 3000, .inl g_row)), (o, .inr (12, mo q z12)), ((q 1), .inl (cy 0, 103000, .inl f2))] := by rw [ev]; exact hD
      clear ev
      refine lv_aload_n hx hb d_M_submit_124 rfl (lv_at hl 5 rfl) ?_
      refine lv_iload_n hx hb d_M_submit_125 rfl (lv_at hl 3 rfl) ?_
      refine va_put (D := D) (ci := 12) (v := .int (z1 6)) (ty := .int) (C := "CoinKeeperModel") (T := F_12) (N := 98) hx hb hts i_12 t_12 t_12_ok n_12 hown hK hP hD hS 1 rfl rfl 31 (by decide) (hts _ gw_1450) (fun _ h9 => h9) rfl (by decide +kernel) rfl rfl (Nat.le_of_ble_eq_true rfl) d_M_submit_126 (fun H locs hP hD hS => ?_)
      obtain ⟨z13, ev, hf⟩ := bne hf
      have hP : va_P D classes [((q 0), .inl (cy 0, 3000, .inl g_row)), (o, .inr (12, mo q z13)), ((q 1), .inl (cy 0, 103000, .inl f2))] H := by rw [ev]; exact hP
      have hD : va_D A [((q 0), .inl (cy 0, 3000, .inl g_row)), (o, .inr (12, mo q z13)), ((q 1), .inl (cy 0, 103000, .inl f2))] := by rw [ev]; exact hD
      clear ev
      refine lv_aload_n hx hb d_M_submit_129 rfl (lv_at hl 5 rfl) ?_
      refine lv_iload_n hx hb d_M_submit_130 rfl (lv_at hl 2 rfl) ?_
      refine va_put (D := D) (ci := 12) (v := .int (z1 7)) (ty := .int) (C := "CoinKeeperModel") (T := F_12) (N := 98) hx hb hts i_12 t_12 t_12_ok n_12 hown hK hP hD hS 1 rfl rfl 36 (by decide) (hts _ gw_1455) (fun _ h9 => h9) rfl (by decide +kernel) rfl rfl (Nat.le_of_ble_eq_true rfl) d_M_submit_131 (fun H locs hP hD hS => ?_)
      obtain ⟨z14, ev, hf⟩ := bne hf
      have hP : va_P D classes [((q 0), .inl (cy 0, 3000, .inl g_row)), (o, .inr (12, mo q z14)), ((q 1), .inl (cy 0, 103000, .inl f2))] H := by rw [ev]; exact hP
      have hD : va_D A [((q 0), .inl (cy 0, 3000, .inl g_row)), (o, .inr (12, mo q z14)), ((q 1), .inl (cy 0, 103000, .inl f2))] := by rw [ev]; exact hD
      clear ev
      refine lv_iload hx hb d_M_submit_134 (lv_at hl 0 rfl) ?_
      obtain rfl := Option.some.inj hf
      exact q_ri hx hb hr hlocks hK (hP.sub [1, 0, 2] rfl) (hD.sub [1, 0, 2] (by decide) rfl) hS d_M_submit_136
  · have hf := ifn cx hf
    refine lv_iconst (v := 0) hx hb d_M_submit_43 (by decide) ?_
    obtain rfl := Option.some.inj hf
    exact q_ri hx hb hr hlocks hK hP hD hS d_M_submit_44
def xb_M_submit_28 (fu : Nat) (g_row : Nat → Int32) (u0 : Nat → Int32) (u1 : Nat → Int32) : Option (Int32 × (Nat → Int32) × (Nat → Int32)) :=
  xb_M_submit_33 fu g_row (1 : Int32) u0 u1
set_option maxHeartbeats 8000000 in
set_option maxRecDepth 100000 in
theorem wb_M_submit_28 {p : Program} {l : Launch} {e : Env} {s : State} {m : MethodId} {args : Array Value} {below : List Frame} {meth : Method} {c : Code} {D : va_G} {cy : Nat → ClassId} {A : Nat → Prop} {ad : Nat → Nat} {o : Nat} {q : Nat → Nat} {g_row : Nat → Int32} {fu : Nat} (F : Fx p s m args meth c b_M_submit 8 "CoinKeeperModel" "submit" (some .int) D cy ad A) : I_M_submit_28 p l e s m args below meth c D cy A ad o q g_row (xb_M_submit_28 fu g_row) := by
  obtain ⟨hx, hb, hr, hml, hown, hts, hlocks, hK, hA, hSt, hnm, hex⟩ := id F
  intro u0 u1 res hf H locs ls hP hD hS hl
  unfold xb_M_submit_28 at hf
  refine lv_iconst (v := 1) hx hb d_M_submit_28 (by decide) ?_
  refine lv_goto (tgt := 33) hx hb d_M_submit_29 (by decide) ?_
  exact wb_M_submit_33 (fu := fu) F _ _ _ _ hf _ _ _ hP hD hS (lv_sub hl [0] rfl)
def x_M_submit (fu : Nat) (g_row : Nat → Int32) (u0 : Nat → Int32) (u1 : Nat → Int32) : Option (Int32 × (Nat → Int32) × (Nat → Int32)) :=
  bnd ((u0 3) - (1 : Int32)) fun v1 => if v1 = (200 : Int32) then (xb_M_submit_28 fu g_row u0 u1) else (bnd ((u0 1) + (u0 0)) fun v2 => if v2 ≤ (100000 : Int32) then (xb_M_submit_33 fu g_row (0 : Int32) u0 u1) else (xb_M_submit_28 fu g_row u0 u1))
set_option maxHeartbeats 8000000 in
set_option maxRecDepth 100000 in
theorem we_M_submit {p : Program} {l : Launch} {e : Env} {s : State} {m : MethodId} {args : Array Value} {below : List Frame} {meth : Method} {c : Code} {D : va_G} {cy : Nat → ClassId} {A : Nat → Prop} {ad : Nat → Nat} {o : Nat} {q : Nat → Nat} {g_row : Nat → Int32} {fu : Nat} (F : Fx p s m args meth c b_M_submit 8 "CoinKeeperModel" "submit" (some .int) D cy ad A) : I_M_submit_e p l e s m args below meth c D cy A ad o q g_row (x_M_submit fu g_row) := by
  obtain ⟨hx, hb, hr, hml, hown, hts, hlocks, hK, hA, hSt, hnm, hex⟩ := id F
  intro u0 u1 res hf H locs ls hP hD hS hl
  unfold x_M_submit at hf
  refine lv_aload_n hx hb d_M_submit_0 rfl (lv_at hl 0 rfl) ?_
  refine lv_aload_n hx hb d_M_submit_1 rfl (lv_at hl 0 rfl) ?_
  refine va_get (D := D) (ci := 12) (v := .int (u0 3)) (C := "CoinKeeperModel") (T := F_12) (N := 98) hx hb hts i_12 hown hK hP 0 rfl rfl 15 (by decide) (hts _ gw_1434) (fun _ h9 => h9) rfl d_M_submit_2 ?_
  refine lv_iconst (v := 1) hx hb d_M_submit_5 (by decide) ?_
  refine lv_isub hx hb d_M_submit_6 ?_
  refine lv_topi (fun v1 ev => ?_)
  have hf := bn ev hf
  clear ev
  refine lv_sipush (v := 200) hx hb d_M_submit_7 (by decide) ?_
  refine lv_icmp_eq (tgt := 28) hx hb d_M_submit_10 (by decide) (fun cx => ?_) (fun cx => ?_)
  · have hf := ifp cx hf
    exact wb_M_submit_28 (fu := fu) F _ _ _ hf _ _ _ hP hD hS (lv_sub hl [0] rfl)
  · have hf := ifn cx hf
    refine lv_aload_n hx hb d_M_submit_13 rfl (lv_at hl 0 rfl) ?_
    refine va_get (D := D) (ci := 12) (v := .int (u0 1)) (C := "CoinKeeperModel") (T := F_12) (N := 98) hx hb hts i_12 hown hK hP 0 rfl rfl 3 (by decide) (hts _ gw_1422) (fun _ h9 => h9) rfl d_M_submit_14 ?_
    refine lv_aload_n hx hb d_M_submit_17 rfl (lv_at hl 0 rfl) ?_
    refine va_get (D := D) (ci := 12) (v := .int (u0 0)) (C := "CoinKeeperModel") (T := F_12) (N := 98) hx hb hts i_12 hown hK hP 0 rfl rfl 2 (by decide) (hts _ gw_1421) (fun _ h9 => h9) rfl d_M_submit_18 ?_
    refine lv_iadd hx hb d_M_submit_21 ?_
    refine lv_topi (fun v2 ev => ?_)
    have hf := bn ev hf
    clear ev
    refine lv_ldcw (v := 100000) hx hb hown (hts _ gw_1734) d_M_submit_22 ?_
    refine lv_icmp_le (tgt := 32) hx hb d_M_submit_25 (by decide) (fun cx => ?_) (fun cx => ?_)
    · have hf := ifp cx hf
      refine lv_iconst (v := 0) hx hb d_M_submit_32 (by decide) ?_
      exact wb_M_submit_33 (fu := fu) F _ _ _ _ hf _ _ _ hP hD hS (lv_sub hl [0] rfl)
    · have hf := ifn cx hf
      exact wb_M_submit_28 (fu := fu) F _ _ _ hf _ _ _ hP hD hS (lv_sub hl [0] rfl)
theorem c_M_submit (l : Launch) (D : va_G) (cy : Nat → ClassId) (ad : Nat → Nat) (fu : Nat) (o : Nat) (q : Nat → Nat) (g_row : Nat → Int32) (u0 : Nat → Int32) (u1 : Nat → Int32) (res : Int32 × (Nat → Int32) × (Nat → Int32)) (hf : x_M_submit fu g_row u0 u1 = some res) (sz : Nat) : Met l ({ cls := "CoinKeeperModel", name := "submit", desc := "()I" } : Jvm.MethodName) (.code ({ cls := "CoinKeeperModel", name := "submit", desc := "()I" } : Jvm.MethodName) b_M_submit 8 (some .int) :: gw) rm_M_submit (va_Pc [.ref o] (Pr D cy ad [(o, .inr (12, mo q u0)), ((q 0), .inl (cy 0, 3000, .inl g_row)), ((q 1), .inl (cy 0, 103000, .inl u1))] sz)) (q_M_submit D cy (va_A [(o, .inr (12, mo q u0)), ((q 0), .inl (cy 0, 3000, .inl g_row)), ((q 1), .inl (cy 0, 103000, .inl u1))] sz) o q g_row res) 0 0 (va_A [(o, .inr (12, mo q u0)), ((q 0), .inl (cy 0, 3000, .inl g_row)), ((q 1), .inl (cy 0, 103000, .inl u1))] sz) :=
  q_met (Qc := fun A => q_M_submit D cy A o q g_row res) (by decide) rfl rfl (Nat.le_of_ble_eq_true rfl) (fun p e s m below meth c ls F hP hD hS hl => we_M_submit (fu := fu) F u0 u1 res hf _ _ _ hP hD hS hl) sz
