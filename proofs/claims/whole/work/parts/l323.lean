abbrev b_M_isNull : ByteArray := prog_14_method_67_code
theorem d_M_isNull_0 : decode b_M_isNull 0 = .ok (.iconst 0, 1) := by decide +kernel
theorem d_M_isNull_1 : decode b_M_isNull 1 = .ok (.istore_n 2, 1) := by decide +kernel
theorem d_M_isNull_2 : decode b_M_isNull 2 = .ok (.iload_n 2, 1) := by decide +kernel
theorem d_M_isNull_3 : decode b_M_isNull 3 = .ok (.bipush 32, 2) := by decide +kernel
theorem d_M_isNull_5 : decode b_M_isNull 5 = .ok (.if_icmp .ge 27, 3) := by decide +kernel
theorem d_M_isNull_8 : decode b_M_isNull 8 = .ok (.aload_n 0, 1) := by decide +kernel
theorem d_M_isNull_9 : decode b_M_isNull 9 = .ok (.getfield 14, 3) := by decide +kernel
theorem d_M_isNull_12 : decode b_M_isNull 12 = .ok (.aload_n 0, 1) := by decide +kernel
theorem d_M_isNull_13 : decode b_M_isNull 13 = .ok (.getfield 73, 3) := by decide +kernel
theorem d_M_isNull_16 : decode b_M_isNull 16 = .ok (.iload_n 1, 1) := by decide +kernel
theorem d_M_isNull_17 : decode b_M_isNull 17 = .ok (.iaload, 1) := by decide +kernel
theorem d_M_isNull_18 : decode b_M_isNull 18 = .ok (.iload_n 2, 1) := by decide +kernel
theorem d_M_isNull_19 : decode b_M_isNull 19 = .ok (.iadd, 1) := by decide +kernel
theorem d_M_isNull_20 : decode b_M_isNull 20 = .ok (.baload, 1) := by decide +kernel
theorem d_M_isNull_21 : decode b_M_isNull 21 = .ok (.ifCond .eq 5, 3) := by decide +kernel
theorem d_M_isNull_24 : decode b_M_isNull 24 = .ok (.iconst 0, 1) := by decide +kernel
theorem d_M_isNull_25 : decode b_M_isNull 25 = .ok (.ireturn, 1) := by decide +kernel
theorem d_M_isNull_26 : decode b_M_isNull 26 = .ok (.iinc 2 1, 3) := by decide +kernel
theorem d_M_isNull_29 : decode b_M_isNull 29 = .ok (.goto (-27), 3) := by decide +kernel
theorem d_M_isNull_32 : decode b_M_isNull 32 = .ok (.aload_n 0, 1) := by decide +kernel
theorem d_M_isNull_33 : decode b_M_isNull 33 = .ok (.getfield 14, 3) := by decide +kernel
theorem d_M_isNull_36 : decode b_M_isNull 36 = .ok (.aload_n 0, 1) := by decide +kernel
theorem d_M_isNull_37 : decode b_M_isNull 37 = .ok (.getfield 73, 3) := by decide +kernel
theorem d_M_isNull_40 : decode b_M_isNull 40 = .ok (.iload_n 1, 1) := by decide +kernel
theorem d_M_isNull_41 : decode b_M_isNull 41 = .ok (.iaload, 1) := by decide +kernel
theorem d_M_isNull_42 : decode b_M_isNull 42 = .ok (.bipush 32, 2) := by decide +kernel
theorem d_M_isNull_44 : decode b_M_isNull 44 = .ok (.iadd, 1) := by decide +kernel
theorem d_M_isNull_45 : decode b_M_isNull 45 = .ok (.invokestatic 309, 3) := by decide +kernel
theorem d_M_isNull_48 : decode b_M_isNull 48 = .ok (.iconst (-1), 1) := by decide +kernel
theorem d_M_isNull_49 : decode b_M_isNull 49 = .ok (.if_icmp .ne 7, 3) := by decide +kernel
theorem d_M_isNull_52 : decode b_M_isNull 52 = .ok (.iconst 1, 1) := by decide +kernel
theorem d_M_isNull_53 : decode b_M_isNull 53 = .ok (.goto 4, 3) := by decide +kernel
theorem d_M_isNull_56 : decode b_M_isNull 56 = .ok (.iconst 0, 1) := by decide +kernel
theorem d_M_isNull_57 : decode b_M_isNull 57 = .ok (.ireturn, 1) := by decide +kernel
abbrev rm_M_isNull : Room := { frames := 1, cells := 0, slots := 0, locals := 21 }
abbrev q_M_isNull (D : va_G) (cy : Nat → ClassId) (A : Nat → Prop) (o : Nat) (q : Nat → Nat) (z : Nat → Int32) (g_store : Nat → Int32) (g_iAt : Nat → Int32) (res : Int32) : Array Value → State → Outcome → State → Prop := va_Qi (fun r' (_ : Unit) => r' = res) (fun _ t => Po D cy A [(o, .inr (12, mo q z)), ((q 1), .inl (cy 0, 103000, .inl g_store)), ((q 20), .inl (cy 1, 2600, .inl g_iAt))] t) A
def I_M_isNull_2 (p : Program) (l : Launch) (e : Env) (s : State) (m : MethodId) (args : Array Value) (below : List Frame) (meth : Method) (c : Code) (D : va_G) (cy : Nat → ClassId) (A : Nat → Prop) (ad : Nat → Nat) (o : Nat) (q : Nat → Nat) (z : Nat → Int32) (g_store : Nat → Int32) (g_iAt : Nat → Int32) (k : Int32 → Int32 → Option (Int32)) : Prop :=
  ∀ (x1 : Int32) (x2 : Int32) (res : Int32), k x1 x2 = some res → ∀ (H : Heap) (locs : List Loc) (ls : Array Slot), va_P D classes [(o, .inr (12, mo q z)), ((q 1), .inl (cy 0, 103000, .inl g_store)), ((q 20), .inl (cy 1, 2600, .inl g_iAt))] H → va_D A [(o, .inr (12, mo q z)), ((q 1), .inl (cy 0, 103000, .inl g_store)), ((q 20), .inl (cy 1, 2600, .inl g_iAt))] → va_S A s.heap H locs → lv_has ls 3 [(0, .ref o), (1, .int x1), (2, .int x2)] → W p l e rm_M_isNull s m args below meth c H locs 0 0 (MQ below (q_M_isNull D cy A o q z g_store g_iAt res) args s 0 0 A) (F0 m 2 ls [])
def I_M_isNull_e (p : Program) (l : Launch) (e : Env) (s : State) (m : MethodId) (args : Array Value) (below : List Frame) (meth : Method) (c : Code) (D : va_G) (cy : Nat → ClassId) (A : Nat → Prop) (ad : Nat → Nat) (o : Nat) (q : Nat → Nat) (z : Nat → Int32) (g_store : Nat → Int32) (g_iAt : Nat → Int32) (k : Int32 → Option (Int32)) : Prop :=
  ∀ (a1 : Int32) (res : Int32), k a1 = some res → ∀ (H : Heap) (locs : List Loc) (ls : Array Slot), va_P D classes [(o, .inr (12, mo q z)), ((q 1), .inl (cy 0, 103000, .inl g_store)), ((q 20), .inl (cy 1, 2600, .inl g_iAt))] H → va_D A [(o, .inr (12, mo q z)), ((q 1), .inl (cy 0, 103000, .inl g_store)), ((q 20), .inl (cy 1, 2600, .inl g_iAt))] → va_S A s.heap H locs → lv_has ls 3 [(0, .ref o), (1, .int a1)] → W p l e rm_M_isNull s m args below meth c H locs 0 0 (MQ below (q_M_isNull D cy A o q z g_store g_iAt res) args s 0 0 A) (F0 m 0 ls [])
set_option maxHeartbeats 8000000 in
set_option maxRecDepth 100000 in
theorem wb_M_isNull_2 {p : Program} {l : Launch} {e : Env} {s : State} {m : MethodId} {args : Array Value} {below : List Frame} {meth : Method} {c : Code} {D : va_G} {cy : Nat → ClassId} {A : Nat → Prop} {ad : Nat → Nat} {o : Nat} {q : Nat → Nat} {z : Nat → Int32} {g_store : Nat → Int32} {g_iAt : Nat → Int32} {fu : Nat} {k_2 : Int32 → Int32 → Option (Int32)} (F : Fx p s m args meth c b_M_isNull 3 "CoinKeeperModel" "isNull" (some .boolean) D cy ad A) (hk_2 : I_M_isNull_2 p l e s m args below meth c D cy A ad o q z g_store g_iAt k_2) : I_M_isNull_2 p l e s m args below meth c D cy A ad o q z g_store g_iAt (xb_M_isNull_2 fu z g_store g_iAt k_2) := by
  obtain ⟨hx, hb, hr, hml, hown, hts, hlocks, hK, hA, hSt, hnm, hex⟩ := id F
  intro x1 x2 res hf H locs ls hP hD hS hl
  unfold xb_M_isNull_2 at hf
  refine lv_iload_n hx hb d_M_isNull_2 rfl (lv_at hl 2 rfl) ?_
  refine lv_bipush (v := 32) hx hb d_M_isNull_3 (by decide) ?_
  refine lv_icmp_ge (tgt := 32) hx hb d_M_isNull_5 (by decide) (fun cx => ?_) (fun cx => ?_)
  · have hf := ifp cx hf
    refine lv_aload_n hx hb d_M_isNull_32 rfl (lv_at hl 0 rfl) ?_
    refine va_get (D := D) (ci := 12) (v := .ref (q 1)) (C := "CoinKeeperModel") (T := F_12) (N := 98) hx hb hts i_12 hown hK hP 0 rfl rfl 1 (by decide) (hts _ gw_1420) (fun _ h9 => h9) rfl d_M_isNull_33 ?_
    refine lv_aload_n hx hb d_M_isNull_36 rfl (lv_at hl 0 rfl) ?_
    refine va_get (D := D) (ci := 12) (v := .ref (q 20)) (C := "CoinKeeperModel") (T := F_12) (N := 98) hx hb hts i_12 hown hK hP 0 rfl rfl 26 (by decide) (hts _ gw_1445) (fun _ h9 => h9) rfl d_M_isNull_37 ?_
    refine lv_iload_n hx hb d_M_isNull_40 rfl (lv_at hl 1 rfl) ?_
    obtain ⟨hg, hf⟩ := gdp hf
    refine va_iald hx hb hK hP 2 1 rfl rfl (inb_in hg) d_M_isNull_41 ?_
    refine lv_topi (fun v1 ev => ?_)
    have hf := bn ev hf
    clear ev
    refine lv_bipush (v := 32) hx hb d_M_isNull_42 (by decide) ?_
    refine lv_iadd hx hb d_M_isNull_44 ?_
    refine lv_topi (fun v2 ev => ?_)
    have hf := bn ev hf
    clear ev
    obtain ⟨v3, hc, hf⟩ := bdp1 hf
    refine q_ai (wr := [(o, .inr (12, mo q z)), ((q 20), .inl (cy 1, 2600, .inl g_iAt))]) (va_runS (As := [.ref (q 1), .int v2]) (rest := []) ⟨hx, hb, hml, hown, hts⟩ (c_M_small l D cy ad fu (q 1) 103000 g_store v2 _ hc H.size) ⟨q_cB hts gw_1779 gw_18 gw_1777 hdm_4 ⟨by decide, by decide⟩, hts _ gw_1778⟩ (q_pre (hP.sub [1] rfl) (hD.sub [1] (by decide) rfl) hK hSt hS (va_free hD hS hA [1] rfl) _) rfl rfl hl.1 rfl (lv_room (Nat.le_of_ble_eq_true rfl)) d_M_isNull_45 ⟨Nat.le_of_ble_eq_true rfl, Nat.le_of_ble_eq_true rfl⟩) hP hD hS hA [1] [0, 2] rfl rfl (by decide) (by decide) (fun H locs hP hD hS => ?_)
    clear hc
    have hP : va_P D classes [(o, .inr (12, mo q z)), ((q 20), .inl (cy 1, 2600, .inl g_iAt)), ((q 1), .inl (cy 0, 103000, .inl g_store))] H := hP
    have hD : va_D A [(o, .inr (12, mo q z)), ((q 20), .inl (cy 1, 2600, .inl g_iAt)), ((q 1), .inl (cy 0, 103000, .inl g_store))] := hD
    refine lv_iconst (v := (-1)) hx hb d_M_isNull_48 (by decide) ?_
    refine lv_icmp_ne (tgt := 56) hx hb d_M_isNull_49 (by decide) (fun cx => ?_) (fun cx => ?_)
    · have hf := ifn cx hf
      refine lv_iconst (v := 0) hx hb d_M_isNull_56 (by decide) ?_
      obtain rfl := Option.some.inj hf
      exact q_rz hx hb hr hlocks hK (hP.sub [0, 2, 1] rfl) (hD.sub [0, 2, 1] (by decide) rfl) hS (isb_n (v := 0) (by decide)) d_M_isNull_57
    · have hf := ifp cx hf
      refine lv_iconst (v := 1) hx hb d_M_isNull_52 (by decide) ?_
      refine lv_goto (tgt := 57) hx hb d_M_isNull_53 (by decide) ?_
      obtain rfl := Option.some.inj hf
      exact q_rz hx hb hr hlocks hK (hP.sub [0, 2, 1] rfl) (hD.sub [0, 2, 1] (by decide) rfl) hS (isb_n (v := 1) (by decide)) d_M_isNull_57
  · have hf := ifn cx hf
    refine lv_aload_n hx hb d_M_isNull_8 rfl (lv_at hl 0 rfl) ?_
    refine va_get (D := D) (ci := 12) (v := .ref (q 1)) (C := "CoinKeeperModel") (T := F_12) (N := 98) hx hb hts i_12 hown hK hP 0 rfl rfl 1 (by decide) (hts _ gw_1420) (fun _ h9 => h9) rfl d_M_isNull_9 ?_
    refine lv_aload_n hx hb d_M_isNull_12 rfl (lv_at hl 0 rfl) ?_
    refine va_get (D := D) (ci := 12) (v := .ref (q 20)) (C := "CoinKeeperModel") (T := F_12) (N := 98) hx hb hts i_12 hown hK hP 0 rfl rfl 26 (by decide) (hts _ gw_1445) (fun _ h9 => h9) rfl d_M_isNull_13 ?_
    refine lv_iload_n hx hb d_M_isNull_16 rfl (lv_at hl 1 rfl) ?_
    obtain ⟨hg, hf⟩ := gdp hf
    refine va_iald hx hb hK hP 2 1 rfl rfl (inb_in hg) d_M_isNull_17 ?_
    refine lv_topi (fun v4 ev => ?_)
    have hf := bn ev hf
    clear ev
    refine lv_iload_n hx hb d_M_isNull_18 rfl (lv_at hl 2 rfl) ?_
    refine lv_iadd hx hb d_M_isNull_19 ?_
    refine lv_topi (fun v5 ev => ?_)
    have hf := bn ev hf
    clear ev
    obtain ⟨hg, hf⟩ := gdp hf
    refine va_bald hx hb hK hP 1 0 rfl rfl (inb_in hg) d_M_isNull_20 ?_
    refine lv_topi (fun v6 ev => ?_)
    have hf := bn ev hf
    clear ev
    refine lv_if_eq (tgt := 26) hx hb d_M_isNull_21 (by decide) (fun cx => ?_) (fun cx => ?_)
    · have hf := ifp cx hf
      obtain ⟨v7, ev, hf⟩ := bne hf
      refine lv_iinc (v := v7) (lv' := [(2, .int v7), (0, .ref o), (1, .int x1)]) hx hb d_M_isNull_26 hl (k := 2) rfl (by rw [ev]; rfl) (by decide) rfl (fun ls hl => ?_)
      clear ev
      refine lv_goto (tgt := 2) hx hb d_M_isNull_29 (by decide) ?_
      exact hk_2 _ _ _ hf _ _ _ hP hD hS (lv_sub hl [1, 2, 0] rfl)
    · have hf := ifn cx hf
      refine lv_iconst (v := 0) hx hb d_M_isNull_24 (by decide) ?_
      obtain rfl := Option.some.inj hf
      exact q_rz hx hb hr hlocks hK hP hD hS (isb_n (v := 0) (by decide)) d_M_isNull_25
theorem w_M_isNull_2 {p : Program} {l : Launch} {e : Env} {s : State} {m : MethodId} {args : Array Value} {below : List Frame} {meth : Method} {c : Code} {D : va_G} {cy : Nat → ClassId} {A : Nat → Prop} {ad : Nat → Nat} {o : Nat} {q : Nat → Nat} {z : Nat → Int32} {g_store : Nat → Int32} {g_iAt : Nat → Int32} {fu : Nat} (F : Fx p s m args meth c b_M_isNull 3 "CoinKeeperModel" "isNull" (some .boolean) D cy ad A) : ∀ n : Nat, I_M_isNull_2 p l e s m args below meth c D cy A ad o q z g_store g_iAt (x_M_isNull_2 fu z g_store g_iAt n)
  | 0 => fun _ _ _ hf => nomatch (show (none : Option (Int32)) = some _ from hf)
  | n + 1 => wb_M_isNull_2 F (w_M_isNull_2 F n)
set_option maxHeartbeats 8000000 in
set_option maxRecDepth 100000 in
theorem we_M_isNull {p : Program} {l : Launch} {e : Env} {s : State} {m : MethodId} {args : Array Value} {below : List Frame} {meth : Method} {c : Code} {D : va_G} {cy : Nat → ClassId} {A : Nat → Prop} {ad : Nat → Nat} {o : Nat} {q : Nat → Nat} {z : Nat → Int32} {g_store : Nat → Int32} {g_iAt : Nat → Int32} {fu : Nat} (F : Fx p s m args meth c b_M_isNull 3 "CoinKeeperModel" "isNull" (some .boolean) D cy ad A) : I_M_isNull_e p l e s m args below meth c D cy A ad o q z g_store g_iAt (x_M_isNull fu z g_store g_iAt) := by
  obtain ⟨hx, hb, hr, hml, hown, hts, hlocks, hK, hA, hSt, hnm, hex⟩ := id F
  intro a1 res hf H locs ls hP hD hS hl
  unfold x_M_isNull at hf
  refine lv_iconst (v := 0) hx hb d_M_isNull_0 (by decide) ?_
  refine lv_istore_n (lv' := [(2, .int (0 : Int32)), (0, .ref o), (1, .int a1)]) hx hb d_M_isNull_1 rfl hl (by decide) rfl (fun ls hl => ?_)
  exact w_M_isNull_2 F fu _ _ _ hf _ _ _ hP hD hS (lv_sub hl [1, 2, 0] rfl)
theorem c_M_isNull (l : Launch) (D : va_G) (cy : Nat → ClassId) (ad : Nat → Nat) (fu : Nat) (o : Nat) (q : Nat → Nat) (z : Nat → Int32) (g_store : Nat → Int32) (g_iAt : Nat → Int32) (a1 : Int32) (res : Int32) (hf : x_M_isNull fu z g_store g_iAt a1 = some res) (sz : Nat) : Met l ({ cls := "CoinKeeperModel", name := "isNull", desc := "(I)Z" } : Jvm.MethodName) (.code ({ cls := "CoinKeeperModel", name := "isNull", desc := "(I)Z" } : Jvm.MethodName) b_M_isNull 3 (some .boolean) :: gw) rm_M_isNull (va_Pc [.ref o, .int a1] (Pr D cy ad [(o, .inr (12, mo q z)), ((q 1), .inl (cy 0, 103000, .inl g_store)), ((q 20), .inl (cy 1, 2600, .inl g_iAt))] sz)) (q_M_isNull D cy (va_A [(o, .inr (12, mo q z)), ((q 1), .inl (cy 0, 103000, .inl g_store)), ((q 20), .inl (cy 1, 2600, .inl g_iAt))] sz) o q z g_store g_iAt res) 0 0 (va_A [(o, .inr (12, mo q z)), ((q 1), .inl (cy 0, 103000, .inl g_store)), ((q 20), .inl (cy 1, 2600, .inl g_iAt))] sz) :=
  q_met (Qc := fun A => q_M_isNull D cy A o q z g_store g_iAt res) (by decide) rfl rfl (Nat.le_of_ble_eq_true rfl) (fun p e s m below meth c ls F hP hD hS hl => we_M_isNull (fu := fu) F a1 res hf _ _ _ hP hD hS hl) sz
abbrev b_M_isAlike : ByteArray := prog_14_method_70_code
theorem d_M_isAlike_0 : decode b_M_isAlike 0 = .ok (.iconst 0, 1) := by decide +kernel
theorem d_M_isAlike_1 : decode b_M_isAlike 1 = .ok (.istore_n 3, 1) := by decide +kernel
theorem d_M_isAlike_2 : decode b_M_isAlike 2 = .ok (.iload_n 3, 1) := by decide +kernel
theorem d_M_isAlike_3 : decode b_M_isAlike 3 = .ok (.bipush 36, 2) := by decide +kernel
theorem d_M_isAlike_5 : decode b_M_isAlike 5 = .ok (.if_icmp .ge 40, 3) := by decide +kernel
theorem d_M_isAlike_8 : decode b_M_isAlike 8 = .ok (.aload_n 0, 1) := by decide +kernel
theorem d_M_isAlike_9 : decode b_M_isAlike 9 = .ok (.getfield 14, 3) := by decide +kernel
theorem d_M_isAlike_12 : decode b_M_isAlike 12 = .ok (.aload_n 0, 1) := by decide +kernel
theorem d_M_isAlike_13 : decode b_M_isAlike 13 = .ok (.getfield 73, 3) := by decide +kernel
theorem d_M_isAlike_16 : decode b_M_isAlike 16 = .ok (.iload_n 1, 1) := by decide +kernel
theorem d_M_isAlike_17 : decode b_M_isAlike 17 = .ok (.iaload, 1) := by decide +kernel
theorem d_M_isAlike_18 : decode b_M_isAlike 18 = .ok (.iload_n 3, 1) := by decide +kernel
theorem d_M_isAlike_19 : decode b_M_isAlike 19 = .ok (.iadd, 1) := by decide +kernel
theorem d_M_isAlike_20 : decode b_M_isAlike 20 = .ok (.baload, 1) := by decide +kernel
theorem d_M_isAlike_21 : decode b_M_isAlike 21 = .ok (.aload_n 0, 1) := by decide +kernel
theorem d_M_isAlike_22 : decode b_M_isAlike 22 = .ok (.getfield 14, 3) := by decide +kernel
theorem d_M_isAlike_25 : decode b_M_isAlike 25 = .ok (.aload_n 0, 1) := by decide +kernel
theorem d_M_isAlike_26 : decode b_M_isAlike 26 = .ok (.getfield 73, 3) := by decide +kernel
theorem d_M_isAlike_29 : decode b_M_isAlike 29 = .ok (.iload_n 2, 1) := by decide +kernel
theorem d_M_isAlike_30 : decode b_M_isAlike 30 = .ok (.iaload, 1) := by decide +kernel
theorem d_M_isAlike_31 : decode b_M_isAlike 31 = .ok (.iload_n 3, 1) := by decide +kernel
theorem d_M_isAlike_32 : decode b_M_isAlike 32 = .ok (.iadd, 1) := by decide +kernel
theorem d_M_isAlike_33 : decode b_M_isAlike 33 = .ok (.baload, 1) := by decide +kernel
theorem d_M_isAlike_34 : decode b_M_isAlike 34 = .ok (.if_icmp .eq 5, 3) := by decide +kernel
theorem d_M_isAlike_37 : decode b_M_isAlike 37 = .ok (.iconst 0, 1) := by decide +kernel
theorem d_M_isAlike_38 : decode b_M_isAlike 38 = .ok (.ireturn, 1) := by decide +kernel
theorem d_M_isAlike_39 : decode b_M_isAlike 39 = .ok (.iinc 3 1, 3) := by decide +kernel
theorem d_M_isAlike_42 : decode b_M_isAlike 42 = .ok (.goto (-40), 3) := by decide +kernel
theorem d_M_isAlike_45 : decode b_M_isAlike 45 = .ok (.iconst 1, 1) := by decide +kernel
theorem d_M_isAlike_46 : decode b_M_isAlike 46 = .ok (.ireturn, 1) := by decide +kernel
abbrev rm_M_isAlike : Room := { frames := 0, cells := 0, slots := 0, locals := 0 }
abbrev q_M_isAlike (D : va_G) (cy : Nat → ClassId) (A : Nat → Prop) (o : Nat) (q : Nat → Nat) (z : Nat → Int32) (g_store : Nat → Int32) (g_iAt : Nat → Int32) (res : Int32) : Array Value → State → Outcome → State → Prop := va_Qi (fun r' (_ : Unit) => r' = res) (fun _ t => Po D cy A [(o, .inr (12, mo q z)), ((q 1), .inl (cy 0, 103000, .inl g_store)), ((q 20), .inl (cy 1, 2600, .inl g_iAt))] t) A
def I_M_isAlike_2 (p : Program) (l : Launch) (e : Env) (s : State) (m : MethodId) (args : Array Value) (below : List Frame) (meth : Method) (c : Code) (D : va_G) (cy : Nat → ClassId) (A : Nat → Prop) (ad : Nat → Nat) (o : Nat) (q : Nat → Nat) (z : Nat → Int32) (g_store : Nat → Int32) (g_iAt : Nat → Int32) (k : Int32 → Int32 → Int32 → Option (Int32)) : Prop :=
  ∀ (x1 : Int32) (x2 : Int32) (x3 : Int32) (res : Int32), k x1 x2 x3 = some res → ∀ (H : Heap) (locs : List Loc) (ls : Array Slot), va_P D classes [(o, .inr (12, mo q z)), ((q 1), .inl (cy 0, 103000, .inl g_store)), ((q 20), .inl (cy 1, 2600, .inl g_iAt))] H → va_D A [(o, .inr (12, mo q z)), ((q 1), .inl (cy 0, 103000, .inl g_store)), ((q 20), .inl (cy 1, 2600, .inl g_iAt))] → va_S A s.heap H locs → lv_has ls 4 [(0, .ref o), (1, .int x1), (2, .int x2), (3, .int x3)] → W p l e rm_M_isAlike s m args below meth c H locs 0 0 (MQ below (q_M_isAlike D cy A o q z g_store g_iAt res) args s 0 0 A) (F0 m 2 ls [])
def I_M_isAlike_e (p : Program) (l : Launch) (e : Env) (s : State) (m : MethodId) (args : Array Value) (below : List Frame) (meth : Method) (c : Code) (D : va_G) (cy : Nat → ClassId) (A : Nat → Prop) (ad : Nat → Nat) (o : Nat) (q : Nat → Nat) (z : Nat → Int32) (g_store : Nat → Int32) (g_iAt : Nat → Int32) (k : Int32 → Int32 → Option (Int32)) : Prop :=
  ∀ (a1 : Int32) (a2 : Int32) (res : Int32), k a1 a2 = some res → ∀ (H : Heap) (locs : List Loc) (ls : Array Slot), va_P D classes [(o, .inr (12, mo q z)), ((q 1), .inl (cy 0, 103000, .inl g_store)), ((q 20), .inl (cy 1, 2600, .inl g_iAt))] H → va_D A [(o, .inr (12, mo q z)), ((q 1), .inl (cy 0, 103000, .inl g_store)), ((q 20), .inl (cy 1, 2600, .inl g_iAt))] → va_S A s.heap H locs → lv_has ls 4 [(0, .ref o), (1, .int a1), (2, .int a2)] → W p l e rm_M_isAlike s m args below meth c H locs 0 0 (MQ below (q_M_isAlike D cy A o q z g_store g_iAt res) args s 0 0 A) (F0 m 0 ls [])
set_option maxHeartbeats 8000000 in
set_option maxRecDepth 100000 in
theorem wb_M_isAlike_2 {p : Program} {l : Launch} {e : Env} {s : State} {m : MethodId} {args : Array Value} {below : List Frame} {meth : Method} {c : Code} {D : va_G} {cy : Nat → ClassId} {A : Nat → Prop} {ad : Nat → Nat} {o : Nat} {q : Nat → Nat} {z : Nat → Int32} {g_store : Nat → Int32} {g_iAt : Nat → Int32} {fu : Nat} {k_2 : Int32 → Int32 → Int32 → Option (Int32)} (F : Fx p s m args meth c b_M_isAlike 4 "CoinKeeperModel" "isAlike" (some .boolean) D cy ad A) (hk_2 : I_M_isAlike_2 p l e s m args below meth c D cy A ad o q z g_store g_iAt k_2) : I_M_isAlike_2 p l e s m args below meth c D cy A ad o q z g_store g_iAt (xb_M_isAlike_2 fu z g_store g_iAt k_2) := by
  obtain ⟨hx, hb, hr, hml, hown, hts, hlocks, hK, hA, hSt, hnm, hex⟩ := id F
  intro x1 x2 x3 res hf H locs ls hP hD hS hl
  unfold xb_M_isAlike_2 at hf
  refine lv_iload_n hx hb d_M_isAlike_2 rfl (lv_at hl 3 rfl) ?_
  refine lv_bipush (v := 36) hx hb d_M_isAlike_3 (by decide) ?_
  refine lv_icmp_ge (tgt := 45) hx hb d_M_isAlike_5 (by decide) (fun cx => ?_) (fun cx => ?_)
  · have hf := ifp cx hf
    refine lv_iconst (v := 1) hx hb d_M_isAlike_45 (by decide) ?_
    obtain rfl := Option.some.inj hf
    exact q_rz hx hb hr hlocks hK hP hD hS (isb_n (v := 1) (by decide)) d_M_isAlike_46
  · have hf := ifn cx hf
    refine lv_aload_n hx hb d_M_isAlike_8 rfl (lv_at hl 0 rfl) ?_
    refine va_get (D := D) (ci := 12) (v := .ref (q 1)) (C := "CoinKeeperModel") (T := F_12) (N := 98) hx hb hts i_12 hown hK hP 0 rfl rfl 1 (by decide) (hts _ gw_1420) (fun _ h9 => h9) rfl d_M_isAlike_9 ?_
    refine lv_aload_n hx hb d_M_isAlike_12 rfl (lv_at hl 0 rfl) ?_
    refine va_get (D := D) (ci := 12) (v := .ref (q 20)) (C := "CoinKeeperModel") (T := F_12) (N := 98) hx hb hts i_12 hown hK hP 0 rfl rfl 26 (by decide) (hts _ gw_1445) (fun _ h9 => h9) rfl d_M_isAlike_13 ?_
    refine lv_iload_n hx hb d_M_isAlike_16 rfl (lv_at hl 1 rfl) ?_
    obtain ⟨hg, hf⟩ := gdp hf
    refine va_iald hx hb hK hP 2 1 rfl rfl (inb_in hg) d_M_isAlike_17 ?_
    refine lv_topi (fun v1 ev => ?_)
    have hf := bn ev hf
    clear ev
    refine lv_iload_n hx hb d_M_isAlike_18 rfl (lv_at hl 3 rfl) ?_
    refine lv_iadd hx hb d_M_isAlike_19 ?_
    refine lv_topi (fun v2 ev => ?_)
    have hf := bn ev hf
    clear ev
    obtain ⟨hg, hf⟩ := gdp hf
    refine va_bald hx hb hK hP 1 0 rfl rfl (inb_in hg) d_M_isAlike_20 ?_
    refine lv_topi (fun v3 ev => ?_)
    have hf := bn ev hf
    clear ev
    refine lv_aload_n hx hb d_M_isAlike_21 rfl (lv_at hl 0 rfl) ?_
    refine va_get (D := D) (ci := 12) (v := .ref (q 1)) (C := "CoinKeeperModel") (T := F_12) (N := 98) hx hb hts i_12 hown hK hP 0 rfl rfl 1 (by decide) (hts _ gw_1420) (fun _ h9 => h9) rfl d_M_isAlike_22 ?_
    refine lv_aload_n hx hb d_M_isAlike_25 rfl (lv_at hl 0 rfl) ?_
    refine va_get (D := D) (ci := 12) (v := .ref (q 20)) (C := "CoinKeeperModel") (T := F_12) (N := 98) hx hb hts i_12 hown hK hP 0 rfl rfl 26 (by decide) (hts _ gw_1445) (fun _ h9 => h9) rfl d_M_isAlike_26 ?_
    refine lv_iload_n hx hb d_M_isAlike_29 rfl (lv_at hl 2 rfl) ?_
    obtain ⟨hg, hf⟩ := gdp hf
    refine va_iald hx hb hK hP 2 1 rfl rfl (inb_in hg) d_M_isAlike_30 ?_
    refine lv_topi (fun v4 ev => ?_)
    have hf := bn ev hf
    clear ev
    refine lv_iload_n hx hb d_M_isAlike_31 rfl (lv_at hl 3 rfl) ?_
    refine lv_iadd hx hb d_M_isAlike_32 ?_
    refine lv_topi (fun v5 ev => ?_)
    have hf := bn ev hf
    clear ev
    obtain ⟨hg, hf⟩ := gdp hf
    refine va_bald hx hb hK hP 1 0 rfl rfl (inb_in hg) d_M_isAlike_33 ?_
    refine lv_topi (fun v6 ev => ?_)
    have hf := bn ev hf
    clear ev
    refine lv_icmp_eq (tgt := 39) hx hb d_M_isAlike_34 (by decide) (fun cx => ?_) (fun cx => ?_)
    · have hf := ifp cx hf
      obtain ⟨v7, ev, hf⟩ := bne hf
      refine lv_iinc (v := v7) (lv' := [(3, .int v7), (0, .ref o), (1, .int x1), (2, .int x2)]) hx hb d_M_isAlike_39 hl (k := 3) rfl (by rw [ev]; rfl) (by decide) rfl (fun ls hl => ?_)
      clear ev
      refine lv_goto (tgt := 2) hx hb d_M_isAlike_42 (by decide) ?_
      exact hk_2 _ _ _ _ hf _ _ _ hP hD hS (lv_sub hl [1, 2, 3, 0] rfl)
    · have hf := ifn cx hf
      refine lv_iconst (v := 0) hx hb d_M_isAlike_37 (by decide) ?_
      obtain rfl := Option.some.inj hf
      exact q_rz hx hb hr hlocks hK hP hD hS (isb_n (v := 0) (by decide)) d_M_isAlike_38
theorem w_M_isAlike_2 {p : Program} {l : Launch} {e : Env} {s : State} {m : MethodId} {args : Array Value} {below : List Frame} {meth : Method} {c : Code} {D : va_G} {cy : Nat → ClassId} {A : Nat → Prop} {ad : Nat → Nat} {o : Nat} {q : Nat → Nat} {z : Nat → Int32} {g_store : Nat → Int32} {g_iAt : Nat → Int32} {fu : Nat} (F : Fx p s m args meth c b_M_isAlike 4 "CoinKeeperModel" "isAlike" (some .boolean) D cy ad A) : ∀ n : Nat, I_M_isAlike_2 p l e s m args below meth c D cy A ad o q z g_store g_iAt (x_M_isAlike_2 fu z g_store g_iAt n)
  | 0 => fun _ _ _ _ hf => nomatch (show (none : Option (Int32)) = some _ from hf)
  | n + 1 => wb_M_isAlike_2 F (w_M_isAlike_2 F n)
set_option maxHeartbeats 8000000 in
set_option maxRecDepth 100000 in
theorem we_M_isAlike {p : Program} {l : Launch} {e : Env} {s : State} {m : MethodId} {args : Array Value} {below : List Frame} {meth : Method} {c : Code} {D : va_G} {cy : Nat → ClassId} {A : Nat → Prop} {ad : Nat → Nat} {o : Nat} {q : Nat → Nat} {z : Nat → Int32} {g_store : Nat → Int32} {g_iAt : Nat → Int32} {fu : Nat} (F : Fx p s m args meth c b_M_isAlike 4 "CoinKeeperModel" "isAlike" (some .boolean) D cy ad A) : I_M_isAlike_e p l e s m args below meth c D cy A ad o q z g_store g_iAt (x_M_isAlike fu z g_store g_iAt) := by
  obtain ⟨hx, hb, hr, hml, hown, hts, hlocks, hK, hA, hSt, hnm, hex⟩ := id F
  intro a1 a2 res hf H locs ls hP hD hS hl
  unfold x_M_isAlike at hf
  refine lv_iconst (v := 0) hx hb d_M_isAlike_0 (by decide) ?_
  refine lv_istore_n (lv' := [(3, .int (0 : Int32)), (0, .ref o), (1, .int a1), (2, .int a2)]) hx hb d_M_isAlike_1 rfl hl (by decide) rfl (fun ls hl => ?_)
  exact w_M_isAlike_2 F fu _ _ _ _ hf _ _ _ hP hD hS (lv_sub hl [1, 2, 3, 0] rfl)
theorem c_M_isAlike (l : Launch) (D : va_G) (cy : Nat → ClassId) (ad : Nat → Nat) (fu : Nat) (o : Nat) (q : Nat → Nat) (z : Nat → Int32) (g_store : Nat → Int32) (g_iAt : Nat → Int32) (a1 : Int32) (a2 : Int32) (res : Int32) (hf : x_M_isAlike fu z g_store g_iAt a1 a2 = some res) (sz : Nat) : Met l ({ cls := "CoinKeeperModel", name := "isAlike", desc := "(II)Z" } : Jvm.MethodName) (.code ({ cls := "CoinKeeperModel", name := "isAlike", desc := "(II)Z" } : Jvm.MethodName) b_M_isAlike 4 (some .boolean) :: gw) rm_M_isAlike (va_Pc [.ref o, .int a1, .int a2] (Pr D cy ad [(o, .inr (12, mo q z)), ((q 1), .inl (cy 0, 103000, .inl g_store)), ((q 20), .inl (cy 1, 2600, .inl g_iAt))] sz)) (q_M_isAlike D cy (va_A [(o, .inr (12, mo q z)), ((q 1), .inl (cy 0, 103000, .inl g_store)), ((q 20), .inl (cy 1, 2600, .inl g_iAt))] sz) o q z g_store g_iAt res) 0 0 (va_A [(o, .inr (12, mo q z)), ((q 1), .inl (cy 0, 103000, .inl g_store)), ((q 20), .inl (cy 1, 2600, .inl g_iAt))] sz) :=
  q_met (Qc := fun A => q_M_isAlike D cy A o q z g_store g_iAt res) (by decide) rfl rfl (Nat.le_of_ble_eq_true rfl) (fun p e s m below meth c ls F hP hD hS hl => we_M_isAlike (fu := fu) F a1 a2 res hf _ _ _ hP hD hS hl) sz
abbrev b_M_isSound : ByteArray := prog_14_method_69_code
theorem d_M_isSound_0 : decode b_M_isSound 0 = .ok (.iload_n 2, 1) := by decide +kernel
theorem d_M_isSound_1 : decode b_M_isSound 1 = .ok (.ifCond .ne 5, 3) := by decide +kernel
theorem d_M_isSound_4 : decode b_M_isSound 4 = .ok (.iconst 0, 1) := by decide +kernel
theorem d_M_isSound_5 : decode b_M_isSound 5 = .ok (.ireturn, 1) := by decide +kernel
theorem d_M_isSound_6 : decode b_M_isSound 6 = .ok (.iconst 0, 1) := by decide +kernel
theorem d_M_isSound_7 : decode b_M_isSound 7 = .ok (.istore 5, 2) := by decide +kernel
theorem d_M_isSound_9 : decode b_M_isSound 9 = .ok (.iload_n 1, 1) := by decide +kernel
theorem d_M_isSound_10 : decode b_M_isSound 10 = .ok (.istore 6, 2) := by decide +kernel
theorem d_M_isSound_12 : decode b_M_isSound 12 = .ok (.iload 6, 2) := by decide +kernel
theorem d_M_isSound_14 : decode b_M_isSound 14 = .ok (.iload_n 1, 1) := by decide +kernel
theorem d_M_isSound_15 : decode b_M_isSound 15 = .ok (.iload_n 2, 1) := by decide +kernel
theorem d_M_isSound_16 : decode b_M_isSound 16 = .ok (.iadd, 1) := by decide +kernel
theorem d_M_isSound_17 : decode b_M_isSound 17 = .ok (.if_icmp .ge 397, 3) := by decide +kernel
theorem d_M_isSound_20 : decode b_M_isSound 20 = .ok (.aload_n 0, 1) := by decide +kernel
theorem d_M_isSound_21 : decode b_M_isSound 21 = .ok (.getfield 61, 3) := by decide +kernel
theorem d_M_isSound_24 : decode b_M_isSound 24 = .ok (.iload 6, 2) := by decide +kernel
theorem d_M_isSound_26 : decode b_M_isSound 26 = .ok (.iaload, 1) := by decide +kernel
theorem d_M_isSound_27 : decode b_M_isSound 27 = .ok (.ifCond .eq 13, 3) := by decide +kernel
theorem d_M_isSound_30 : decode b_M_isSound 30 = .ok (.aload_n 0, 1) := by decide +kernel
theorem d_M_isSound_31 : decode b_M_isSound 31 = .ok (.getfield 67, 3) := by decide +kernel
theorem d_M_isSound_34 : decode b_M_isSound 34 = .ok (.iload 6, 2) := by decide +kernel
theorem d_M_isSound_36 : decode b_M_isSound 36 = .ok (.iaload, 1) := by decide +kernel
theorem d_M_isSound_37 : decode b_M_isSound 37 = .ok (.ifCond .ne 5, 3) := by decide +kernel
theorem d_M_isSound_40 : decode b_M_isSound 40 = .ok (.iconst 0, 1) := by decide +kernel
theorem d_M_isSound_41 : decode b_M_isSound 41 = .ok (.ireturn, 1) := by decide +kernel
theorem d_M_isSound_42 : decode b_M_isSound 42 = .ok (.lconst 0, 1) := by decide +kernel
theorem d_M_isSound_43 : decode b_M_isSound 43 = .ok (.lstore 7, 2) := by decide +kernel
theorem d_M_isSound_45 : decode b_M_isSound 45 = .ok (.iconst 1, 1) := by decide +kernel
theorem d_M_isSound_46 : decode b_M_isSound 46 = .ok (.istore 9, 2) := by decide +kernel
theorem d_M_isSound_48 : decode b_M_isSound 48 = .ok (.aload_n 0, 1) := by decide +kernel
theorem d_M_isSound_49 : decode b_M_isSound 49 = .ok (.getfield 64, 3) := by decide +kernel
theorem d_M_isSound_52 : decode b_M_isSound 52 = .ok (.iload 6, 2) := by decide +kernel
theorem d_M_isSound_54 : decode b_M_isSound 54 = .ok (.iaload, 1) := by decide +kernel
theorem d_M_isSound_55 : decode b_M_isSound 55 = .ok (.istore 10, 2) := by decide +kernel
theorem d_M_isSound_57 : decode b_M_isSound 57 = .ok (.iload 10, 2) := by decide +kernel
theorem d_M_isSound_59 : decode b_M_isSound 59 = .ok (.aload_n 0, 1) := by decide +kernel
theorem d_M_isSound_60 : decode b_M_isSound 60 = .ok (.getfield 64, 3) := by decide +kernel
theorem d_M_isSound_63 : decode b_M_isSound 63 = .ok (.iload 6, 2) := by decide +kernel
theorem d_M_isSound_65 : decode b_M_isSound 65 = .ok (.iaload, 1) := by decide +kernel
theorem d_M_isSound_66 : decode b_M_isSound 66 = .ok (.aload_n 0, 1) := by decide +kernel
theorem d_M_isSound_67 : decode b_M_isSound 67 = .ok (.getfield 67, 3) := by decide +kernel
theorem d_M_isSound_70 : decode b_M_isSound 70 = .ok (.iload 6, 2) := by decide +kernel
theorem d_M_isSound_72 : decode b_M_isSound 72 = .ok (.iaload, 1) := by decide +kernel
theorem d_M_isSound_73 : decode b_M_isSound 73 = .ok (.iadd, 1) := by decide +kernel
theorem d_M_isSound_74 : decode b_M_isSound 74 = .ok (.if_icmp .ge 96, 3) := by decide +kernel
theorem d_M_isSound_77 : decode b_M_isSound 77 = .ok (.aload_n 0, 1) := by decide +kernel
theorem d_M_isSound_78 : decode b_M_isSound 78 = .ok (.getfield 88, 3) := by decide +kernel
theorem d_M_isSound_81 : decode b_M_isSound 81 = .ok (.iload 10, 2) := by decide +kernel
theorem d_M_isSound_83 : decode b_M_isSound 83 = .ok (.laload, 1) := by decide +kernel
theorem d_M_isSound_84 : decode b_M_isSound 84 = .ok (.lconst 0, 1) := by decide +kernel
theorem d_M_isSound_85 : decode b_M_isSound 85 = .ok (.lcmp, 1) := by decide +kernel
theorem d_M_isSound_86 : decode b_M_isSound 86 = .ok (.ifCond .lt 30, 3) := by decide +kernel
theorem d_M_isSound_89 : decode b_M_isSound 89 = .ok (.aload_n 0, 1) := by decide +kernel
theorem d_M_isSound_90 : decode b_M_isSound 90 = .ok (.getfield 88, 3) := by decide +kernel
theorem d_M_isSound_93 : decode b_M_isSound 93 = .ok (.iload 10, 2) := by decide +kernel
theorem d_M_isSound_95 : decode b_M_isSound 95 = .ok (.laload, 1) := by decide +kernel
theorem d_M_isSound_96 : decode b_M_isSound 96 = .ok (.ldc2_w 589, 3) := by decide +kernel
theorem d_M_isSound_99 : decode b_M_isSound 99 = .ok (.lcmp, 1) := by decide +kernel
theorem d_M_isSound_100 : decode b_M_isSound 100 = .ok (.ifCond .gt 16, 3) := by decide +kernel
theorem d_M_isSound_103 : decode b_M_isSound 103 = .ok (.aload_n 0, 1) := by decide +kernel
theorem d_M_isSound_104 : decode b_M_isSound 104 = .ok (.getfield 95, 3) := by decide +kernel
theorem d_M_isSound_107 : decode b_M_isSound 107 = .ok (.iload 10, 2) := by decide +kernel
theorem d_M_isSound_109 : decode b_M_isSound 109 = .ok (.iaload, 1) := by decide +kernel
theorem d_M_isSound_110 : decode b_M_isSound 110 = .ok (.sipush 1000, 3) := by decide +kernel
theorem d_M_isSound_113 : decode b_M_isSound 113 = .ok (.if_icmp .le 5, 3) := by decide +kernel
theorem d_M_isSound_116 : decode b_M_isSound 116 = .ok (.iconst 0, 1) := by decide +kernel
theorem d_M_isSound_117 : decode b_M_isSound 117 = .ok (.ireturn, 1) := by decide +kernel
theorem d_M_isSound_118 : decode b_M_isSound 118 = .ok (.lload 7, 2) := by decide +kernel
theorem d_M_isSound_120 : decode b_M_isSound 120 = .ok (.aload_n 0, 1) := by decide +kernel
theorem d_M_isSound_121 : decode b_M_isSound 121 = .ok (.getfield 88, 3) := by decide +kernel
theorem d_M_isSound_124 : decode b_M_isSound 124 = .ok (.iload 10, 2) := by decide +kernel
theorem d_M_isSound_126 : decode b_M_isSound 126 = .ok (.laload, 1) := by decide +kernel
theorem d_M_isSound_127 : decode b_M_isSound 127 = .ok (.ladd, 1) := by decide +kernel
theorem d_M_isSound_128 : decode b_M_isSound 128 = .ok (.lstore 7, 2) := by decide +kernel
theorem d_M_isSound_130 : decode b_M_isSound 130 = .ok (.lload 7, 2) := by decide +kernel
theorem d_M_isSound_132 : decode b_M_isSound 132 = .ok (.ldc2_w 589, 3) := by decide +kernel
theorem d_M_isSound_135 : decode b_M_isSound 135 = .ok (.lcmp, 1) := by decide +kernel
theorem d_M_isSound_136 : decode b_M_isSound 136 = .ok (.ifCond .le 5, 3) := by decide +kernel
theorem d_M_isSound_139 : decode b_M_isSound 139 = .ok (.iconst 0, 1) := by decide +kernel
theorem d_M_isSound_140 : decode b_M_isSound 140 = .ok (.ireturn, 1) := by decide +kernel
theorem d_M_isSound_141 : decode b_M_isSound 141 = .ok (.iload 5, 2) := by decide +kernel
theorem d_M_isSound_143 : decode b_M_isSound 143 = .ok (.aload_n 0, 1) := by decide +kernel
theorem d_M_isSound_144 : decode b_M_isSound 144 = .ok (.aload_n 0, 1) := by decide +kernel
theorem d_M_isSound_145 : decode b_M_isSound 145 = .ok (.getfield 92, 3) := by decide +kernel
theorem d_M_isSound_148 : decode b_M_isSound 148 = .ok (.iload 10, 2) := by decide +kernel
theorem d_M_isSound_150 : decode b_M_isSound 150 = .ok (.iaload, 1) := by decide +kernel
theorem d_M_isSound_151 : decode b_M_isSound 151 = .ok (.aload_n 0, 1) := by decide +kernel
theorem d_M_isSound_152 : decode b_M_isSound 152 = .ok (.getfield 95, 3) := by decide +kernel
theorem d_M_isSound_155 : decode b_M_isSound 155 = .ok (.iload 10, 2) := by decide +kernel
theorem d_M_isSound_157 : decode b_M_isSound 157 = .ok (.iaload, 1) := by decide +kernel
theorem d_M_isSound_158 : decode b_M_isSound 158 = .ok (.invokevirtual 591, 3) := by decide +kernel
theorem d_M_isSound_161 : decode b_M_isSound 161 = .ok (.iadd, 1) := by decide +kernel
theorem d_M_isSound_162 : decode b_M_isSound 162 = .ok (.istore 5, 2) := by decide +kernel
theorem d_M_isSound_164 : decode b_M_isSound 164 = .ok (.iinc 10 1, 3) := by decide +kernel
theorem d_M_isSound_167 : decode b_M_isSound 167 = .ok (.goto (-110), 3) := by decide +kernel
theorem d_M_isSound_170 : decode b_M_isSound 170 = .ok (.aload_n 0, 1) := by decide +kernel
theorem d_M_isSound_171 : decode b_M_isSound 171 = .ok (.getfield 58, 3) := by decide +kernel
theorem d_M_isSound_174 : decode b_M_isSound 174 = .ok (.iload 6, 2) := by decide +kernel
theorem d_M_isSound_176 : decode b_M_isSound 176 = .ok (.iaload, 1) := by decide +kernel
theorem d_M_isSound_177 : decode b_M_isSound 177 = .ok (.istore 10, 2) := by decide +kernel
theorem d_M_isSound_179 : decode b_M_isSound 179 = .ok (.iload 10, 2) := by decide +kernel
theorem d_M_isSound_181 : decode b_M_isSound 181 = .ok (.aload_n 0, 1) := by decide +kernel
theorem d_M_isSound_182 : decode b_M_isSound 182 = .ok (.getfield 58, 3) := by decide +kernel
theorem d_M_isSound_185 : decode b_M_isSound 185 = .ok (.iload 6, 2) := by decide +kernel
theorem d_M_isSound_187 : decode b_M_isSound 187 = .ok (.iaload, 1) := by decide +kernel
theorem d_M_isSound_188 : decode b_M_isSound 188 = .ok (.aload_n 0, 1) := by decide +kernel
theorem d_M_isSound_189 : decode b_M_isSound 189 = .ok (.getfield 61, 3) := by decide +kernel
theorem d_M_isSound_192 : decode b_M_isSound 192 = .ok (.iload 6, 2) := by decide +kernel
theorem d_M_isSound_194 : decode b_M_isSound 194 = .ok (.iaload, 1) := by decide +kernel
theorem d_M_isSound_195 : decode b_M_isSound 195 = .ok (.iadd, 1) := by decide +kernel
theorem d_M_isSound_196 : decode b_M_isSound 196 = .ok (.if_icmp .ge 123, 3) := by decide +kernel
theorem d_M_isSound_199 : decode b_M_isSound 199 = .ok (.aload_n 0, 1) := by decide +kernel
theorem d_M_isSound_200 : decode b_M_isSound 200 = .ok (.getfield 58, 3) := by decide +kernel
theorem d_M_isSound_203 : decode b_M_isSound 203 = .ok (.iload 6, 2) := by decide +kernel
theorem d_M_isSound_205 : decode b_M_isSound 205 = .ok (.iaload, 1) := by decide +kernel
theorem d_M_isSound_206 : decode b_M_isSound 206 = .ok (.istore 11, 2) := by decide +kernel
theorem d_M_isSound_208 : decode b_M_isSound 208 = .ok (.iload 11, 2) := by decide +kernel
theorem d_M_isSound_210 : decode b_M_isSound 210 = .ok (.iload 10, 2) := by decide +kernel
theorem d_M_isSound_212 : decode b_M_isSound 212 = .ok (.if_icmp .ge 22, 3) := by decide +kernel
theorem d_M_isSound_215 : decode b_M_isSound 215 = .ok (.aload_n 0, 1) := by decide +kernel
theorem d_M_isSound_216 : decode b_M_isSound 216 = .ok (.iload 10, 2) := by decide +kernel
theorem d_M_isSound_218 : decode b_M_isSound 218 = .ok (.iload 11, 2) := by decide +kernel
theorem d_M_isSound_220 : decode b_M_isSound 220 = .ok (.invokevirtual 594, 3) := by decide +kernel
theorem d_M_isSound_223 : decode b_M_isSound 223 = .ok (.ifCond .eq 5, 3) := by decide +kernel
theorem d_M_isSound_226 : decode b_M_isSound 226 = .ok (.iconst 0, 1) := by decide +kernel
theorem d_M_isSound_227 : decode b_M_isSound 227 = .ok (.ireturn, 1) := by decide +kernel
theorem d_M_isSound_228 : decode b_M_isSound 228 = .ok (.iinc 11 1, 3) := by decide +kernel
theorem d_M_isSound_231 : decode b_M_isSound 231 = .ok (.goto (-23), 3) := by decide +kernel
theorem d_M_isSound_234 : decode b_M_isSound 234 = .ok (.aload_n 0, 1) := by decide +kernel
theorem d_M_isSound_235 : decode b_M_isSound 235 = .ok (.getfield 79, 3) := by decide +kernel
theorem d_M_isSound_238 : decode b_M_isSound 238 = .ok (.iload 10, 2) := by decide +kernel
theorem d_M_isSound_240 : decode b_M_isSound 240 = .ok (.iaload, 1) := by decide +kernel
theorem d_M_isSound_241 : decode b_M_isSound 241 = .ok (.sipush 1000, 3) := by decide +kernel
theorem d_M_isSound_244 : decode b_M_isSound 244 = .ok (.if_icmp .gt 23, 3) := by decide +kernel
theorem d_M_isSound_247 : decode b_M_isSound 247 = .ok (.aload_n 0, 1) := by decide +kernel
theorem d_M_isSound_248 : decode b_M_isSound 248 = .ok (.iload 10, 2) := by decide +kernel
theorem d_M_isSound_250 : decode b_M_isSound 250 = .ok (.invokevirtual 597, 3) := by decide +kernel
theorem d_M_isSound_253 : decode b_M_isSound 253 = .ok (.iload 6, 2) := by decide +kernel
theorem d_M_isSound_255 : decode b_M_isSound 255 = .ok (.iload_n 1, 1) := by decide +kernel
theorem d_M_isSound_256 : decode b_M_isSound 256 = .ok (.if_icmp .ne 7, 3) := by decide +kernel
theorem d_M_isSound_259 : decode b_M_isSound 259 = .ok (.iconst 1, 1) := by decide +kernel
theorem d_M_isSound_260 : decode b_M_isSound 260 = .ok (.goto 4, 3) := by decide +kernel
theorem d_M_isSound_263 : decode b_M_isSound 263 = .ok (.iconst 0, 1) := by decide +kernel
theorem d_M_isSound_264 : decode b_M_isSound 264 = .ok (.if_icmp .eq 5, 3) := by decide +kernel
theorem d_M_isSound_267 : decode b_M_isSound 267 = .ok (.iconst 0, 1) := by decide +kernel
theorem d_M_isSound_268 : decode b_M_isSound 268 = .ok (.ireturn, 1) := by decide +kernel
theorem d_M_isSound_269 : decode b_M_isSound 269 = .ok (.iload 5, 2) := by decide +kernel
theorem d_M_isSound_271 : decode b_M_isSound 271 = .ok (.aload_n 0, 1) := by decide +kernel
theorem d_M_isSound_272 : decode b_M_isSound 272 = .ok (.aload_n 0, 1) := by decide +kernel
theorem d_M_isSound_273 : decode b_M_isSound 273 = .ok (.getfield 76, 3) := by decide +kernel
theorem d_M_isSound_276 : decode b_M_isSound 276 = .ok (.iload 10, 2) := by decide +kernel
theorem d_M_isSound_278 : decode b_M_isSound 278 = .ok (.iaload, 1) := by decide +kernel
theorem d_M_isSound_279 : decode b_M_isSound 279 = .ok (.aload_n 0, 1) := by decide +kernel
theorem d_M_isSound_280 : decode b_M_isSound 280 = .ok (.getfield 79, 3) := by decide +kernel
theorem d_M_isSound_283 : decode b_M_isSound 283 = .ok (.iload 10, 2) := by decide +kernel
theorem d_M_isSound_285 : decode b_M_isSound 285 = .ok (.iaload, 1) := by decide +kernel
theorem d_M_isSound_286 : decode b_M_isSound 286 = .ok (.invokevirtual 591, 3) := by decide +kernel
theorem d_M_isSound_289 : decode b_M_isSound 289 = .ok (.iadd, 1) := by decide +kernel
theorem d_M_isSound_290 : decode b_M_isSound 290 = .ok (.istore 5, 2) := by decide +kernel
theorem d_M_isSound_292 : decode b_M_isSound 292 = .ok (.iload 9, 2) := by decide +kernel
theorem d_M_isSound_294 : decode b_M_isSound 294 = .ok (.aload_n 0, 1) := by decide +kernel
theorem d_M_isSound_295 : decode b_M_isSound 295 = .ok (.getfield 82, 3) := by decide +kernel
theorem d_M_isSound_298 : decode b_M_isSound 298 = .ok (.iload 10, 2) := by decide +kernel
theorem d_M_isSound_300 : decode b_M_isSound 300 = .ok (.iaload, 1) := by decide +kernel
theorem d_M_isSound_301 : decode b_M_isSound 301 = .ok (.iconst (-1), 1) := by decide +kernel
theorem d_M_isSound_302 : decode b_M_isSound 302 = .ok (.if_icmp .ne 7, 3) := by decide +kernel
theorem d_M_isSound_305 : decode b_M_isSound 305 = .ok (.iconst 1, 1) := by decide +kernel
theorem d_M_isSound_306 : decode b_M_isSound 306 = .ok (.goto 4, 3) := by decide +kernel
theorem d_M_isSound_309 : decode b_M_isSound 309 = .ok (.iconst 0, 1) := by decide +kernel
theorem d_M_isSound_310 : decode b_M_isSound 310 = .ok (.iand, 1) := by decide +kernel
theorem d_M_isSound_311 : decode b_M_isSound 311 = .ok (.istore 9, 2) := by decide +kernel
theorem d_M_isSound_313 : decode b_M_isSound 313 = .ok (.iinc 10 1, 3) := by decide +kernel
theorem d_M_isSound_316 : decode b_M_isSound 316 = .ok (.goto (-137), 3) := by decide +kernel
theorem d_M_isSound_319 : decode b_M_isSound 319 = .ok (.iload 6, 2) := by decide +kernel
theorem d_M_isSound_321 : decode b_M_isSound 321 = .ok (.iload_n 1, 1) := by decide +kernel
theorem d_M_isSound_322 : decode b_M_isSound 322 = .ok (.if_icmp .ne 31, 3) := by decide +kernel
theorem d_M_isSound_325 : decode b_M_isSound 325 = .ok (.aload_n 0, 1) := by decide +kernel
theorem d_M_isSound_326 : decode b_M_isSound 326 = .ok (.getfield 61, 3) := by decide +kernel
theorem d_M_isSound_329 : decode b_M_isSound 329 = .ok (.iload 6, 2) := by decide +kernel
theorem d_M_isSound_331 : decode b_M_isSound 331 = .ok (.iaload, 1) := by decide +kernel
theorem d_M_isSound_332 : decode b_M_isSound 332 = .ok (.iconst 1, 1) := by decide +kernel
theorem d_M_isSound_333 : decode b_M_isSound 333 = .ok (.if_icmp .ne 18, 3) := by decide +kernel
theorem d_M_isSound_336 : decode b_M_isSound 336 = .ok (.aload_n 0, 1) := by decide +kernel
theorem d_M_isSound_337 : decode b_M_isSound 337 = .ok (.aload_n 0, 1) := by decide +kernel
theorem d_M_isSound_338 : decode b_M_isSound 338 = .ok (.getfield 58, 3) := by decide +kernel
theorem d_M_isSound_341 : decode b_M_isSound 341 = .ok (.iload 6, 2) := by decide +kernel
theorem d_M_isSound_343 : decode b_M_isSound 343 = .ok (.iaload, 1) := by decide +kernel
theorem d_M_isSound_344 : decode b_M_isSound 344 = .ok (.iload_n 3, 1) := by decide +kernel
theorem d_M_isSound_345 : decode b_M_isSound 345 = .ok (.invokevirtual 600, 3) := by decide +kernel
theorem d_M_isSound_348 : decode b_M_isSound 348 = .ok (.ifCond .ne 5, 3) := by decide +kernel
theorem d_M_isSound_351 : decode b_M_isSound 351 = .ok (.iconst 0, 1) := by decide +kernel
theorem d_M_isSound_352 : decode b_M_isSound 352 = .ok (.ireturn, 1) := by decide +kernel
theorem d_M_isSound_353 : decode b_M_isSound 353 = .ok (.aload_n 0, 1) := by decide +kernel
theorem d_M_isSound_354 : decode b_M_isSound 354 = .ok (.getfield 70, 3) := by decide +kernel
theorem d_M_isSound_357 : decode b_M_isSound 357 = .ok (.iload 6, 2) := by decide +kernel
theorem d_M_isSound_359 : decode b_M_isSound 359 = .ok (.iaload, 1) := by decide +kernel
theorem d_M_isSound_360 : decode b_M_isSound 360 = .ok (.i2l, 1) := by decide +kernel
theorem d_M_isSound_361 : decode b_M_isSound 361 = .ok (.ldc2_w 332, 3) := by decide +kernel
theorem d_M_isSound_364 : decode b_M_isSound 364 = .ok (.land, 1) := by decide +kernel
theorem d_M_isSound_365 : decode b_M_isSound 365 = .ok (.lstore 10, 2) := by decide +kernel
theorem d_M_isSound_367 : decode b_M_isSound 367 = .ok (.lload 10, 2) := by decide +kernel
theorem d_M_isSound_369 : decode b_M_isSound 369 = .ok (.lconst 0, 1) := by decide +kernel
theorem d_M_isSound_370 : decode b_M_isSound 370 = .ok (.lcmp, 1) := by decide +kernel
theorem d_M_isSound_371 : decode b_M_isSound 371 = .ok (.ifCond .eq 37, 3) := by decide +kernel
theorem d_M_isSound_374 : decode b_M_isSound 374 = .ok (.iload 9, 2) := by decide +kernel
theorem d_M_isSound_376 : decode b_M_isSound 376 = .ok (.ifCond .ne 32, 3) := by decide +kernel
theorem d_M_isSound_379 : decode b_M_isSound 379 = .ok (.lload 10, 2) := by decide +kernel
theorem d_M_isSound_381 : decode b_M_isSound 381 = .ok (.lload 10, 2) := by decide +kernel
theorem d_M_isSound_383 : decode b_M_isSound 383 = .ok (.ldc2_w 603, 3) := by decide +kernel
theorem d_M_isSound_386 : decode b_M_isSound 386 = .ok (.lcmp, 1) := by decide +kernel
theorem d_M_isSound_387 : decode b_M_isSound 387 = .ok (.ifCond .ge 8, 3) := by decide +kernel
theorem d_M_isSound_390 : decode b_M_isSound 390 = .ok (.iload_n 3, 1) := by decide +kernel
theorem d_M_isSound_391 : decode b_M_isSound 391 = .ok (.i2l, 1) := by decide +kernel
theorem d_M_isSound_392 : decode b_M_isSound 392 = .ok (.goto 10, 3) := by decide +kernel
theorem d_M_isSound_395 : decode b_M_isSound 395 = .ok (.iload 4, 2) := by decide +kernel
theorem d_M_isSound_397 : decode b_M_isSound 397 = .ok (.i2l, 1) := by decide +kernel
theorem d_M_isSound_398 : decode b_M_isSound 398 = .ok (.ldc2_w 332, 3) := by decide +kernel
theorem d_M_isSound_401 : decode b_M_isSound 401 = .ok (.land, 1) := by decide +kernel
theorem d_M_isSound_402 : decode b_M_isSound 402 = .ok (.lcmp, 1) := by decide +kernel
theorem d_M_isSound_403 : decode b_M_isSound 403 = .ok (.ifCond .lt 5, 3) := by decide +kernel
theorem d_M_isSound_406 : decode b_M_isSound 406 = .ok (.iconst 0, 1) := by decide +kernel
theorem d_M_isSound_407 : decode b_M_isSound 407 = .ok (.ireturn, 1) := by decide +kernel
theorem d_M_isSound_408 : decode b_M_isSound 408 = .ok (.iinc 6 1, 3) := by decide +kernel
theorem d_M_isSound_411 : decode b_M_isSound 411 = .ok (.goto (-399), 3) := by decide +kernel
theorem d_M_isSound_414 : decode b_M_isSound 414 = .ok (.iload 5, 2) := by decide +kernel
theorem d_M_isSound_416 : decode b_M_isSound 416 = .ok (.bipush 40, 2) := by decide +kernel
theorem d_M_isSound_418 : decode b_M_isSound 418 = .ok (.if_icmp .gt 7, 3) := by decide +kernel
theorem d_M_isSound_421 : decode b_M_isSound 421 = .ok (.iconst 1, 1) := by decide +kernel
theorem d_M_isSound_422 : decode b_M_isSound 422 = .ok (.goto 4, 3) := by decide +kernel
theorem d_M_isSound_425 : decode b_M_isSound 425 = .ok (.iconst 0, 1) := by decide +kernel
theorem d_M_isSound_426 : decode b_M_isSound 426 = .ok (.ireturn, 1) := by decide +kernel
abbrev rm_M_isSound : Room := { frames := 2, cells := 0, slots := 0, locals := 51 }
abbrev q_M_isSound (D : va_G) (cy : Nat → ClassId) (A : Nat → Prop) (o : Nat) (q : Nat → Nat) (g_store : Nat → Int32) (g_tIn : Nat → Int32) (g_tIns : Nat → Int32) (g_tOut : Nat → Int32) (g_tOuts : Nat → Int32) (g_tLock : Nat → Int32) (g_iAt : Nat → Int32) (g_iScript : Nat → Int32) (g_iLong : Nat → Int32) (g_iSequence : Nat → Int32) (g_oValue : Nat → Int64) (g_oScript : Nat → Int32) (g_oLong : Nat → Int32) (res : Int32 × (Nat → Int32) × (Nat → Int32) × (Nat → Int32)) : Array Value → State → Outcome → State → Prop := va_Qi (fun r' (_ : Unit) => r' = res.1) (fun _ t => Po D cy A [(o, .inr (12, mo q res.2.1)), ((q 1), .inl (cy 0, 103000, .inl g_store)), ((q 15), .inl (cy 1, 2200, .inl g_tIn)), ((q 16), .inl (cy 1, 2200, .inl g_tIns)), ((q 17), .inl (cy 1, 2200, .inl g_tOut)), ((q 18), .inl (cy 1, 2200, .inl g_tOuts)), ((q 19), .inl (cy 1, 2200, .inl g_tLock)), ((q 20), .inl (cy 1, 2600, .inl g_iAt)), ((q 21), .inl (cy 1, 2600, .inl g_iScript)), ((q 22), .inl (cy 1, 2600, .inl g_iLong)), ((q 23), .inl (cy 1, 2600, .inl g_iSequence)), ((q 25), .inl (cy 2, 11600, .inr (.inl g_oValue))), ((q 26), .inl (cy 1, 11600, .inl g_oScript)), ((q 27), .inl (cy 1, 11600, .inl g_oLong)), ((q 68), .inl (cy 0, 104448, .inl res.2.2.1)), ((q 69), .inl (cy 1, 408, .inl res.2.2.2))] t) A
def I_M_isSound_408 (p : Program) (l : Launch) (e : Env) (s : State) (m : MethodId) (args : Array Value) (below : List Frame) (meth : Method) (c : Code) (D : va_G) (cy : Nat → ClassId) (A : Nat → Prop) (ad : Nat → Nat) (o : Nat) (q : Nat → Nat) (g_store : Nat → Int32) (g_tIn : Nat → Int32) (g_tIns : Nat → Int32) (g_tOut : Nat → Int32) (g_tOuts : Nat → Int32) (g_tLock : Nat → Int32) (g_iAt : Nat → Int32) (g_iScript : Nat → Int32) (g_iLong : Nat → Int32) (g_iSequence : Nat → Int32) (g_oValue : Nat → Int64) (g_oScript : Nat → Int32) (g_oLong : Nat → Int32) (k : Int32 → Int32 → Int32 → Int32 → Int32 → Int32 → (Nat → Int32) → (Nat → Int32) → (Nat → Int32) → Option (Int32 × (Nat → Int32) × (Nat → Int32) × (Nat → Int32))) : Prop :=
  ∀ (x1 : Int32) (x2 : Int32) (x3 : Int32) (x4 : Int32) (x5 : Int32) (x6 : Int32) (u0 : Nat → Int32) (u1 : Nat → Int32) (u2 : Nat → Int32) (res : Int32 × (Nat → Int32) × (Nat → Int32) × (Nat → Int32)), k x1 x2 x3 x4 x5 x6 u0 u1 u2 = some res → ∀ (H : Heap) (locs : List Loc) (ls : Array Slot), va_P D classes [(o, .inr (12, mo q u0)), ((q 1), .inl (cy 0, 103000, .inl g_store)), ((q 15), .inl (cy 1, 2200, .inl g_tIn)), ((q 16), .inl (cy 1, 2200, .inl g_tIns)), ((q 17), .inl (cy 1, 2200, .inl g_tOut)), ((q 18), .inl (cy 1, 2200, .inl g_tOuts)), ((q 19), .inl (cy 1, 2200, .inl g_tLock)), ((q 20), .inl (cy 1, 2600, .inl g_iAt)), ((q 21), .inl (cy 1, 2600, .inl g_iScript)), ((q 22), .inl (cy 1, 2600, .inl g_iLong)), ((q 23), .inl (cy 1, 2600, .inl g_iSequence)), ((q 25), .inl (cy 2, 11600, .inr (.inl g_oValue))), ((q 26), .inl (cy 1, 11600, .inl g_oScript)), ((q 27), .inl (cy 1, 11600, .inl g_oLong)), ((q 68), .inl (cy 0, 104448, .inl u1)), ((q 69), .inl (cy 1, 408, .inl u2))] H → va_D A [(o, .inr (12, mo q u0)), ((q 1), .inl (cy 0, 103000, .inl g_store)), ((q 15), .inl (cy 1, 2200, .inl g_tIn)), ((q 16), .inl (cy 1, 2200, .inl g_tIns)), ((q 17), .inl (cy 1, 2200, .inl g_tOut)), ((q 18), .inl (cy 1, 2200, .inl g_tOuts)), ((q 19), .inl (cy 1, 2200, .inl g_tLock)), ((q 20), .inl (cy 1, 2600, .inl g_iAt)), ((q 21), .inl (cy 1, 2600, .inl g_iScript)), ((q 22), .inl (cy 1, 2600, .inl g_iLong)), ((q 23), .inl (cy 1, 2600, .inl g_iSequence)), ((q 25), .inl (cy 2, 11600, .inr (.inl g_oValue))), ((q 26), .inl (cy 1, 11600, .inl g_oScript)), ((q 27), .inl (cy 1, 11600, .inl g_oLong)), ((q 68), .inl (cy 0, 104448, .inl u1)), ((q 69), .inl (cy 1, 408, .inl u2))] → va_S A s.heap H locs → lv_has ls 12 [(0, .ref o), (1, .int x1), (2, .int x2), (3, .int x3), (4, .int x4), (5, .int x5), (6, .int x6)] → W p l e rm_M_isSound s m args below meth c H locs 0 0 (MQ below (q_M_isSound D cy A o q g_store g_tIn g_tIns g_tOut g_tOuts g_tLock g_iAt g_iScript g_iLong g_iSequence g_oValue g_oScript g_oLong res) args s 0 0 A) (F0 m 408 ls [])
def I_M_isSound_402 (p : Program) (l : Launch) (e : Env) (s : State) (m : MethodId) (args : Array Value) (below : List Frame) (meth : Method) (c : Code) (D : va_G) (cy : Nat → ClassId) (A : Nat → Prop) (ad : Nat → Nat) (o : Nat) (q : Nat → Nat) (g_store : Nat → Int32) (g_tIn : Nat → Int32) (g_tIns : Nat → Int32) (g_tOut : Nat → Int32) (g_tOuts : Nat → Int32) (g_tLock : Nat → Int32) (g_iAt : Nat → Int32) (g_iScript : Nat → Int32) (g_iLong : Nat → Int32) (g_iSequence : Nat → Int32) (g_oValue : Nat → Int64) (g_oScript : Nat → Int32) (g_oLong : Nat → Int32) (k : Int32 → Int32 → Int32 → Int32 → Int32 → Int32 → Int64 → Int64 → (Nat → Int32) → (Nat → Int32) → (Nat → Int32) → Option (Int32 × (Nat → Int32) × (Nat → Int32) × (Nat → Int32))) : Prop :=
  ∀ (x1 : Int32) (x2 : Int32) (x3 : Int32) (x4 : Int32) (x5 : Int32) (x6 : Int32) (y0 : Int64) (y1 : Int64) (u0 : Nat → Int32) (u1 : Nat → Int32) (u2 : Nat → Int32) (res : Int32 × (Nat → Int32) × (Nat → Int32) × (Nat → Int32)), k x1 x2 x3 x4 x5 x6 y0 y1 u0 u1 u2 = some res → ∀ (H : Heap) (locs : List Loc) (ls : Array Slot), va_P D classes [(o, .inr (12, mo q u0)), ((q 1), .inl (cy 0, 103000, .inl g_store)), ((q 15), .inl (cy 1, 2200, .inl g_tIn)), ((q 16), .inl (cy 1, 2200, .inl g_tIns)), ((q 17), .inl (cy 1, 2200, .inl g_tOut)), ((q 18), .inl (cy 1, 2200, .inl g_tOuts)), ((q 19), .inl (cy 1, 2200, .inl g_tLock)), ((q 20), .inl (cy 1, 2600, .inl g_iAt)), ((q 21), .inl (cy 1, 2600, .inl g_iScript)), ((q 22), .inl (cy 1, 2600, .inl g_iLong)), ((q 23), .inl (cy 1, 2600, .inl g_iSequence)), ((q 25), .inl (cy 2, 11600, .inr (.inl g_oValue))), ((q 26), .inl (cy 1, 11600, .inl g_oScript)), ((q 27), .inl (cy 1, 11600, .inl g_oLong)), ((q 68), .inl (cy 0, 104448, .inl u1)), ((q 69), .inl (cy 1, 408, .inl u2))] H → va_D A [(o, .inr (12, mo q u0)), ((q 1), .inl (cy 0, 103000, .inl g_store)), ((q 15), .inl (cy 1, 2200, .inl g_tIn)), ((q 16), .inl (cy 1, 2200, .inl g_tIns)), ((q 17), .inl (cy 1, 2200, .inl g_tOut)), ((q 18), .inl (cy 1, 2200, .inl g_tOuts)), ((q 19), .inl (cy 1, 2200, .inl g_tLock)), ((q 20), .inl (cy 1, 2600, .inl g_iAt)), ((q 21), .inl (cy 1, 2600, .inl g_iScript)), ((q 22), .inl (cy 1, 2600, .inl g_iLong)), ((q 23), .inl (cy 1, 2600, .inl g_iSequence)), ((q 25), .inl (cy 2, 11600, .inr (.inl g_oValue))), ((q 26), .inl (cy 1, 11600, .inl g_oScript)), ((q 27), .inl (cy 1, 11600, .inl g_oLong)), ((q 68), .inl (cy 0, 104448, .inl u1)), ((q 69), .inl (cy 1, 408, .inl u2))] → va_S A s.heap H locs → lv_has ls 12 [(0, .ref o), (1, .int x1), (2, .int x2), (3, .int x3), (4, .int x4), (5, .int x5), (6, .int x6)] → W p l e rm_M_isSound s m args below meth c H locs 0 0 (MQ below (q_M_isSound D cy A o q g_store g_tIn g_tIns g_tOut g_tOuts g_tLock g_iAt g_iScript g_iLong g_iSequence g_oValue g_oScript g_oLong res) args s 0 0 A) (F0 m 402 ls [.long y0, .long y1])
def I_M_isSound_353 (p : Program) (l : Launch) (e : Env) (s : State) (m : MethodId) (args : Array Value) (below : List Frame) (meth : Method) (c : Code) (D : va_G) (cy : Nat → ClassId) (A : Nat → Prop) (ad : Nat → Nat) (o : Nat) (q : Nat → Nat) (g_store : Nat → Int32) (g_tIn : Nat → Int32) (g_tIns : Nat → Int32) (g_tOut : Nat → Int32) (g_tOuts : Nat → Int32) (g_tLock : Nat → Int32) (g_iAt : Nat → Int32) (g_iScript : Nat → Int32) (g_iLong : Nat → Int32) (g_iSequence : Nat → Int32) (g_oValue : Nat → Int64) (g_oScript : Nat → Int32) (g_oLong : Nat → Int32) (k : Int32 → Int32 → Int32 → Int32 → Int32 → Int32 → Int32 → (Nat → Int32) → (Nat → Int32) → (Nat → Int32) → Option (Int32 × (Nat → Int32) × (Nat → Int32) × (Nat → Int32))) : Prop :=
  ∀ (x1 : Int32) (x2 : Int32) (x3 : Int32) (x4 : Int32) (x5 : Int32) (x6 : Int32) (x9 : Int32) (u0 : Nat → Int32) (u1 : Nat → Int32) (u2 : Nat → Int32) (res : Int32 × (Nat → Int32) × (Nat → Int32) × (Nat → Int32)), k x1 x2 x3 x4 x5 x6 x9 u0 u1 u2 = some res → ∀ (H : Heap) (locs : List Loc) (ls : Array Slot), va_P D classes [(o, .inr (12, mo q u0)), ((q 1), .inl (cy 0, 103000, .inl g_store)), ((q 15), .inl (cy 1, 2200, .inl g_tIn)), ((q 16), .inl (cy 1, 2200, .inl g_tIns)), ((q 17), .inl (cy 1, 2200, .inl g_tOut)), ((q 18), .inl (cy 1, 2200, .inl g_tOuts)), ((q 19), .inl (cy 1, 2200, .inl g_tLock)), ((q 20), .inl (cy 1, 2600, .inl g_iAt)), ((q 21), .inl (cy 1, 2600, .inl g_iScript)), ((q 22), .inl (cy 1, 2600, .inl g_iLong)), ((q 23), .inl (cy 1, 2600, .inl g_iSequence)), ((q 25), .inl (cy 2, 11600, .inr (.inl g_oValue))), ((q 26), .inl (cy 1, 11600, .inl g_oScript)), ((q 27), .inl (cy 1, 11600, .inl g_oLong)), ((q 68), .inl (cy 0, 104448, .inl u1)), ((q 69), .inl (cy 1, 408, .inl u2))] H → va_D A [(o, .inr (12, mo q u0)), ((q 1), .inl (cy 0, 103000, .inl g_store)), ((q 15), .inl (cy 1, 2200, .inl g_tIn)), ((q 16), .inl (cy 1, 2200, .inl g_tIns)), ((q 17), .inl (cy 1, 2200, .inl g_tOut)), ((q 18), .inl (cy 1, 2200, .inl g_tOuts)), ((q 19), .inl (cy 1, 2200, .inl g_tLock)), ((q 20), .inl (cy 1, 2600, .inl g_iAt)), ((q 21), .inl (cy 1, 2600, .inl g_iScript)), ((q 22), .inl (cy 1, 2600, .inl g_iLong)), ((q 23), .inl (cy 1, 2600, .inl g_iSequence)), ((q 25), .inl (cy 2, 11600, .inr (.inl g_oValue))), ((q 26), .inl (cy 1, 11600, .inl g_oScript)), ((q 27), .inl (cy 1, 11600, .inl g_oLong)), ((q 68), .inl (cy 0, 104448, .inl u1)), ((q 69), .inl (cy 1, 408, .inl u2))] → va_S A s.heap H locs → lv_has ls 12 [(0, .ref o), (1, .int x1), (2, .int x2), (3, .int x3), (4, .int x4), (5, .int x5), (6, .int x6), (9, .int x9)] → W p l e rm_M_isSound s m args below meth c H locs 0 0 (MQ below (q_M_isSound D cy A o q g_store g_tIn g_tIns g_tOut g_tOuts g_tLock g_iAt g_iScript g_iLong g_iSequence g_oValue g_oScript g_oLong res) args s 0 0 A) (F0 m 353 ls [])
def I_M_isSound_310 (p : Program) (l : Launch) (e : Env) (s : State) (m : MethodId) (args : Array Value) (below : List Frame) (meth : Method) (c : Code) (D : va_G) (cy : Nat → ClassId) (A : Nat → Prop) (ad : Nat → Nat) (o : Nat) (q : Nat → Nat) (g_store : Nat → Int32) (g_tIn : Nat → Int32) (g_tIns : Nat → Int32) (g_tOut : Nat → Int32) (g_tOuts : Nat → Int32) (g_tLock : Nat → Int32) (g_iAt : Nat → Int32) (g_iScript : Nat → Int32) (g_iLong : Nat → Int32) (g_iSequence : Nat → Int32) (g_oValue : Nat → Int64) (g_oScript : Nat → Int32) (g_oLong : Nat → Int32) (k : Int32 → Int32 → Int32 → Int32 → Int32 → Int32 → Int32 → Int32 → Int32 → (Nat → Int32) → (Nat → Int32) → (Nat → Int32) → Option (Int32 × (Nat → Int32) × (Nat → Int32) × (Nat → Int32))) : Prop :=
  ∀ (x1 : Int32) (x2 : Int32) (x3 : Int32) (x4 : Int32) (x5 : Int32) (x6 : Int32) (x10 : Int32) (y0 : Int32) (y1 : Int32) (u0 : Nat → Int32) (u1 : Nat → Int32) (u2 : Nat → Int32) (res : Int32 × (Nat → Int32) × (Nat → Int32) × (Nat → Int32)), k x1 x2 x3 x4 x5 x6 x10 y0 y1 u0 u1 u2 = some res → ∀ (H : Heap) (locs : List Loc) (ls : Array Slot), va_P D classes [(o, .inr (12, mo q u0)), ((q 1), .inl (cy 0, 103000, .inl g_store)), ((q 15), .inl (cy 1, 2200, .inl g_tIn)), ((q 16), .inl (cy 1, 2200, .inl g_tIns)), ((q 17), .inl (cy 1, 2200, .inl g_tOut)), ((q 18), .inl (cy 1, 2200, .inl g_tOuts)), ((q 19), .inl (cy 1, 2200, .inl g_tLock)), ((q 20), .inl (cy 1, 2600, .inl g_iAt)), ((q 21), .inl (cy 1, 2600, .inl g_iScript)), ((q 22), .inl (cy 1, 2600, .inl g_iLong)), ((q 23), .inl (cy 1, 2600, .inl g_iSequence)), ((q 25), .inl (cy 2, 11600, .inr (.inl g_oValue))), ((q 26), .inl (cy 1, 11600, .inl g_oScript)), ((q 27), .inl (cy 1, 11600, .inl g_oLong)), ((q 68), .inl (cy 0, 104448, .inl u1)), ((q 69), .inl (cy 1, 408, .inl u2))] H → va_D A [(o, .inr (12, mo q u0)), ((q 1), .inl (cy 0, 103000, .inl g_store)), ((q 15), .inl (cy 1, 2200, .inl g_tIn)), ((q 16), .inl (cy 1, 2200, .inl g_tIns)), ((q 17), .inl (cy 1, 2200, .inl g_tOut)), ((q 18), .inl (cy 1, 2200, .inl g_tOuts)), ((q 19), .inl (cy 1, 2200, .inl g_tLock)), ((q 20), .inl (cy 1, 2600, .inl g_iAt)), ((q 21), .inl (cy 1, 2600, .inl g_iScript)), ((q 22), .inl (cy 1, 2600, .inl g_iLong)), ((q 23), .inl (cy 1, 2600, .inl g_iSequence)), ((q 25), .inl (cy 2, 11600, .inr (.inl g_oValue))), ((q 26), .inl (cy 1, 11600, .inl g_oScript)), ((q 27), .inl (cy 1, 11600, .inl g_oLong)), ((q 68), .inl (cy 0, 104448, .inl u1)), ((q 69), .inl (cy 1, 408, .inl u2))] → va_S A s.heap H locs → lv_has ls 12 [(0, .ref o), (1, .int x1), (2, .int x2), (3, .int x3), (4, .int x4), (5, .int x5), (6, .int x6), (10, .int x10)] → W p l e rm_M_isSound s m args below meth c H locs 0 0 (MQ below (q_M_isSound D cy A o q g_store g_tIn g_tIns g_tOut g_tOuts g_tLock g_iAt g_iScript g_iLong g_iSequence g_oValue g_oScript g_oLong res) args s 0 0 A) (F0 m 310 ls [.int y0, .int y1])
def I_M_isSound_264 (p : Program) (l : Launch) (e : Env) (s : State) (m : MethodId) (args : Array Value) (below : List Frame) (meth : Method) (c : Code) (D : va_G) (cy : Nat → ClassId) (A : Nat → Prop) (ad : Nat → Nat) (o : Nat) (q : Nat → Nat) (g_store : Nat → Int32) (g_tIn : Nat → Int32) (g_tIns : Nat → Int32) (g_tOut : Nat → Int32) (g_tOuts : Nat → Int32) (g_tLock : Nat → Int32) (g_iAt : Nat → Int32) (g_iScript : Nat → Int32) (g_iLong : Nat → Int32) (g_iSequence : Nat → Int32) (g_oValue : Nat → Int64) (g_oScript : Nat → Int32) (g_oLong : Nat → Int32) (k : Int32 → Int32 → Int32 → Int32 → Int32 → Int32 → Int32 → Int32 → Int32 → Int32 → (Nat → Int32) → (Nat → Int32) → (Nat → Int32) → Option (Int32 × (Nat → Int32) × (Nat → Int32) × (Nat → Int32))) : Prop :=
  ∀ (x1 : Int32) (x2 : Int32) (x3 : Int32) (x4 : Int32) (x5 : Int32) (x6 : Int32) (x9 : Int32) (x10 : Int32) (y0 : Int32) (y1 : Int32) (u0 : Nat → Int32) (u1 : Nat → Int32) (u2 : Nat → Int32) (res : Int32 × (Nat → Int32) × (Nat → Int32) × (Nat → Int32)), k x1 x2 x3 x4 x5 x6 x9 x10 y0 y1 u0 u1 u2 = some res → ∀ (H : Heap) (locs : List Loc) (ls : Array Slot), va_P D classes [(o, .inr (12, mo q u0)), ((q 1), .inl (cy 0, 103000, .inl g_store)), ((q 15), .inl (cy 1, 2200, .inl g_tIn)), ((q 16), .inl (cy 1, 2200, .inl g_tIns)), ((q 17), .inl (cy 1, 2200, .inl g_tOut)), ((q 18), .inl (cy 1, 2200, .inl g_tOuts)), ((q 19), .inl (cy 1, 2200, .inl g_tLock)), ((q 20), .inl (cy 1, 2600, .inl g_iAt)), ((q 21), .inl (cy 1, 2600, .inl g_iScript)), ((q 22), .inl (cy 1, 2600, .inl g_iLong)), ((q 23), .inl (cy 1, 2600, .inl g_iSequence)), ((q 25), .inl (cy 2, 11600, .inr (.inl g_oValue))), ((q 26), .inl (cy 1, 11600, .inl g_oScript)), ((q 27), .inl (cy 1, 11600, .inl g_oLong)), ((q 68), .inl (cy 0, 104448, .inl u1)), ((q 69), .inl (cy 1, 408, .inl u2))] H → va_D A [(o, .inr (12, mo q u0)), ((q 1), .inl (cy 0, 103000, .inl g_store)), ((q 15), .inl (cy 1, 2200, .inl g_tIn)), ((q 16), .inl (cy 1, 2200, .inl g_tIns)), ((q 17), .inl (cy 1, 2200, .inl g_tOut)), ((q 18), .inl (cy 1, 2200, .inl g_tOuts)), ((q 19), .inl (cy 1, 2200, .inl g_tLock)), ((q 20), .inl (cy 1, 2600, .inl g_iAt)), ((q 21), .inl (cy 1, 2600, .inl g_iScript)), ((q 22), .inl (cy 1, 2600, .inl g_iLong)), ((q 23), .inl (cy 1, 2600, .inl g_iSequence)), ((q 25), .inl (cy 2, 11600, .inr (.inl g_oValue))), ((q 26), .inl (cy 1, 11600, .inl g_oScript)), ((q 27), .inl (cy 1, 11600, .inl g_oLong)), ((q 68), .inl (cy 0, 104448, .inl u1)), ((q 69), .inl (cy 1, 408, .inl u2))] → va_S A s.heap H locs → lv_has ls 12 [(0, .ref o), (1, .int x1), (2, .int x2), (3, .int x3), (4, .int x4), (5, .int x5), (6, .int x6), (9, .int x9), (10, .int x10)] → W p l e rm_M_isSound s m args below meth c H locs 0 0 (MQ below (q_M_isSound D cy A o q g_store g_tIn g_tIns g_tOut g_tOuts g_tLock g_iAt g_iScript g_iLong g_iSequence g_oValue g_oScript g_oLong res) args s 0 0 A) (F0 m 264 ls [.int y0, .int y1])
def I_M_isSound_208 (p : Program) (l : Launch) (e : Env) (s : State) (m : MethodId) (args : Array Value) (below : List Frame) (meth : Method) (c : Code) (D : va_G) (cy : Nat → ClassId) (A : Nat → Prop) (ad : Nat → Nat) (o : Nat) (q : Nat → Nat) (g_store : Nat → Int32) (g_tIn : Nat → Int32) (g_tIns : Nat → Int32) (g_tOut : Nat → Int32) (g_tOuts : Nat → Int32) (g_tLock : Nat → Int32) (g_iAt : Nat → Int32) (g_iScript : Nat → Int32) (g_iLong : Nat → Int32) (g_iSequence : Nat → Int32) (g_oValue : Nat → Int64) (g_oScript : Nat → Int32) (g_oLong : Nat → Int32) (k : Int32 → Int32 → Int32 → Int32 → Int32 → Int32 → Int32 → Int32 → Int32 → (Nat → Int32) → (Nat → Int32) → (Nat → Int32) → Option (Int32 × (Nat → Int32) × (Nat → Int32) × (Nat → Int32))) : Prop :=
  ∀ (x1 : Int32) (x2 : Int32) (x3 : Int32) (x4 : Int32) (x5 : Int32) (x6 : Int32) (x9 : Int32) (x10 : Int32) (x11 : Int32) (u0 : Nat → Int32) (u1 : Nat → Int32) (u2 : Nat → Int32) (res : Int32 × (Nat → Int32) × (Nat → Int32) × (Nat → Int32)), k x1 x2 x3 x4 x5 x6 x9 x10 x11 u0 u1 u2 = some res → ∀ (H : Heap) (locs : List Loc) (ls : Array Slot), va_P D classes [(o, .inr (12, mo q u0)), ((q 1), .inl (cy 0, 103000, .inl g_store)), ((q 15), .inl (cy 1, 2200, .inl g_tIn)), ((q 16), .inl (cy 1, 2200, .inl g_tIns)), ((q 17), .inl (cy 1, 2200, .inl g_tOut)), ((q 18), .inl (cy 1, 2200, .inl g_tOuts)), ((q 19), .inl (cy 1, 2200, .inl g_tLock)), ((q 20), .inl (cy 1, 2600, .inl g_iAt)), ((q 21), .inl (cy 1, 2600, .inl g_iScript)), ((q 22), .inl (cy 1, 2600, .inl g_iLong)), ((q 23), .inl (cy 1, 2600, .inl g_iSequence)), ((q 25), .inl (cy 2, 11600, .inr (.inl g_oValue))), ((q 26), .inl (cy 1, 11600, .inl g_oScript)), ((q 27), .inl (cy 1, 11600, .inl g_oLong)), ((q 68), .inl (cy 0, 104448, .inl u1)), ((q 69), .inl (cy 1, 408, .inl u2))] H → va_D A [(o, .inr (12, mo q u0)), ((q 1), .inl (cy 0, 103000, .inl g_store)), ((q 15), .inl (cy 1, 2200, .inl g_tIn)), ((q 16), .inl (cy 1, 2200, .inl g_tIns)), ((q 17), .inl (cy 1, 2200, .inl g_tOut)), ((q 18), .inl (cy 1, 2200, .inl g_tOuts)), ((q 19), .inl (cy 1, 2200, .inl g_tLock)), ((q 20), .inl (cy 1, 2600, .inl g_iAt)), ((q 21), .inl (cy 1, 2600, .inl g_iScript)), ((q 22), .inl (cy 1, 2600, .inl g_iLong)), ((q 23), .inl (cy 1, 2600, .inl g_iSequence)), ((q 25), .inl (cy 2, 11600, .inr (.inl g_oValue))), ((q 26), .inl (cy 1, 11600, .inl g_oScript)), ((q 27), .inl (cy 1, 11600, .inl g_oLong)), ((q 68), .inl (cy 0, 104448, .inl u1)), ((q 69), .inl (cy 1, 408, .inl u2))] → va_S A s.heap H locs → lv_has ls 12 [(0, .ref o), (1, .int x1), (2, .int x2), (3, .int x3), (4, .int x4), (5, .int x5), (6, .int x6), (9, .int x9), (10, .int x10), (11, .int x11)] → W p l e rm_M_isSound s m args below meth c H locs 0 0 (MQ below (q_M_isSound D cy A o q g_store g_tIn g_tIns g_tOut g_tOuts g_tLock g_iAt g_iScript g_iLong g_iSequence g_oValue g_oScript g_oLong res) args s 0 0 A) (F0 m 208 ls [])
def I_M_isSound_179 (p : Program) (l : Launch) (e : Env) (s : State) (m : MethodId) (args : Array Value) (below : List Frame) (meth : Method) (c : Code) (D : va_G) (cy : Nat → ClassId) (A : Nat → Prop) (ad : Nat → Nat) (o : Nat) (q : Nat → Nat) (g_store : Nat → Int32) (g_tIn : Nat → Int32) (g_tIns : Nat → Int32) (g_tOut : Nat → Int32) (g_tOuts : Nat → Int32) (g_tLock : Nat → Int32) (g_iAt : Nat → Int32) (g_iScript : Nat → Int32) (g_iLong : Nat → Int32) (g_iSequence : Nat → Int32) (g_oValue : Nat → Int64) (g_oScript : Nat → Int32) (g_oLong : Nat → Int32) (k : Int32 → Int32 → Int32 → Int32 → Int32 → Int32 → Int32 → Int32 → (Nat → Int32) → (Nat → Int32) → (Nat → Int32) → Option (Int32 × (Nat → Int32) × (Nat → Int32) × (Nat → Int32))) : Prop :=
  ∀ (x1 : Int32) (x2 : Int32) (x3 : Int32) (x4 : Int32) (x5 : Int32) (x6 : Int32) (x9 : Int32) (x10 : Int32) (u0 : Nat → Int32) (u1 : Nat → Int32) (u2 : Nat → Int32) (res : Int32 × (Nat → Int32) × (Nat → Int32) × (Nat → Int32)), k x1 x2 x3 x4 x5 x6 x9 x10 u0 u1 u2 = some res → ∀ (H : Heap) (locs : List Loc) (ls : Array Slot), va_P D classes [(o, .inr (12, mo q u0)), ((q 1), .inl (cy 0, 103000, .inl g_store)), ((q 15), .inl (cy 1, 2200, .inl g_tIn)), ((q 16), .inl (cy 1, 2200, .inl g_tIns)), ((q 17), .inl (cy 1, 2200, .inl g_tOut)), ((q 18), .inl (cy 1, 2200, .inl g_tOuts)), ((q 19), .inl (cy 1, 2200, .inl g_tLock)), ((q 20), .inl (cy 1, 2600, .inl g_iAt)), ((q 21), .inl (cy 1, 2600, .inl g_iScript)), ((q 22), .inl (cy 1, 2600, .inl g_iLong)), ((q 23), .inl (cy 1, 2600, .inl g_iSequence)), ((q 25), .inl (cy 2, 11600, .inr (.inl g_oValue))), ((q 26), .inl (cy 1, 11600, .inl g_oScript)), ((q 27), .inl (cy 1, 11600, .inl g_oLong)), ((q 68), .inl (cy 0, 104448, .inl u1)), ((q 69), .inl (cy 1, 408, .inl u2))] H → va_D A [(o, .inr (12, mo q u0)), ((q 1), .inl (cy 0, 103000, .inl g_store)), ((q 15), .inl (cy 1, 2200, .inl g_tIn)), ((q 16), .inl (cy 1, 2200, .inl g_tIns)), ((q 17), .inl (cy 1, 2200, .inl g_tOut)), ((q 18), .inl (cy 1, 2200, .inl g_tOuts)), ((q 19), .inl (cy 1, 2200, .inl g_tLock)), ((q 20), .inl (cy 1, 2600, .inl g_iAt)), ((q 21), .inl (cy 1, 2600, .inl g_iScript)), ((q 22), .inl (cy 1, 2600, .inl g_iLong)), ((q 23), .inl (cy 1, 2600, .inl g_iSequence)), ((q 25), .inl (cy 2, 11600, .inr (.inl g_oValue))), ((q 26), .inl (cy 1, 11600, .inl g_oScript)), ((q 27), .inl (cy 1, 11600, .inl g_oLong)), ((q 68), .inl (cy 0, 104448, .inl u1)), ((q 69), .inl (cy 1, 408, .inl u2))] → va_S A s.heap H locs → lv_has ls 12 [(0, .ref o), (1, .int x1), (2, .int x2), (3, .int x3), (4, .int x4), (5, .int x5), (6, .int x6), (9, .int x9), (10, .int x10)] → W p l e rm_M_isSound s m args below meth c H locs 0 0 (MQ below (q_M_isSound D cy A o q g_store g_tIn g_tIns g_tOut g_tOuts g_tLock g_iAt g_iScript g_iLong g_iSequence g_oValue g_oScript g_oLong res) args s 0 0 A) (F0 m 179 ls [])
def I_M_isSound_57 (p : Program) (l : Launch) (e : Env) (s : State) (m : MethodId) (args : Array Value) (below : List Frame) (meth : Method) (c : Code) (D : va_G) (cy : Nat → ClassId) (A : Nat → Prop) (ad : Nat → Nat) (o : Nat) (q : Nat → Nat) (g_store : Nat → Int32) (g_tIn : Nat → Int32) (g_tIns : Nat → Int32) (g_tOut : Nat → Int32) (g_tOuts : Nat → Int32) (g_tLock : Nat → Int32) (g_iAt : Nat → Int32) (g_iScript : Nat → Int32) (g_iLong : Nat → Int32) (g_iSequence : Nat → Int32) (g_oValue : Nat → Int64) (g_oScript : Nat → Int32) (g_oLong : Nat → Int32) (k : Int32 → Int32 → Int32 → Int32 → Int32 → Int32 → Int64 → Int32 → Int32 → (Nat → Int32) → (Nat → Int32) → (Nat → Int32) → Option (Int32 × (Nat → Int32) × (Nat → Int32) × (Nat → Int32))) : Prop :=
  ∀ (x1 : Int32) (x2 : Int32) (x3 : Int32) (x4 : Int32) (x5 : Int32) (x6 : Int32) (x7 : Int64) (x9 : Int32) (x10 : Int32) (u0 : Nat → Int32) (u1 : Nat → Int32) (u2 : Nat → Int32) (res : Int32 × (Nat → Int32) × (Nat → Int32) × (Nat → Int32)), k x1 x2 x3 x4 x5 x6 x7 x9 x10 u0 u1 u2 = some res → ∀ (H : Heap) (locs : List Loc) (ls : Array Slot), va_P D classes [(o, .inr (12, mo q u0)), ((q 1), .inl (cy 0, 103000, .inl g_store)), ((q 15), .inl (cy 1, 2200, .inl g_tIn)), ((q 16), .inl (cy 1, 2200, .inl g_tIns)), ((q 17), .inl (cy 1, 2200, .inl g_tOut)), ((q 18), .inl (cy 1, 2200, .inl g_tOuts)), ((q 19), .inl (cy 1, 2200, .inl g_tLock)), ((q 20), .inl (cy 1, 2600, .inl g_iAt)), ((q 21), .inl (cy 1, 2600, .inl g_iScript)), ((q 22), .inl (cy 1, 2600, .inl g_iLong)), ((q 23), .inl (cy 1, 2600, .inl g_iSequence)), ((q 25), .inl (cy 2, 11600, .inr (.inl g_oValue))), ((q 26), .inl (cy 1, 11600, .inl g_oScript)), ((q 27), .inl (cy 1, 11600, .inl g_oLong)), ((q 68), .inl (cy 0, 104448, .inl u1)), ((q 69), .inl (cy 1, 408, .inl u2))] H → va_D A [(o, .inr (12, mo q u0)), ((q 1), .inl (cy 0, 103000, .inl g_store)), ((q 15), .inl (cy 1, 2200, .inl g_tIn)), ((q 16), .inl (cy 1, 2200, .inl g_tIns)), ((q 17), .inl (cy 1, 2200, .inl g_tOut)), ((q 18), .inl (cy 1, 2200, .inl g_tOuts)), ((q 19), .inl (cy 1, 2200, .inl g_tLock)), ((q 20), .inl (cy 1, 2600, .inl g_iAt)), ((q 21), .inl (cy 1, 2600, .inl g_iScript)), ((q 22), .inl (cy 1, 2600, .inl g_iLong)), ((q 23), .inl (cy 1, 2600, .inl g_iSequence)), ((q 25), .inl (cy 2, 11600, .inr (.inl g_oValue))), ((q 26), .inl (cy 1, 11600, .inl g_oScript)), ((q 27), .inl (cy 1, 11600, .inl g_oLong)), ((q 68), .inl (cy 0, 104448, .inl u1)), ((q 69), .inl (cy 1, 408, .inl u2))] → va_S A s.heap H locs → lv_has ls 12 [(0, .ref o), (1, .int x1), (2, .int x2), (3, .int x3), (4, .int x4), (5, .int x5), (6, .int x6), (7, .long x7), (9, .int x9), (10, .int x10)] → W p l e rm_M_isSound s m args below meth c H locs 0 0 (MQ below (q_M_isSound D cy A o q g_store g_tIn g_tIns g_tOut g_tOuts g_tLock g_iAt g_iScript g_iLong g_iSequence g_oValue g_oScript g_oLong res) args s 0 0 A) (F0 m 57 ls [])
def I_M_isSound_12 (p : Program) (l : Launch) (e : Env) (s : State) (m : MethodId) (args : Array Value) (below : List Frame) (meth : Method) (c : Code) (D : va_G) (cy : Nat → ClassId) (A : Nat → Prop) (ad : Nat → Nat) (o : Nat) (q : Nat → Nat) (g_store : Nat → Int32) (g_tIn : Nat → Int32) (g_tIns : Nat → Int32) (g_tOut : Nat → Int32) (g_tOuts : Nat → Int32) (g_tLock : Nat → Int32) (g_iAt : Nat → Int32) (g_iScript : Nat → Int32) (g_iLong : Nat → Int32) (g_iSequence : Nat → Int32) (g_oValue : Nat → Int64) (g_oScript : Nat → Int32) (g_oLong : Nat → Int32) (k : Int32 → Int32 → Int32 → Int32 → Int32 → Int32 → (Nat → Int32) → (Nat → Int32) → (Nat → Int32) → Option (Int32 × (Nat → Int32) × (Nat → Int32) × (Nat → Int32))) : Prop :=
  ∀ (x1 : Int32) (x2 : Int32) (x3 : Int32) (x4 : Int32) (x5 : Int32) (x6 : Int32) (u0 : Nat → Int32) (u1 : Nat → Int32) (u2 : Nat → Int32) (res : Int32 × (Nat → Int32) × (Nat → Int32) × (Nat → Int32)), k x1 x2 x3 x4 x5 x6 u0 u1 u2 = some res → ∀ (H : Heap) (locs : List Loc) (ls : Array Slot), va_P D classes [(o, .inr (12, mo q u0)), ((q 1), .inl (cy 0, 103000, .inl g_store)), ((q 15), .inl (cy 1, 2200, .inl g_tIn)), ((q 16), .inl (cy 1, 2200, .inl g_tIns)), ((q 17), .inl (cy 1, 2200, .inl g_tOut)), ((q 18), .inl (cy 1, 2200, .inl g_tOuts)), ((q 19), .inl (cy 1, 2200, .inl g_tLock)), ((q 20), .inl (cy 1, 2600, .inl g_iAt)), ((q 21), .inl (cy 1, 2600, .inl g_iScript)), ((q 22), .inl (cy 1, 2600, .inl g_iLong)), ((q 23), .inl (cy 1, 2600, .inl g_iSequence)), ((q 25), .inl (cy 2, 11600, .inr (.inl g_oValue))), ((q 26), .inl (cy 1, 11600, .inl g_oScript)), ((q 27), .inl (cy 1, 11600, .inl g_oLong)), ((q 68), .inl (cy 0, 104448, .inl u1)), ((q 69), .inl (cy 1, 408, .inl u2))] H → va_D A [(o, .inr (12, mo q u0)), ((q 1), .inl (cy 0, 103000, .inl g_store)), ((q 15), .inl (cy 1, 2200, .inl g_tIn)), ((q 16), .inl (cy 1, 2200, .inl g_tIns)), ((q 17), .inl (cy 1, 2200, .inl g_tOut)), ((q 18), .inl (cy 1, 2200, .inl g_tOuts)), ((q 19), .inl (cy 1, 2200, .inl g_tLock)), ((q 20), .inl (cy 1, 2600, .inl g_iAt)), ((q 21), .inl (cy 1, 2600, .inl g_iScript)), ((q 22), .inl (cy 1, 2600, .inl g_iLong)), ((q 23), .inl (cy 1, 2600, .inl g_iSequence)), ((q 25), .inl (cy 2, 11600, .inr (.inl g_oValue))), ((q 26), .inl (cy 1, 11600, .inl g_oScript)), ((q 27), .inl (cy 1, 11600, .inl g_oLong)), ((q 68), .inl (cy 0, 104448, .inl u1)), ((q 69), .inl (cy 1, 408, .inl u2))] → va_S A s.heap H locs → lv_has ls 12 [(0, .ref o), (1, .int x1), (2, .int x2), (3, .int x3), (4, .int x4), (5, .int x5), (6, .int x6)] → W p l e rm_M_isSound s m args below meth c H locs 0 0 (MQ below (q_M_isSound D cy A o q g_store g_tIn g_tIns g_tOut g_tOuts g_tLock g_iAt g_iScript g_iLong g_iSequence g_oValue g_oScript g_oLong res) args s 0 0 A) (F0 m 12 ls [])
def I_M_isSound_e (p : Program) (l : Launch) (e : Env) (s : State) (m : MethodId) (args : Array Value) (below : List Frame) (meth : Method) (c : Code) (D : va_G) (cy : Nat → ClassId) (A : Nat → Prop) (ad : Nat → Nat) (o : Nat) (q : Nat → Nat) (g_store : Nat → Int32) (g_tIn : Nat → Int32) (g_tIns : Nat → Int32) (g_tOut : Nat → Int32) (g_tOuts : Nat → Int32) (g_tLock : Nat → Int32) (g_iAt : Nat → Int32) (g_iScript : Nat → Int32) (g_iLong : Nat → Int32) (g_iSequence : Nat → Int32) (g_oValue : Nat → Int64) (g_oScript : Nat → Int32) (g_oLong : Nat → Int32) (k : Int32 → Int32 → Int32 → Int32 → (Nat → Int32) → (Nat → Int32) → (Nat → Int32) → Option (Int32 × (Nat → Int32) × (Nat → Int32) × (Nat → Int32))) : Prop :=
  ∀ (a1 : Int32) (a2 : Int32) (a3 : Int32) (a4 : Int32) (u0 : Nat → Int32) (u1 : Nat → Int32) (u2 : Nat → Int32) (res : Int32 × (Nat → Int32) × (Nat → Int32) × (Nat → Int32)), k a1 a2 a3 a4 u0 u1 u2 = some res → ∀ (H : Heap) (locs : List Loc) (ls : Array Slot), va_P D classes [(o, .inr (12, mo q u0)), ((q 1), .inl (cy 0, 103000, .inl g_store)), ((q 15), .inl (cy 1, 2200, .inl g_tIn)), ((q 16), .inl (cy 1, 2200, .inl g_tIns)), ((q 17), .inl (cy 1, 2200, .inl g_tOut)), ((q 18), .inl (cy 1, 2200, .inl g_tOuts)), ((q 19), .inl (cy 1, 2200, .inl g_tLock)), ((q 20), .inl (cy 1, 2600, .inl g_iAt)), ((q 21), .inl (cy 1, 2600, .inl g_iScript)), ((q 22), .inl (cy 1, 2600, .inl g_iLong)), ((q 23), .inl (cy 1, 2600, .inl g_iSequence)), ((q 25), .inl (cy 2, 11600, .inr (.inl g_oValue))), ((q 26), .inl (cy 1, 11600, .inl g_oScript)), ((q 27), .inl (cy 1, 11600, .inl g_oLong)), ((q 68), .inl (cy 0, 104448, .inl u1)), ((q 69), .inl (cy 1, 408, .inl u2))] H → va_D A [(o, .inr (12, mo q u0)), ((q 1), .inl (cy 0, 103000, .inl g_store)), ((q 15), .inl (cy 1, 2200, .inl g_tIn)), ((q 16), .inl (cy 1, 2200, .inl g_tIns)), ((q 17), .inl (cy 1, 2200, .inl g_tOut)), ((q 18), .inl (cy 1, 2200, .inl g_tOuts)), ((q 19), .inl (cy 1, 2200, .inl g_tLock)), ((q 20), .inl (cy 1, 2600, .inl g_iAt)), ((q 21), .inl (cy 1, 2600, .inl g_iScript)), ((q 22), .inl (cy 1, 2600, .inl g_iLong)), ((q 23), .inl (cy 1, 2600, .inl g_iSequence)), ((q 25), .inl (cy 2, 11600, .inr (.inl g_oValue))), ((q 26), .inl (cy 1, 11600, .inl g_oScript)), ((q 27), .inl (cy 1, 11600, .inl g_oLong)), ((q 68), .inl (cy 0, 104448, .inl u1)), ((q 69), .inl (cy 1, 408, .inl u2))] → va_S A s.heap H locs → lv_has ls 12 [(0, .ref o), (1, .int a1), (2, .int a2), (3, .int a3), (4, .int a4)] → W p l e rm_M_isSound s m args below meth c H locs 0 0 (MQ below (q_M_isSound D cy A o q g_store g_tIn g_tIns g_tOut g_tOuts g_tLock g_iAt g_iScript g_iLong g_iSequence g_oValue g_oScript g_oLong res) args s 0 0 A) (F0 m 0 ls [])
set_option maxHeartbeats 8000000 in
set_option maxRecDepth 100000 in
theorem wb_M_isSound_408 {p : Program} {l : Launch} {e : Env} {s : State} {m : MethodId} {args : Array Value} {below : List Frame} {meth : Method} {c : Code} {D : va_G} {cy : Nat → ClassId} {A : Nat → Prop} {ad : Nat → Nat} {o : Nat} {q : Nat → Nat} {g_store : Nat → Int32} {g_tIn : Nat → Int32} {g_tIns : Nat → Int32} {g_tOut : Nat → Int32} {g_tOuts : Nat → Int32} {g_tLock : Nat → Int32} {g_iAt : Nat → Int32} {g_iScript : Nat → Int32} {g_iLong : Nat → Int32} {g_iSequence : Nat → Int32} {g_oValue : Nat → Int64} {g_oScript : Nat → Int32} {g_oLong : Nat → Int32} {fu : Nat} {k_12 : Int32 → Int32 → Int32 → Int32 → Int32 → Int32 → (Nat → Int32) → (Nat → Int32) → (Nat → Int32) → Option (Int32 × (Nat → Int32) × (Nat → Int32) × (Nat → Int32))} (F : Fx p s m args meth c b_M_isSound 12 "CoinKeeperModel" "isSound" (some .boolean) D cy ad A) (hk_12 : I_M_isSound_12 p l e s m args below meth c D cy A ad o q g_store g_tIn g_tIns g_tOut g_tOuts g_tLock g_iAt g_iScript g_iLong g_iSequence g_oValue g_oScript g_oLong k_12) : I_M_isSound_408 p l e s m args below meth c D cy A ad o q g_store g_tIn g_tIns g_tOut g_tOuts g_tLock g_iAt g_iScript g_iLong g_iSequence g_oValue g_oScript g_oLong (xb_M_isSound_408 fu g_store g_tIn g_tIns g_tOut g_tOuts g_tLock g_iAt g_iScript g_iLong g_iSequence g_oValue g_oScript g_oLong k_12) := by
  obtain ⟨hx, hb, hr, hml, hown, hts, hlocks, hK, hA, hSt, hnm, hex⟩ := id F
  intro x1 x2 x3 x4 x5 x6 u0 u1 u2 res hf H locs ls hP hD hS hl
  unfold xb_M_isSound_408 at hf
  obtain ⟨v1, ev, hf⟩ := bne hf
  refine lv_iinc (v := v1) (lv' := [(6, .int v1), (0, .ref o), (1, .int x1), (2, .int x2), (3, .int x3), (4, .int x4), (5, .int x5)]) hx hb d_M_isSound_408 hl (k := 6) rfl (by rw [ev]; rfl) (by decide) rfl (fun ls hl => ?_)
  clear ev
  refine lv_goto (tgt := 12) hx hb d_M_isSound_411 (by decide) ?_
  exact hk_12 _ _ _ _ _ _ _ _ _ _ hf _ _ _ hP hD hS (lv_sub hl [1, 2, 3, 4, 5, 6, 0] rfl)
set_option maxHeartbeats 8000000 in
set_option maxRecDepth 100000 in
theorem wb_M_isSound_402 {p : Program} {l : Launch} {e : Env} {s : State} {m : MethodId} {args : Array Value} {below : List Frame} {meth : Method} {c : Code} {D : va_G} {cy : Nat → ClassId} {A : Nat → Prop} {ad : Nat → Nat} {o : Nat} {q : Nat → Nat} {g_store : Nat → Int32} {g_tIn : Nat → Int32} {g_tIns : Nat → Int32} {g_tOut : Nat → Int32} {g_tOuts : Nat → Int32} {g_tLock : Nat → Int32} {g_iAt : Nat → Int32} {g_iScript : Nat → Int32} {g_iLong : Nat → Int32} {g_iSequence : Nat → Int32} {g_oValue : Nat → Int64} {g_oScript : Nat → Int32} {g_oLong : Nat → Int32} {fu : Nat} {k_12 : Int32 → Int32 → Int32 → Int32 → Int32 → Int32 → (Nat → Int32) → (Nat → Int32) → (Nat → Int32) → Option (Int32 × (Nat → Int32) × (Nat → Int32) × (Nat → Int32))} (F : Fx p s m args meth c b_M_isSound 12 "CoinKeeperModel" "isSound" (some .boolean) D cy ad A) (hk_12 : I_M_isSound_12 p l e s m args below meth c D cy A ad o q g_store g_tIn g_tIns g_tOut g_tOuts g_tLock g_iAt g_iScript g_iLong g_iSequence g_oValue g_oScript g_oLong k_12) : I_M_isSound_402 p l e s m args below meth c D cy A ad o q g_store g_tIn g_tIns g_tOut g_tOuts g_tLock g_iAt g_iScript g_iLong g_iSequence g_oValue g_oScript g_oLong (xb_M_isSound_402 fu g_store g_tIn g_tIns g_tOut g_tOuts g_tLock g_iAt g_iScript g_iLong g_iSequence g_oValue g_oScript g_oLong k_12) := by
  obtain ⟨hx, hb, hr, hml, hown, hts, hlocks, hK, hA, hSt, hnm, hex⟩ := id F
  intro x1 x2 x3 x4 x5 x6 y0 y1 u0 u1 u2 res hf H locs ls hP hD hS hl
  unfold xb_M_isSound_402 at hf
  refine W.lcmp hx hb d_M_isSound_402 ?_
  refine lv_if_lt (tgt := 408) hx hb d_M_isSound_403 (by decide) (fun cx => ?_) (fun cx => ?_)
  · have hf := ifp cx hf
    exact wb_M_isSound_408 (fu := fu) F hk_12 _ _ _ _ _ _ _ _ _ _ hf _ _ _ hP hD hS (lv_sub hl [0, 1, 2, 3, 4, 5, 6] rfl)
  · have hf := ifn cx hf
    refine lv_iconst (v := 0) hx hb d_M_isSound_406 (by decide) ?_
    obtain rfl := Option.some.inj hf
    exact q_rz hx hb hr hlocks hK hP hD hS (isb_n (v := 0) (by decide)) d_M_isSound_407
set_option maxHeartbeats 8000000 in
set_option maxRecDepth 100000 in
theorem wb_M_isSound_353 {p : Program} {l : Launch} {e : Env} {s : State} {m : MethodId} {args : Array Value} {below : List Frame} {meth : Method} {c : Code} {D : va_G} {cy : Nat → ClassId} {A : Nat → Prop} {ad : Nat → Nat} {o : Nat} {q : Nat → Nat} {g_store : Nat → Int32} {g_tIn : Nat → Int32} {g_tIns : Nat → Int32} {g_tOut : Nat → Int32} {g_tOuts : Nat → Int32} {g_tLock : Nat → Int32} {g_iAt : Nat → Int32} {g_iScript : Nat → Int32} {g_iLong : Nat → Int32} {g_iSequence : Nat → Int32} {g_oValue : Nat → Int64} {g_oScript : Nat → Int32} {g_oLong : Nat → Int32} {fu : Nat} {k_12 : Int32 → Int32 → Int32 → Int32 → Int32 → Int32 → (Nat → Int32) → (Nat → Int32) → (Nat → Int32) → Option (Int32 × (Nat → Int32) × (Nat → Int32) × (Nat → Int32))} (F : Fx p s m args meth c b_M_isSound 12 "CoinKeeperModel" "isSound" (some .boolean) D cy ad A) (hk_12 : I_M_isSound_12 p l e s m args below meth c D cy A ad o q g_store g_tIn g_tIns g_tOut g_tOuts g_tLock g_iAt g_iScript g_iLong g_iSequence g_oValue g_oScript g_oLong k_12) : I_M_isSound_353 p l e s m args below meth c D cy A ad o q g_store g_tIn g_tIns g_tOut g_tOuts g_tLock g_iAt g_iScript g_iLong g_iSequence g_oValue g_oScript g_oLong (xb_M_isSound_353 fu g_store g_tIn g_tIns g_tOut g_tOuts g_tLock g_iAt g_iScript g_iLong g_iSequence g_oValue g_oScript g_oLong k_12) := by
  obtain ⟨hx, hb, hr, hml, hown, hts, hlocks, hK, hA, hSt, hnm, hex⟩ := id F
  intro x1 x2 x3 x4 x5 x6 x9 u0 u1 u2 res hf H locs ls hP hD hS hl
  unfold xb_M_isSound_353 at hf
  refine lv_aload_n hx hb d_M_isSound_353 rfl (lv_at hl 0 rfl) ?_
  refine va_get (D := D) (ci := 12) (v := .ref (q 19)) (C := "CoinKeeperModel") (T := F_12) (N := 98) hx hb hts i_12 hown hK hP 0 rfl rfl 24 (by decide) (hts _ gw_1443) (fun _ h9 => h9) rfl d_M_isSound_354 ?_
  refine lv_iload hx hb d_M_isSound_357 (lv_at hl 6 rfl) ?_
  obtain ⟨hg, hf⟩ := gdp hf
  refine va_iald hx hb hK hP 6 1 rfl rfl (inb_in hg) d_M_isSound_359 ?_
  refine lv_topi (fun v1 ev => ?_)
  have hf := bn ev hf
  clear ev
  refine lv_i2l hx hb d_M_isSound_360 rfl ?_
  refine lv_topl (fun v2 ev => ?_)
  have hf := bn ev hf
  clear ev
  refine lv_ldc2 (v := 4294967295) hx hb hown (hts _ gw_1390) d_M_isSound_361 ?_
  refine lv_land hx hb d_M_isSound_364 ?_
  refine lv_topl (fun v3 ev => ?_)
  have hf := bn ev hf
  clear ev
  refine lv_lstore (lv' := [(10, .long v3), (0, .ref o), (1, .int x1), (2, .int x2), (3, .int x3), (4, .int x4), (5, .int x5), (6, .int x6), (9, .int x9)]) hx hb d_M_isSound_365 hl (by decide) rfl (fun ls hl => ?_)
  refine lv_lload hx hb d_M_isSound_367 (lv_at hl 0 rfl) ?_
  refine lv_lconst (v := 0) hx hb d_M_isSound_369 (by decide) ?_
  refine W.lcmp hx hb d_M_isSound_370 ?_
  refine lv_if_eq (tgt := 408) hx hb d_M_isSound_371 (by decide) (fun cx => ?_) (fun cx => ?_)
  · have hf := ifp cx hf
    exact wb_M_isSound_408 (fu := fu) F hk_12 _ _ _ _ _ _ _ _ _ _ hf _ _ _ hP hD hS (lv_sub hl [1, 2, 3, 4, 5, 6, 7] rfl)
  · have hf := ifn cx hf
    refine lv_iload hx hb d_M_isSound_374 (lv_at hl 8 rfl) ?_
    refine lv_if_ne (tgt := 408) hx hb d_M_isSound_376 (by decide) (fun cx => ?_) (fun cx => ?_)
    · have hf := ifn cx hf
      exact wb_M_isSound_408 (fu := fu) F hk_12 _ _ _ _ _ _ _ _ _ _ hf _ _ _ hP hD hS (lv_sub hl [1, 2, 3, 4, 5, 6, 7] rfl)
    · have hf := ifp cx hf
      refine lv_lload hx hb d_M_isSound_379 (lv_at hl 0 rfl) ?_
      refine lv_lload hx hb d_M_isSound_381 (lv_at hl 0 rfl) ?_
      refine lv_ldc2 (v := 500000000) hx hb hown (hts _ gw_1832) d_M_isSound_383 ?_
      refine W.lcmp hx hb d_M_isSound_386 ?_
      refine lv_if_ge (tgt := 395) hx hb d_M_isSound_387 (by decide) (fun cx => ?_) (fun cx => ?_)
      · have hf := ifp cx hf
        refine lv_iload hx hb d_M_isSound_395 (lv_at hl 5 rfl) ?_
        refine lv_i2l hx hb d_M_isSound_397 rfl ?_
        refine lv_topl (fun v4 ev => ?_)
        have hf := bn ev hf
        clear ev
        refine lv_ldc2 (v := 4294967295) hx hb hown (hts _ gw_1390) d_M_isSound_398 ?_
        refine lv_land hx hb d_M_isSound_401 ?_
        exact wb_M_isSound_402 (fu := fu) F hk_12 _ _ _ _ _ _ _ _ _ _ _ _ hf _ _ _ hP hD hS (lv_sub hl [1, 2, 3, 4, 5, 6, 7] rfl)
      · have hf := ifn cx hf
        refine lv_iload_n hx hb d_M_isSound_390 rfl (lv_at hl 4 rfl) ?_
        refine lv_i2l hx hb d_M_isSound_391 rfl ?_
        refine lv_goto (tgt := 402) hx hb d_M_isSound_392 (by decide) ?_
        exact wb_M_isSound_402 (fu := fu) F hk_12 _ _ _ _ _ _ _ _ _ _ _ _ hf _ _ _ hP hD hS (lv_sub hl [1, 2, 3, 4, 5, 6, 7] rfl)
set_option maxHeartbeats 8000000 in
set_option maxRecDepth 100000 in
theorem wb_M_isSound_310 {p : Program} {l : Launch} {e : Env} {s : State} {m : MethodId} {args : Array Value} {below : List Frame} {meth : Method} {c : Code} {D : va_G} {cy : Nat → ClassId} {A : Nat → Prop} {ad : Nat → Nat} {o : Nat} {q : Nat → Nat} {g_store : Nat → Int32} {g_tIn : Nat → Int32} {g_tIns : Nat → Int32} {g_tOut : Nat → Int32} {g_tOuts : Nat → Int32} {g_tLock : Nat → Int32} {g_iAt : Nat → Int32} {g_iScript : Nat → Int32} {g_iLong : Nat → Int32} {g_iSequence : Nat → Int32} {g_oValue : Nat → Int64} {g_oScript : Nat → Int32} {g_oLong : Nat → Int32} {fu : Nat} {k_12 : Int32 → Int32 → Int32 → Int32 → Int32 → Int32 → (Nat → Int32) → (Nat → Int32) → (Nat → Int32) → Option (Int32 × (Nat → Int32) × (Nat → Int32) × (Nat → Int32))} {k_179 : Int32 → Int32 → Int32 → Int32 → Int32 → Int32 → Int32 → Int32 → (Nat → Int32) → (Nat → Int32) → (Nat → Int32) → Option (Int32 × (Nat → Int32) × (Nat → Int32) × (Nat → Int32))} (F : Fx p s m args meth c b_M_isSound 12 "CoinKeeperModel" "isSound" (some .boolean) D cy ad A) (hk_12 : I_M_isSound_12 p l e s m args below meth c D cy A ad o q g_store g_tIn g_tIns g_tOut g_tOuts g_tLock g_iAt g_iScript g_iLong g_iSequence g_oValue g_oScript g_oLong k_12) (hk_179 : I_M_isSound_179 p l e s m args below meth c D cy A ad o q g_store g_tIn g_tIns g_tOut g_tOuts g_tLock g_iAt g_iScript g_iLong g_iSequence g_oValue g_oScript g_oLong k_179) : I_M_isSound_310 p l e s m args below meth c D cy A ad o q g_store g_tIn g_tIns g_tOut g_tOuts g_tLock g_iAt g_iScript g_iLong g_iSequence g_oValue g_oScript g_oLong (xb_M_isSound_310 fu g_store g_tIn g_tIns g_tOut g_tOuts g_tLock g_iAt g_iScript g_iLong g_iSequence g_oValue g_oScript g_oLong k_12 k_179) := by
  obtain ⟨hx, hb, hr, hml, hown, hts, hlocks, hK, hA, hSt, hnm, hex⟩ := id F
  intro x1 x2 x3 x4 x5 x6 x10 y0 y1 u0 u1 u2 res hf H locs ls hP hD hS hl
  unfold xb_M_isSound_310 at hf
  refine lv_iand hx hb d_M_isSound_310 ?_
  refine lv_topi (fun v1 ev => ?_)
  have hf := bn ev hf
  clear ev
  refine lv_istore (lv' := [(9, .int v1), (0, .ref o), (1, .int x1), (2, .int x2), (3, .int x3), (4, .int x4), (5, .int x5), (6, .int x6), (10, .int x10)]) hx hb d_M_isSound_311 hl (by decide) rfl (fun ls hl => ?_)
  obtain ⟨v2, ev, hf⟩ := bne hf
  refine lv_iinc (v := v2) (lv' := [(10, .int v2), (9, .int v1), (0, .ref o), (1, .int x1), (2, .int x2), (3, .int x3), (4, .int x4), (5, .int x5), (6, .int x6)]) hx hb d_M_isSound_313 hl (k := 8) rfl (by rw [ev]; rfl) (by decide) rfl (fun ls hl => ?_)
  clear ev
  refine lv_goto (tgt := 179) hx hb d_M_isSound_316 (by decide) ?_
  exact hk_179 _ _ _ _ _ _ _ _ _ _ _ _ hf _ _ _ hP hD hS (lv_sub hl [2, 3, 4, 5, 6, 7, 8, 1, 0] rfl)
theorem hdm_63 : ({ cls := "CoinKeeperModel", name := "sigsOf", desc := "(II)I" } : Jvm.MethodName).cls ≠ "java/lang/invoke/MethodHandle" ∧ ({ cls := "CoinKeeperModel", name := "sigsOf", desc := "(II)I" } : Jvm.MethodName).cls ≠ "java/lang/invoke/VarHandle" ∧ (parseMethodDescriptor ({ cls := "CoinKeeperModel", name := "sigsOf", desc := "(II)I" } : Jvm.MethodName).desc).map (fun d => d.parameters.length) = some 2 := by decide +kernel
set_option maxHeartbeats 8000000 in
set_option maxRecDepth 100000 in
theorem wb_M_isSound_264 {p : Program} {l : Launch} {e : Env} {s : State} {m : MethodId} {args : Array Value} {below : List Frame} {meth : Method} {c : Code} {D : va_G} {cy : Nat → ClassId} {A : Nat → Prop} {ad : Nat → Nat} {o : Nat} {q : Nat → Nat} {g_store : Nat → Int32} {g_tIn : Nat → Int32} {g_tIns : Nat → Int32} {g_tOut : Nat → Int32} {g_tOuts : Nat → Int32} {g_tLock : Nat → Int32} {g_iAt : Nat → Int32} {g_iScript : Nat → Int32} {g_iLong : Nat → Int32} {g_iSequence : Nat → Int32} {g_oValue : Nat → Int64} {g_oScript : Nat → Int32} {g_oLong : Nat → Int32} {fu : Nat} {k_12 : Int32 → Int32 → Int32 → Int32 → Int32 → Int32 → (Nat → Int32) → (Nat → Int32) → (Nat → Int32) → Option (Int32 × (Nat → Int32) × (Nat → Int32) × (Nat → Int32))} {k_179 : Int32 → Int32 → Int32 → Int32 → Int32 → Int32 → Int32 → Int32 → (Nat → Int32) → (Nat → Int32) → (Nat → Int32) → Option (Int32 × (Nat → Int32) × (Nat → Int32) × (Nat → Int32))} (F : Fx p s m args meth c b_M_isSound 12 "CoinKeeperModel" "isSound" (some .boolean) D cy ad A) (hk_12 : I_M_isSound_12 p l e s m args below meth c D cy A ad o q g_store g_tIn g_tIns g_tOut g_tOuts g_tLock g_iAt g_iScript g_iLong g_iSequence g_oValue g_oScript g_oLong k_12) (hk_179 : I_M_isSound_179 p l e s m args below meth c D cy A ad o q g_store g_tIn g_tIns g_tOut g_tOuts g_tLock g_iAt g_iScript g_iLong g_iSequence g_oValue g_oScript g_oLong k_179) : I_M_isSound_264 p l e s m args below meth c D cy A ad o q g_store g_tIn g_tIns g_tOut g_tOuts g_tLock g_iAt g_iScript g_iLong g_iSequence g_oValue g_oScript g_oLong (xb_M_isSound_264 fu g_store g_tIn g_tIns g_tOut g_tOuts g_tLock g_iAt g_iScript g_iLong g_iSequence g_oValue g_oScript g_oLong k_12 k_179) := by
  obtain ⟨hx, hb, hr, hml, hown, hts, hlocks, hK, hA, hSt, hnm, hex⟩ := id F
  intro x1 x2 x3 x4 x5 x6 x9 x10 y0 y1 u0 u1 u2 res hf H locs ls hP hD hS hl
  unfold xb_M_isSound_264 at hf
  refine lv_icmp_eq (tgt := 269) hx hb d_M_isSound_264 (by decide) (fun cx => ?_) (fun cx => ?_)
  · have hf := ifp cx hf
    refine lv_iload hx hb d_M_isSound_269 (lv_at hl 5 rfl) ?_
    refine lv_aload_n hx hb d_M_isSound_271 rfl (lv_at hl 0 rfl) ?_
    refine lv_aload_n hx hb d_M_isSound_272 rfl (lv_at hl 0 rfl) ?_
    refine va_get (D := D) (ci := 12) (v := .ref (q 21)) (C := "CoinKeeperModel") (T := F_12) (N := 98) hx hb hts i_12 hown hK hP 0 rfl rfl 27 (by decide) (hts _ gw_1446) (fun _ h9 => h9) rfl d_M_isSound_273 ?_
    refine lv_iload hx hb d_M_isSound_276 (lv_at hl 8 rfl) ?_
    obtain ⟨hg, hf⟩ := gdp hf
    refine va_iald hx hb hK hP 8 1 rfl rfl (inb_in hg) d_M_isSound_278 ?_
    refine lv_topi (fun v1 ev => ?_)
    have hf := bn ev hf
    clear ev
    refine lv_aload_n hx hb d_M_isSound_279 rfl (lv_at hl 0 rfl) ?_
    refine va_get (D := D) (ci := 12) (v := .ref (q 22)) (C := "CoinKeeperModel") (T := F_12) (N := 98) hx hb hts i_12 hown hK hP 0 rfl rfl 28 (by decide) (hts _ gw_1447) (fun _ h9 => h9) rfl d_M_isSound_280 ?_
    refine lv_iload hx hb d_M_isSound_283 (lv_at hl 8 rfl) ?_
    obtain ⟨hg, hf⟩ := gdp hf
    refine va_iald hx hb hK hP 9 1 rfl rfl (inb_in hg) d_M_isSound_285 ?_
    refine lv_topi (fun v2 ev => ?_)
    have hf := bn ev hf
    clear ev
    obtain ⟨v3, hc, hf⟩ := bdp1 hf
    refine q_ai (wr := [((q 15), .inl (cy 1, 2200, .inl g_tIn)), ((q 16), .inl (cy 1, 2200, .inl g_tIns)), ((q 17), .inl (cy 1, 2200, .inl g_tOut)), ((q 18), .inl (cy 1, 2200, .inl g_tOuts)), ((q 19), .inl (cy 1, 2200, .inl g_tLock)), ((q 20), .inl (cy 1, 2600, .inl g_iAt)), ((q 21), .inl (cy 1, 2600, .inl g_iScript)), ((q 22), .inl (cy 1, 2600, .inl g_iLong)), ((q 23), .inl (cy 1, 2600, .inl g_iSequence)), ((q 25), .inl (cy 2, 11600, .inr (.inl g_oValue))), ((q 26), .inl (cy 1, 11600, .inl g_oScript)), ((q 27), .inl (cy 1, 11600, .inl g_oLong)), ((q 68), .inl (cy 0, 104448, .inl u1)), ((q 69), .inl (cy 1, 408, .inl u2))]) (va_runV (C := "CoinKeeperModel") (As := [.int v1, .int v2]) (rest := [.int x5]) ⟨hx, hb, hml, hown, hts⟩ (c_M_sigsOf l D cy ad fu o q u0 g_store v1 v2 _ hc H.size) ⟨q_cB hts gw_1815 gw_18 gw_1812 hdm_63 ⟨by decide, by decide⟩, hts _ gw_1814, hts _ gs_79⟩ (q_preV (q_pre (hP.sub [0, 1] rfl) (hD.sub [0, 1] (by decide) rfl) hK hSt hS (va_free hD hS hA [0, 1] rfl) _) (va_recv hK (hP.sub [0, 1] rfl) (ci := 12) (q0 := 0) rfl rfl)) rfl rfl hl.1 rfl (lv_room (Nat.le_of_ble_eq_true rfl)) d_M_isSound_286 ⟨Nat.le_of_ble_eq_true rfl, Nat.le_of_ble_eq_true rfl⟩) hP hD hS hA [0, 1] [2, 3, 4, 5, 6, 7, 8, 9, 10, 11, 12, 13, 14, 15] rfl rfl (by decide) (by decide) (fun H locs hP hD hS => ?_)
    clear hc
    have hP : va_P D classes [((q 15), .inl (cy 1, 2200, .inl g_tIn)), ((q 16), .inl (cy 1, 2200, .inl g_tIns)), ((q 17), .inl (cy 1, 2200, .inl g_tOut)), ((q 18), .inl (cy 1, 2200, .inl g_tOuts)), ((q 19), .inl (cy 1, 2200, .inl g_tLock)), ((q 20), .inl (cy 1, 2600, .inl g_iAt)), ((q 21), .inl (cy 1, 2600, .inl g_iScript)), ((q 22), .inl (cy 1, 2600, .inl g_iLong)), ((q 23), .inl (cy 1, 2600, .inl g_iSequence)), ((q 25), .inl (cy 2, 11600, .inr (.inl g_oValue))), ((q 26), .inl (cy 1, 11600, .inl g_oScript)), ((q 27), .inl (cy 1, 11600, .inl g_oLong)), ((q 68), .inl (cy 0, 104448, .inl u1)), ((q 69), .inl (cy 1, 408, .inl u2)), (o, .inr (12, mo q u0)), ((q 1), .inl (cy 0, 103000, .inl g_store))] H := hP
    have hD : va_D A [((q 15), .inl (cy 1, 2200, .inl g_tIn)), ((q 16), .inl (cy 1, 2200, .inl g_tIns)), ((q 17), .inl (cy 1, 2200, .inl g_tOut)), ((q 18), .inl (cy 1, 2200, .inl g_tOuts)), ((q 19), .inl (cy 1, 2200, .inl g_tLock)), ((q 20), .inl (cy 1, 2600, .inl g_iAt)), ((q 21), .inl (cy 1, 2600, .inl g_iScript)), ((q 22), .inl (cy 1, 2600, .inl g_iLong)), ((q 23), .inl (cy 1, 2600, .inl g_iSequence)), ((q 25), .inl (cy 2, 11600, .inr (.inl g_oValue))), ((q 26), .inl (cy 1, 11600, .inl g_oScript)), ((q 27), .inl (cy 1, 11600, .inl g_oLong)), ((q 68), .inl (cy 0, 104448, .inl u1)), ((q 69), .inl (cy 1, 408, .inl u2)), (o, .inr (12, mo q u0)), ((q 1), .inl (cy 0, 103000, .inl g_store))] := hD
    refine lv_iadd hx hb d_M_isSound_289 ?_
    refine lv_topi (fun v4 ev => ?_)
    have hf := bn ev hf
    clear ev
    refine lv_istore (lv' := [(5, .int v4), (0, .ref o), (1, .int x1), (2, .int x2), (3, .int x3), (4, .int x4), (6, .int x6), (9, .int x9), (10, .int x10)]) hx hb d_M_isSound_290 hl (by decide) rfl (fun ls hl => ?_)
    refine lv_iload hx hb d_M_isSound_292 (lv_at hl 7 rfl) ?_
    refine lv_aload_n hx hb d_M_isSound_294 rfl (lv_at hl 1 rfl) ?_
    refine va_get (D := D) (ci := 12) (v := .ref (q 23)) (C := "CoinKeeperModel") (T := F_12) (N := 98) hx hb hts i_12 hown hK hP 14 rfl rfl 29 (by decide) (hts _ gw_1448) (fun _ h9 => h9) rfl d_M_isSound_295 ?_
    refine lv_iload hx hb d_M_isSound_298 (lv_at hl 8 rfl) ?_
    obtain ⟨hg, hf⟩ := gdp hf
    refine va_iald hx hb hK hP 8 1 rfl rfl (inb_in hg) d_M_isSound_300 ?_
    refine lv_topi (fun v5 ev => ?_)
    have hf := bn ev hf
    clear ev
    refine lv_iconst (v := (-1)) hx hb d_M_isSound_301 (by decide) ?_
    refine lv_icmp_ne (tgt := 309) hx hb d_M_isSound_302 (by decide) (fun cx => ?_) (fun cx => ?_)
    · have hf := ifn cx hf
      refine lv_iconst (v := 0) hx hb d_M_isSound_309 (by decide) ?_
      exact wb_M_isSound_310 (fu := fu) F hk_12 hk_179 _ _ _ _ _ _ _ _ _ _ _ _ _ hf _ _ _ (hP.sub (ws' := [(o, .inr (12, mo q u0)), ((q 1), .inl (cy 0, 103000, .inl g_store)), ((q 15), .inl (cy 1, 2200, .inl g_tIn)), ((q 16), .inl (cy 1, 2200, .inl g_tIns)), ((q 17), .inl (cy 1, 2200, .inl g_tOut)), ((q 18), .inl (cy 1, 2200, .inl g_tOuts)), ((q 19), .inl (cy 1, 2200, .inl g_tLock)), ((q 20), .inl (cy 1, 2600, .inl g_iAt)), ((q 21), .inl (cy 1, 2600, .inl g_iScript)), ((q 22), .inl (cy 1, 2600, .inl g_iLong)), ((q 23), .inl (cy 1, 2600, .inl g_iSequence)), ((q 25), .inl (cy 2, 11600, .inr (.inl g_oValue))), ((q 26), .inl (cy 1, 11600, .inl g_oScript)), ((q 27), .inl (cy 1, 11600, .inl g_oLong)), ((q 68), .inl (cy 0, 104448, .inl u1)), ((q 69), .inl (cy 1, 408, .inl u2))]) [14, 15, 0, 1, 2, 3, 4, 5, 6, 7, 8, 9, 10, 11, 12, 13] rfl) (hD.sub (ws' := [(o, .inr (12, mo q u0)), ((q 1), .inl (cy 0, 103000, .inl g_store)), ((q 15), .inl (cy 1, 2200, .inl g_tIn)), ((q 16), .inl (cy 1, 2200, .inl g_tIns)), ((q 17), .inl (cy 1, 2200, .inl g_tOut)), ((q 18), .inl (cy 1, 2200, .inl g_tOuts)), ((q 19), .inl (cy 1, 2200, .inl g_tLock)), ((q 20), .inl (cy 1, 2600, .inl g_iAt)), ((q 21), .inl (cy 1, 2600, .inl g_iScript)), ((q 22), .inl (cy 1, 2600, .inl g_iLong)), ((q 23), .inl (cy 1, 2600, .inl g_iSequence)), ((q 25), .inl (cy 2, 11600, .inr (.inl g_oValue))), ((q 26), .inl (cy 1, 11600, .inl g_oScript)), ((q 27), .inl (cy 1, 11600, .inl g_oLong)), ((q 68), .inl (cy 0, 104448, .inl u1)), ((q 69), .inl (cy 1, 408, .inl u2))]) [14, 15, 0, 1, 2, 3, 4, 5, 6, 7, 8, 9, 10, 11, 12, 13] (by decide) rfl) hS (lv_sub hl [1, 2, 3, 4, 5, 0, 6, 8] rfl)
    · have hf := ifp cx hf
      refine lv_iconst (v := 1) hx hb d_M_isSound_305 (by decide) ?_
      refine lv_goto (tgt := 310) hx hb d_M_isSound_306 (by decide) ?_
      exact wb_M_isSound_310 (fu := fu) F hk_12 hk_179 _ _ _ _ _ _ _ _ _ _ _ _ _ hf _ _ _ (hP.sub (ws' := [(o, .inr (12, mo q u0)), ((q 1), .inl (cy 0, 103000, .inl g_store)), ((q 15), .inl (cy 1, 2200, .inl g_tIn)), ((q 16), .inl (cy 1, 2200, .inl g_tIns)), ((q 17), .inl (cy 1, 2200, .inl g_tOut)), ((q 18), .inl (cy 1, 2200, .inl g_tOuts)), ((q 19), .inl (cy 1, 2200, .inl g_tLock)), ((q 20), .inl (cy 1, 2600, .inl g_iAt)), ((q 21), .inl (cy 1, 2600, .inl g_iScript)), ((q 22), .inl (cy 1, 2600, .inl g_iLong)), ((q 23), .inl (cy 1, 2600, .inl g_iSequence)), ((q 25), .inl (cy 2, 11600, .inr (.inl g_oValue))), ((q 26), .inl (cy 1, 11600, .inl g_oScript)), ((q 27), .inl (cy 1, 11600, .inl g_oLong)), ((q 68), .inl (cy 0, 104448, .inl u1)), ((q 69), .inl (cy 1, 408, .inl u2))]) [14, 15, 0, 1, 2, 3, 4, 5, 6, 7, 8, 9, 10, 11, 12, 13] rfl) (hD.sub (ws' := [(o, .inr (12, mo q u0)), ((q 1), .inl (cy 0, 103000, .inl g_store)), ((q 15), .inl (cy 1, 2200, .inl g_tIn)), ((q 16), .inl (cy 1, 2200, .inl g_tIns)), ((q 17), .inl (cy 1, 2200, .inl g_tOut)), ((q 18), .inl (cy 1, 2200, .inl g_tOuts)), ((q 19), .inl (cy 1, 2200, .inl g_tLock)), ((q 20), .inl (cy 1, 2600, .inl g_iAt)), ((q 21), .inl (cy 1, 2600, .inl g_iScript)), ((q 22), .inl (cy 1, 2600, .inl g_iLong)), ((q 23), .inl (cy 1, 2600, .inl g_iSequence)), ((q 25), .inl (cy 2, 11600, .inr (.inl g_oValue))), ((q 26), .inl (cy 1, 11600, .inl g_oScript)), ((q 27), .inl (cy 1, 11600, .inl g_oLong)), ((q 68), .inl (cy 0, 104448, .inl u1)), ((q 69), .inl (cy 1, 408, .inl u2))]) [14, 15, 0, 1, 2, 3, 4, 5, 6, 7, 8, 9, 10, 11, 12, 13] (by decide) rfl) hS (lv_sub hl [1, 2, 3, 4, 5, 0, 6, 8] rfl)
  · have hf := ifn cx hf
    refine lv_iconst (v := 0) hx hb d_M_isSound_267 (by decide) ?_
    obtain rfl := Option.some.inj hf
    exact q_rz hx hb hr hlocks hK hP hD hS (isb_n (v := 0) (by decide)) d_M_isSound_268
theorem hdm_64 : ({ cls := "CoinKeeperModel", name := "isNull", desc := "(I)Z" } : Jvm.MethodName).cls ≠ "java/lang/invoke/MethodHandle" ∧ ({ cls := "CoinKeeperModel", name := "isNull", desc := "(I)Z" } : Jvm.MethodName).cls ≠ "java/lang/invoke/VarHandle" ∧ (parseMethodDescriptor ({ cls := "CoinKeeperModel", name := "isNull", desc := "(I)Z" } : Jvm.MethodName).desc).map (fun d => d.parameters.length) = some 1 := by decide +kernel
theorem hdm_65 : ({ cls := "CoinKeeperModel", name := "isAlike", desc := "(II)Z" } : Jvm.MethodName).cls ≠ "java/lang/invoke/MethodHandle" ∧ ({ cls := "CoinKeeperModel", name := "isAlike", desc := "(II)Z" } : Jvm.MethodName).cls ≠ "java/lang/invoke/VarHandle" ∧ (parseMethodDescriptor ({ cls := "CoinKeeperModel", name := "isAlike", desc := "(II)Z" } : Jvm.MethodName).desc).map (fun d => d.parameters.length) = some 2 := by decide +kernel
set_option maxHeartbeats 8000000 in
set_option maxRecDepth 100000 in
theorem wb_M_isSound_208 {p : Program} {l : Launch} {e : Env} {s : State} {m : MethodId} {args : Array Value} {below : List Frame} {meth : Method} {c : Code} {D : va_G} {cy : Nat → ClassId} {A : Nat → Prop} {ad : Nat → Nat} {o : Nat} {q : Nat → Nat} {g_store : Nat → Int32} {g_tIn : Nat → Int32} {g_tIns : Nat → Int32} {g_tOut : Nat → Int32} {g_tOuts : Nat → Int32} {g_tLock : Nat → Int32} {g_iAt : Nat → Int32} {g_iScript : Nat → Int32} {g_iLong : Nat → Int32} {g_iSequence : Nat → Int32} {g_oValue : Nat → Int64} {g_oScript : Nat → Int32} {g_oLong : Nat → Int32} {fu : Nat} {k_12 : Int32 → Int32 → Int32 → Int32 → Int32 → Int32 → (Nat → Int32) → (Nat → Int32) → (Nat → Int32) → Option (Int32 × (Nat → Int32) × (Nat → Int32) × (Nat → Int32))} {k_179 : Int32 → Int32 → Int32 → Int32 → Int32 → Int32 → Int32 → Int32 → (Nat → Int32) → (Nat → Int32) → (Nat → Int32) → Option (Int32 × (Nat → Int32) × (Nat → Int32) × (Nat → Int32))} {k_208 : Int32 → Int32 → Int32 → Int32 → Int32 → Int32 → Int32 → Int32 → Int32 → (Nat → Int32) → (Nat → Int32) → (Nat → Int32) → Option (Int32 × (Nat → Int32) × (Nat → Int32) × (Nat → Int32))} (F : Fx p s m args meth c b_M_isSound 12 "CoinKeeperModel" "isSound" (some .boolean) D cy ad A) (hk_12 : I_M_isSound_12 p l e s m args below meth c D cy A ad o q g_store g_tIn g_tIns g_tOut g_tOuts g_tLock g_iAt g_iScript g_iLong g_iSequence g_oValue g_oScript g_oLong k_12) (hk_179 : I_M_isSound_179 p l e s m args below meth c D cy A ad o q g_store g_tIn g_tIns g_tOut g_tOuts g_tLock g_iAt g_iScript g_iLong g_iSequence g_oValue g_oScript g_oLong k_179) (hk_208 : I_M_isSound_208 p l e s m args below meth c D cy A ad o q g_store g_tIn g_tIns g_tOut g_tOuts g_tLock g_iAt g_iScript g_iLong g_iSequence g_oValue g_oScript g_oLong k_208) : I_M_isSound_208 p l e s m args below meth c D cy A ad o q g_store g_tIn g_tIns g_tOut g_tOuts g_tLock g_iAt g_iScript g_iLong g_iSequence g_oValue g_oScript g_oLong (xb_M_isSound_208 fu g_store g_tIn g_tIns g_tOut g_tOuts g_tLock g_iAt g_iScript g_iLong g_iSequence g_oValue g_oScript g_oLong k_12 k_179 k_208) := by
  obtain ⟨hx, hb, hr, hml, hown, hts, hlocks, hK, hA, hSt, hnm, hex⟩ := id F
  intro x1 x2 x3 x4 x5 x6 x9 x10 x11 u0 u1 u2 res hf H locs ls hP hD hS hl
  unfold xb_M_isSound_208 at hf
  refine lv_iload hx hb d_M_isSound_208 (lv_at hl 9 rfl) ?_
  refine lv_iload hx hb d_M_isSound_210 (lv_at hl 8 rfl) ?_
  refine lv_icmp_ge (tgt := 234) hx hb d_M_isSound_212 (by decide) (fun cx => ?_) (fun cx => ?_)
  · have hf := ifp cx hf
    refine lv_aload_n hx hb d_M_isSound_234 rfl (lv_at hl 0 rfl) ?_
    refine va_get (D := D) (ci := 12) (v := .ref (q 22)) (C := "CoinKeeperModel") (T := F_12) (N := 98) hx hb hts i_12 hown hK hP 0 rfl rfl 28 (by decide) (hts _ gw_1447) (fun _ h9 => h9) rfl d_M_isSound_235 ?_
    refine lv_iload hx hb d_M_isSound_238 (lv_at hl 8 rfl) ?_
    obtain ⟨hg, hf⟩ := gdp hf
    refine va_iald hx hb hK hP 9 1 rfl rfl (inb_in hg) d_M_isSound_240 ?_
    refine lv_topi (fun v1 ev => ?_)
    have hf := bn ev hf
    clear ev
    refine lv_sipush (v := 1000) hx hb d_M_isSound_241 (by decide) ?_
    refine lv_icmp_gt (tgt := 267) hx hb d_M_isSound_244 (by decide) (fun cx => ?_) (fun cx => ?_)
    · have hf := ifp cx hf
      refine lv_iconst (v := 0) hx hb d_M_isSound_267 (by decide) ?_
      obtain rfl := Option.some.inj hf
      exact q_rz hx hb hr hlocks hK hP hD hS (isb_n (v := 0) (by decide)) d_M_isSound_268
    · have hf := ifn cx hf
      refine lv_aload_n hx hb d_M_isSound_247 rfl (lv_at hl 0 rfl) ?_
      refine lv_iload hx hb d_M_isSound_248 (lv_at hl 8 rfl) ?_
      obtain ⟨v2, hc, hf⟩ := bdp1 hf
      refine q_ai (wr := [((q 15), .inl (cy 1, 2200, .inl g_tIn)), ((q 16), .inl (cy 1, 2200, .inl g_tIns)), ((q 17), .inl (cy 1, 2200, .inl g_tOut)), ((q 18), .inl (cy 1, 2200, .inl g_tOuts)), ((q 19), .inl (cy 1, 2200, .inl g_tLock)), ((q 21), .inl (cy 1, 2600, .inl g_iScript)), ((q 22), .inl (cy 1, 2600, .inl g_iLong)), ((q 23), .inl (cy 1, 2600, .inl g_iSequence)), ((q 25), .inl (cy 2, 11600, .inr (.inl g_oValue))), ((q 26), .inl (cy 1, 11600, .inl g_oScript)), ((q 27), .inl (cy 1, 11600, .inl g_oLong)), ((q 68), .inl (cy 0, 104448, .inl u1)), ((q 69), .inl (cy 1, 408, .inl u2))]) (va_runV (C := "CoinKeeperModel") (As := [.int x10]) (rest := []) ⟨hx, hb, hml, hown, hts⟩ (c_M_isNull l D cy ad fu o q u0 g_store g_iAt x10 _ hc H.size) ⟨q_cB hts gw_1823 gw_18 gw_1820 hdm_64 ⟨by decide, by decide⟩, hts _ gw_1822, hts _ gs_81⟩ (q_preV (q_pre (hP.sub [0, 1, 7] rfl) (hD.sub [0, 1, 7] (by decide) rfl) hK hSt hS (va_free hD hS hA [0, 1, 7] rfl) _) (va_recv hK (hP.sub [0, 1, 7] rfl) (ci := 12) (q0 := 0) rfl rfl)) rfl rfl hl.1 rfl (lv_room (Nat.le_of_ble_eq_true rfl)) d_M_isSound_250 ⟨Nat.le_of_ble_eq_true rfl, Nat.le_of_ble_eq_true rfl⟩) hP hD hS hA [0, 1, 7] [2, 3, 4, 5, 6, 8, 9, 10, 11, 12, 13, 14, 15] rfl rfl (by decide) (by decide) (fun H locs hP hD hS => ?_)
      clear hc
      have hP : va_P D classes [((q 15), .inl (cy 1, 2200, .inl g_tIn)), ((q 16), .inl (cy 1, 2200, .inl g_tIns)), ((q 17), .inl (cy 1, 2200, .inl g_tOut)), ((q 18), .inl (cy 1, 2200, .inl g_tOuts)), ((q 19), .inl (cy 1, 2200, .inl g_tLock)), ((q 21), .inl (cy 1, 2600, .inl g_iScript)), ((q 22), .inl (cy 1, 2600, .inl g_iLong)), ((q 23), .inl (cy 1, 2600, .inl g_iSequence)), ((q 25), .inl (cy 2, 11600, .inr (.inl g_oValue))), ((q 26), .inl (cy 1, 11600, .inl g_oScript)), ((q 27), .inl (cy 1, 11600, .inl g_oLong)), ((q 68), .inl (cy 0, 104448, .inl u1)), ((q 69), .inl (cy 1, 408, .inl u2)), (o, .inr (12, mo q u0)), ((q 1), .inl (cy 0, 103000, .inl g_store)), ((q 20), .inl (cy 1, 2600, .inl g_iAt))] H := hP
      have hD : va_D A [((q 15), .inl (cy 1, 2200, .inl g_tIn)), ((q 16), .inl (cy 1, 2200, .inl g_tIns)), ((q 17), .inl (cy 1, 2200, .inl g_tOut)), ((q 18), .inl (cy 1, 2200, .inl g_tOuts)), ((q 19), .inl (cy 1, 2200, .inl g_tLock)), ((q 21), .inl (cy 1, 2600, .inl g_iScript)), ((q 22), .inl (cy 1, 2600, .inl g_iLong)), ((q 23), .inl (cy 1, 2600, .inl g_iSequence)), ((q 25), .inl (cy 2, 11600, .inr (.inl g_oValue))), ((q 26), .inl (cy 1, 11600, .inl g_oScript)), ((q 27), .inl (cy 1, 11600, .inl g_oLong)), ((q 68), .inl (cy 0, 104448, .inl u1)), ((q 69), .inl (cy 1, 408, .inl u2)), (o, .inr (12, mo q u0)), ((q 1), .inl (cy 0, 103000, .inl g_store)), ((q 20), .inl (cy 1, 2600, .inl g_iAt))] := hD
      refine lv_iload hx hb d_M_isSound_253 (lv_at hl 6 rfl) ?_
      refine lv_iload_n hx hb d_M_isSound_255 rfl (lv_at hl 1 rfl) ?_
      refine lv_icmp_ne (tgt := 263) hx hb d_M_isSound_256 (by decide) (fun cx => ?_) (fun cx => ?_)
      · have hf := ifn cx hf
        refine lv_iconst (v := 0) hx hb d_M_isSound_263 (by decide) ?_
        exact wb_M_isSound_264 (fu := fu) F hk_12 hk_179 _ _ _ _ _ _ _ _ _ _ _ _ _ _ hf _ _ _ (hP.sub (ws' := [(o, .inr (12, mo q u0)), ((q 1), .inl (cy 0, 103000, .inl g_store)), ((q 15), .inl (cy 1, 2200, .inl g_tIn)), ((q 16), .inl (cy 1, 2200, .inl g_tIns)), ((q 17), .inl (cy 1, 2200, .inl g_tOut)), ((q 18), .inl (cy 1, 2200, .inl g_tOuts)), ((q 19), .inl (cy 1, 2200, .inl g_tLock)), ((q 20), .inl (cy 1, 2600, .inl g_iAt)), ((q 21), .inl (cy 1, 2600, .inl g_iScript)), ((q 22), .inl (cy 1, 2600, .inl g_iLong)), ((q 23), .inl (cy 1, 2600, .inl g_iSequence)), ((q 25), .inl (cy 2, 11600, .inr (.inl g_oValue))), ((q 26), .inl (cy 1, 11600, .inl g_oScript)), ((q 27), .inl (cy 1, 11600, .inl g_oLong)), ((q 68), .inl (cy 0, 104448, .inl u1)), ((q 69), .inl (cy 1, 408, .inl u2))]) [13, 14, 0, 1, 2, 3, 4, 15, 5, 6, 7, 8, 9, 10, 11, 12] rfl) (hD.sub (ws' := [(o, .inr (12, mo q u0)), ((q 1), .inl (cy 0, 103000, .inl g_store)), ((q 15), .inl (cy 1, 2200, .inl g_tIn)), ((q 16), .inl (cy 1, 2200, .inl g_tIns)), ((q 17), .inl (cy 1, 2200, .inl g_tOut)), ((q 18), .inl (cy 1, 2200, .inl g_tOuts)), ((q 19), .inl (cy 1, 2200, .inl g_tLock)), ((q 20), .inl (cy 1, 2600, .inl g_iAt)), ((q 21), .inl (cy 1, 2600, .inl g_iScript)), ((q 22), .inl (cy 1, 2600, .inl g_iLong)), ((q 23), .inl (cy 1, 2600, .inl g_iSequence)), ((q 25), .inl (cy 2, 11600, .inr (.inl g_oValue))), ((q 26), .inl (cy 1, 11600, .inl g_oScript)), ((q 27), .inl (cy 1, 11600, .inl g_oLong)), ((q 68), .inl (cy 0, 104448, .inl u1)), ((q 69), .inl (cy 1, 408, .inl u2))]) [13, 14, 0, 1, 2, 3, 4, 15, 5, 6, 7, 8, 9, 10, 11, 12] (by decide) rfl) hS (lv_sub hl [0, 1, 2, 3, 4, 5, 6, 7, 8] rfl)
      · have hf := ifp cx hf
        refine lv_iconst (v := 1) hx hb d_M_isSound_259 (by decide) ?_
        refine lv_goto (tgt := 264) hx hb d_M_isSound_260 (by decide) ?_
        exact wb_M_isSound_264 (fu := fu) F hk_12 hk_179 _ _ _ _ _ _ _ _ _ _ _ _ _ _ hf _ _ _ (hP.sub (ws' := [(o, .inr (12, mo q u0)), ((q 1), .inl (cy 0, 103000, .inl g_store)), ((q 15), .inl (cy 1, 2200, .inl g_tIn)), ((q 16), .inl (cy 1, 2200, .inl g_tIns)), ((q 17), .inl (cy 1, 2200, .inl g_tOut)), ((q 18), .inl (cy 1, 2200, .inl g_tOuts)), ((q 19), .inl (cy 1, 2200, .inl g_tLock)), ((q 20), .inl (cy 1, 2600, .inl g_iAt)), ((q 21), .inl (cy 1, 2600, .inl g_iScript)), ((q 22), .inl (cy 1, 2600, .inl g_iLong)), ((q 23), .inl (cy 1, 2600, .inl g_iSequence)), ((q 25), .inl (cy 2, 11600, .inr (.inl g_oValue))), ((q 26), .inl (cy 1, 11600, .inl g_oScript)), ((q 27), .inl (cy 1, 11600, .inl g_oLong)), ((q 68), .inl (cy 0, 104448, .inl u1)), ((q 69), .inl (cy 1, 408, .inl u2))]) [13, 14, 0, 1, 2, 3, 4, 15, 5, 6, 7, 8, 9, 10, 11, 12] rfl) (hD.sub (ws' := [(o, .inr (12, mo q u0)), ((q 1), .inl (cy 0, 103000, .inl g_store)), ((q 15), .inl (cy 1, 2200, .inl g_tIn)), ((q 16), .inl (cy 1, 2200, .inl g_tIns)), ((q 17), .inl (cy 1, 2200, .inl g_tOut)), ((q 18), .inl (cy 1, 2200, .inl g_tOuts)), ((q 19), .inl (cy 1, 2200, .inl g_tLock)), ((q 20), .inl (cy 1, 2600, .inl g_iAt)), ((q 21), .inl (cy 1, 2600, .inl g_iScript)), ((q 22), .inl (cy 1, 2600, .inl g_iLong)), ((q 23), .inl (cy 1, 2600, .inl g_iSequence)), ((q 25), .inl (cy 2, 11600, .inr (.inl g_oValue))), ((q 26), .inl (cy 1, 11600, .inl g_oScript)), ((q 27), .inl (cy 1, 11600, .inl g_oLong)), ((q 68), .inl (cy 0, 104448, .inl u1)), ((q 69), .inl (cy 1, 408, .inl u2))]) [13, 14, 0, 1, 2, 3, 4, 15, 5, 6, 7, 8, 9, 10, 11, 12] (by decide) rfl) hS (lv_sub hl [0, 1, 2, 3, 4, 5, 6, 7, 8] rfl)
  · have hf := ifn cx hf
    refine lv_aload_n hx hb d_M_isSound_215 rfl (lv_at hl 0 rfl) ?_
    refine lv_iload hx hb d_M_isSound_216 (lv_at hl 8 rfl) ?_
    refine lv_iload hx hb d_M_isSound_218 (lv_at hl 9 rfl) ?_
    obtain ⟨v3, hc, hf⟩ := bdp1 hf
    refine q_ai (wr := [((q 15), .inl (cy 1, 2200, .inl g_tIn)), ((q 16), .inl (cy 1, 2200, .inl g_tIns)), ((q 17), .inl (cy 1, 2200, .inl g_tOut)), ((q 18), .inl (cy 1, 2200, .inl g_tOuts)), ((q 19), .inl (cy 1, 2200, .inl g_tLock)), ((q 21), .inl (cy 1, 2600, .inl g_iScript)), ((q 22), .inl (cy 1, 2600, .inl g_iLong)), ((q 23), .inl (cy 1, 2600, .inl g_iSequence)), ((q 25), .inl (cy 2, 11600, .inr (.inl g_oValue))), ((q 26), .inl (cy 1, 11600, .inl g_oScript)), ((q 27), .inl (cy 1, 11600, .inl g_oLong)), ((q 68), .inl (cy 0, 104448, .inl u1)), ((q 69), .inl (cy 1, 408, .inl u2))]) (va_runV (C := "CoinKeeperModel") (As := [.int x10, .int x11]) (rest := []) ⟨hx, hb, hml, hown, hts⟩ (c_M_isAlike l D cy ad fu o q u0 g_store g_iAt x10 x11 _ hc H.size) ⟨q_cB hts gw_1819 gw_18 gw_1816 hdm_65 ⟨by decide, by decide⟩, hts _ gw_1818, hts _ gs_80⟩ (q_preV (q_pre (hP.sub [0, 1, 7] rfl) (hD.sub [0, 1, 7] (by decide) rfl) hK hSt hS (va_free hD hS hA [0, 1, 7] rfl) _) (va_recv hK (hP.sub [0, 1, 7] rfl) (ci := 12) (q0 := 0) rfl rfl)) rfl rfl hl.1 rfl (lv_room (Nat.le_of_ble_eq_true rfl)) d_M_isSound_220 ⟨Nat.le_of_ble_eq_true rfl, Nat.le_of_ble_eq_true rfl⟩) hP hD hS hA [0, 1, 7] [2, 3, 4, 5, 6, 8, 9, 10, 11, 12, 13, 14, 15] rfl rfl (by decide) (by decide) (fun H locs hP hD hS => ?_)
    clear hc
    have hP : va_P D classes [((q 15), .inl (cy 1, 2200, .inl g_tIn)), ((q 16), .inl (cy 1, 2200, .inl g_tIns)), ((q 17), .inl (cy 1, 2200, .inl g_tOut)), ((q 18), .inl (cy 1, 2200, .inl g_tOuts)), ((q 19), .inl (cy 1, 2200, .inl g_tLock)), ((q 21), .inl (cy 1, 2600, .inl g_iScript)), ((q 22), .inl (cy 1, 2600, .inl g_iLong)), ((q 23), .inl (cy 1, 2600, .inl g_iSequence)), ((q 25), .inl (cy 2, 11600, .inr (.inl g_oValue))), ((q 26), .inl (cy 1, 11600, .inl g_oScript)), ((q 27), .inl (cy 1, 11600, .inl g_oLong)), ((q 68), .inl (cy 0, 104448, .inl u1)), ((q 69), .inl (cy 1, 408, .inl u2)), (o, .inr (12, mo q u0)), ((q 1), .inl (cy 0, 103000, .inl g_store)), ((q 20), .inl (cy 1, 2600, .inl g_iAt))] H := hP
    have hD : va_D A [((q 15), .inl (cy 1, 2200, .inl g_tIn)), ((q 16), .inl (cy 1, 2200, .inl g_tIns)), ((q 17), .inl (cy 1, 2200, .inl g_tOut)), ((q 18), .inl (cy 1, 2200, .inl g_tOuts)), ((q 19), .inl (cy 1, 2200, .inl g_tLock)), ((q 21), .inl (cy 1, 2600, .inl g_iScript)), ((q 22), .inl (cy 1, 2600, .inl g_iLong)), ((q 23), .inl (cy 1, 2600, .inl g_iSequence)), ((q 25), .inl (cy 2, 11600, .inr (.inl g_oValue))), ((q 26), .inl (cy 1, 11600, .inl g_oScript)), ((q 27), .inl (cy 1, 11600, .inl g_oLong)), ((q 68), .inl (cy 0, 104448, .inl u1)), ((q 69), .inl (cy 1, 408, .inl u2)), (o, .inr (12, mo q u0)), ((q 1), .inl (cy 0, 103000, .inl g_store)), ((q 20), .inl (cy 1, 2600, .inl g_iAt))] := hD
    refine lv_if_eq (tgt := 228) hx hb d_M_isSound_223 (by decide) (fun cx => ?_) (fun cx => ?_)
    · have hf := ifp cx hf
      obtain ⟨v4, ev, hf⟩ := bne hf
      refine lv_iinc (v := v4) (lv' := [(11, .int v4), (0, .ref o), (1, .int x1), (2, .int x2), (3, .int x3), (4, .int x4), (5, .int x5), (6, .int x6), (9, .int x9), (10, .int x10)]) hx hb d_M_isSound_228 hl (k := 9) rfl (by rw [ev]; rfl) (by decide) rfl (fun ls hl => ?_)
      clear ev
      refine lv_goto (tgt := 208) hx hb d_M_isSound_231 (by decide) ?_
      exact hk_208 _ _ _ _ _ _ _ _ _ _ _ _ _ hf _ _ _ (hP.sub (ws' := [(o, .inr (12, mo q u0)), ((q 1), .inl (cy 0, 103000, .inl g_store)), ((q 15), .inl (cy 1, 2200, .inl g_tIn)), ((q 16), .inl (cy 1, 2200, .inl g_tIns)), ((q 17), .inl (cy 1, 2200, .inl g_tOut)), ((q 18), .inl (cy 1, 2200, .inl g_tOuts)), ((q 19), .inl (cy 1, 2200, .inl g_tLock)), ((q 20), .inl (cy 1, 2600, .inl g_iAt)), ((q 21), .inl (cy 1, 2600, .inl g_iScript)), ((q 22), .inl (cy 1, 2600, .inl g_iLong)), ((q 23), .inl (cy 1, 2600, .inl g_iSequence)), ((q 25), .inl (cy 2, 11600, .inr (.inl g_oValue))), ((q 26), .inl (cy 1, 11600, .inl g_oScript)), ((q 27), .inl (cy 1, 11600, .inl g_oLong)), ((q 68), .inl (cy 0, 104448, .inl u1)), ((q 69), .inl (cy 1, 408, .inl u2))]) [13, 14, 0, 1, 2, 3, 4, 15, 5, 6, 7, 8, 9, 10, 11, 12] rfl) (hD.sub (ws' := [(o, .inr (12, mo q u0)), ((q 1), .inl (cy 0, 103000, .inl g_store)), ((q 15), .inl (cy 1, 2200, .inl g_tIn)), ((q 16), .inl (cy 1, 2200, .inl g_tIns)), ((q 17), .inl (cy 1, 2200, .inl g_tOut)), ((q 18), .inl (cy 1, 2200, .inl g_tOuts)), ((q 19), .inl (cy 1, 2200, .inl g_tLock)), ((q 20), .inl (cy 1, 2600, .inl g_iAt)), ((q 21), .inl (cy 1, 2600, .inl g_iScript)), ((q 22), .inl (cy 1, 2600, .inl g_iLong)), ((q 23), .inl (cy 1, 2600, .inl g_iSequence)), ((q 25), .inl (cy 2, 11600, .inr (.inl g_oValue))), ((q 26), .inl (cy 1, 11600, .inl g_oScript)), ((q 27), .inl (cy 1, 11600, .inl g_oLong)), ((q 68), .inl (cy 0, 104448, .inl u1)), ((q 69), .inl (cy 1, 408, .inl u2))]) [13, 14, 0, 1, 2, 3, 4, 15, 5, 6, 7, 8, 9, 10, 11, 12] (by decide) rfl) hS (lv_sub hl [1, 2, 3, 4, 5, 6, 7, 8, 9, 0] rfl)
    · have hf := ifn cx hf
      refine lv_iconst (v := 0) hx hb d_M_isSound_226 (by decide) ?_
      obtain rfl := Option.some.inj hf
      exact q_rz hx hb hr hlocks hK (hP.sub [13, 14, 0, 1, 2, 3, 4, 15, 5, 6, 7, 8, 9, 10, 11, 12] rfl) (hD.sub [13, 14, 0, 1, 2, 3, 4, 15, 5, 6, 7, 8, 9, 10, 11, 12] (by decide) rfl) hS (isb_n (v := 0) (by decide)) d_M_isSound_227
theorem w_M_isSound_208 {p : Program} {l : Launch} {e : Env} {s : State} {m : MethodId} {args : Array Value} {below : List Frame} {meth : Method} {c : Code} {D : va_G} {cy : Nat → ClassId} {A : Nat → Prop} {ad : Nat → Nat} {o : Nat} {q : Nat → Nat} {g_store : Nat → Int32} {g_tIn : Nat → Int32} {g_tIns : Nat → Int32} {g_tOut : Nat → Int32} {g_tOuts : Nat → Int32} {g_tLock : Nat → Int32} {g_iAt : Nat → Int32} {g_iScript : Nat → Int32} {g_iLong : Nat → Int32} {g_iSequence : Nat → Int32} {g_oValue : Nat → Int64} {g_oScript : Nat → Int32} {g_oLong : Nat → Int32} {fu : Nat} {k_12 : Int32 → Int32 → Int32 → Int32 → Int32 → Int32 → (Nat → Int32) → (Nat → Int32) → (Nat → Int32) → Option (Int32 × (Nat → Int32) × (Nat → Int32) × (Nat → Int32))} {k_179 : Int32 → Int32 → Int32 → Int32 → Int32 → Int32 → Int32 → Int32 → (Nat → Int32) → (Nat → Int32) → (Nat → Int32) → Option (Int32 × (Nat → Int32) × (Nat → Int32) × (Nat → Int32))} (F : Fx p s m args meth c b_M_isSound 12 "CoinKeeperModel" "isSound" (some .boolean) D cy ad A) (hk_12 : I_M_isSound_12 p l e s m args below meth c D cy A ad o q g_store g_tIn g_tIns g_tOut g_tOuts g_tLock g_iAt g_iScript g_iLong g_iSequence g_oValue g_oScript g_oLong k_12) (hk_179 : I_M_isSound_179 p l e s m args below meth c D cy A ad o q g_store g_tIn g_tIns g_tOut g_tOuts g_tLock g_iAt g_iScript g_iLong g_iSequence g_oValue g_oScript g_oLong k_179) : ∀ n : Nat, I_M_isSound_208 p l e s m args below meth c D cy A ad o q g_store g_tIn g_tIns g_tOut g_tOuts g_tLock g_iAt g_iScript g_iLong g_iSequence g_oValue g_oScript g_oLong (x_M_isSound_208 fu g_store g_tIn g_tIns g_tOut g_tOuts g_tLock g_iAt g_iScript g_iLong g_iSequence g_oValue g_oScript g_oLong k_12 k_179 n)
  | 0 => fun _ _ _ _ _ _ _ _ _ _ _ _ _ hf => nomatch (show (none : Option (Int32 × (Nat → Int32) × (Nat → Int32) × (Nat → Int32))) = some _ from hf)
  | n + 1 => wb_M_isSound_208 F hk_12 hk_179 (w_M_isSound_208 F hk_12 hk_179 n)
theorem hdm_66 : ({ cls := "CoinKeeperModel", name := "isHeight", desc := "(II)Z" } : Jvm.MethodName).cls ≠ "java/lang/invoke/MethodHandle" ∧ ({ cls := "CoinKeeperModel", name := "isHeight", desc := "(II)Z" } : Jvm.MethodName).cls ≠ "java/lang/invoke/VarHandle" ∧ (parseMethodDescriptor ({ cls := "CoinKeeperModel", name := "isHeight", desc := "(II)Z" } : Jvm.MethodName).desc).map (fun d => d.parameters.length) = some 2 := by decide +kernel
set_option maxHeartbeats 8000000 in
set_option maxRecDepth 100000 in
theorem wb_M_isSound_179 {p : Program} {l : Launch} {e : Env} {s : State} {m : MethodId} {args : Array Value} {below : List Frame} {meth : Method} {c : Code} {D : va_G} {cy : Nat → ClassId} {A : Nat → Prop} {ad : Nat → Nat} {o : Nat} {q : Nat → Nat} {g_store : Nat → Int32} {g_tIn : Nat → Int32} {g_tIns : Nat → Int32} {g_tOut : Nat → Int32} {g_tOuts : Nat → Int32} {g_tLock : Nat → Int32} {g_iAt : Nat → Int32} {g_iScript : Nat → Int32} {g_iLong : Nat → Int32} {g_iSequence : Nat → Int32} {g_oValue : Nat → Int64} {g_oScript : Nat → Int32} {g_oLong : Nat → Int32} {fu : Nat} {k_12 : Int32 → Int32 → Int32 → Int32 → Int32 → Int32 → (Nat → Int32) → (Nat → Int32) → (Nat → Int32) → Option (Int32 × (Nat → Int32) × (Nat → Int32) × (Nat → Int32))} {k_179 : Int32 → Int32 → Int32 → Int32 → Int32 → Int32 → Int32 → Int32 → (Nat → Int32) → (Nat → Int32) → (Nat → Int32) → Option (Int32 × (Nat → Int32) × (Nat → Int32) × (Nat → Int32))} (F : Fx p s m args meth c b_M_isSound 12 "CoinKeeperModel" "isSound" (some .boolean) D cy ad A) (hk_12 : I_M_isSound_12 p l e s m args below meth c D cy A ad o q g_store g_tIn g_tIns g_tOut g_tOuts g_tLock g_iAt g_iScript g_iLong g_iSequence g_oValue g_oScript g_oLong k_12) (hk_179 : I_M_isSound_179 p l e s m args below meth c D cy A ad o q g_store g_tIn g_tIns g_tOut g_tOuts g_tLock g_iAt g_iScript g_iLong g_iSequence g_oValue g_oScript g_oLong k_179) : I_M_isSound_179 p l e s m args below meth c D cy A ad o q g_store g_tIn g_tIns g_tOut g_tOuts g_tLock g_iAt g_iScript g_iLong g_iSequence g_oValue g_oScript g_oLong (xb_M_isSound_179 fu g_store g_tIn g_tIns g_tOut g_tOuts g_tLock g_iAt g_iScript g_iLong g_iSequence g_oValue g_oScript g_oLong k_12 k_179) := by
  obtain ⟨hx, hb, hr, hml, hown, hts, hlocks, hK, hA, hSt, hnm, hex⟩ := id F
  intro x1 x2 x3 x4 x5 x6 x9 x10 u0 u1 u2 res hf H locs ls hP hD hS hl
  unfold xb_M_isSound_179 at hf
  refine lv_iload hx hb d_M_isSound_179 (lv_at hl 8 rfl) ?_
  refine lv_aload_n hx hb d_M_isSound_181 rfl (lv_at hl 0 rfl) ?_
  refine va_get (D := D) (ci := 12) (v := .ref (q 15)) (C := "CoinKeeperModel") (T := F_12) (N := 98) hx hb hts i_12 hown hK hP 0 rfl rfl 20 (by decide) (hts _ gw_1439) (fun _ h9 => h9) rfl d_M_isSound_182 ?_
  refine lv_iload hx hb d_M_isSound_185 (lv_at hl 6 rfl) ?_
  obtain ⟨hg, hf⟩ := gdp hf
  refine va_iald hx hb hK hP 2 1 rfl rfl (inb_in hg) d_M_isSound_187 ?_
  refine lv_topi (fun v1 ev => ?_)
  have hf := bn ev hf
  clear ev
  refine lv_aload_n hx hb d_M_isSound_188 rfl (lv_at hl 0 rfl) ?_
  refine va_get (D := D) (ci := 12) (v := .ref (q 16)) (C := "CoinKeeperModel") (T := F_12) (N := 98) hx hb hts i_12 hown hK hP 0 rfl rfl 21 (by decide) (hts _ gw_1440) (fun _ h9 => h9) rfl d_M_isSound_189 ?_
  refine lv_iload hx hb d_M_isSound_192 (lv_at hl 6 rfl) ?_
  obtain ⟨hg, hf⟩ := gdp hf
  refine va_iald hx hb hK hP 3 1 rfl rfl (inb_in hg) d_M_isSound_194 ?_
  refine lv_topi (fun v2 ev => ?_)
  have hf := bn ev hf
  clear ev
  refine lv_iadd hx hb d_M_isSound_195 ?_
  refine lv_icmp_ge (tgt := 319) hx hb d_M_isSound_196 (by decide) (fun cx => ?_) (fun cx => ?_)
  · have hf := ifp cx hf
    refine lv_iload hx hb d_M_isSound_319 (lv_at hl 6 rfl) ?_
    refine lv_iload_n hx hb d_M_isSound_321 rfl (lv_at hl 1 rfl) ?_
    refine lv_icmp_ne (tgt := 353) hx hb d_M_isSound_322 (by decide) (fun cx => ?_) (fun cx => ?_)
    · have hf := ifn cx hf
      exact wb_M_isSound_353 (fu := fu) F hk_12 _ _ _ _ _ _ _ _ _ _ _ hf _ _ _ hP hD hS (lv_sub hl [0, 1, 2, 3, 4, 5, 6, 7] rfl)
    · have hf := ifp cx hf
      refine lv_aload_n hx hb d_M_isSound_325 rfl (lv_at hl 0 rfl) ?_
      refine va_get (D := D) (ci := 12) (v := .ref (q 16)) (C := "CoinKeeperModel") (T := F_12) (N := 98) hx hb hts i_12 hown hK hP 0 rfl rfl 21 (by decide) (hts _ gw_1440) (fun _ h9 => h9) rfl d_M_isSound_326 ?_
      refine lv_iload hx hb d_M_isSound_329 (lv_at hl 6 rfl) ?_
      obtain ⟨hg, hf⟩ := gdp hf
      refine va_iald hx hb hK hP 3 1 rfl rfl (inb_in hg) d_M_isSound_331 ?_
      refine lv_topi (fun v3 ev => ?_)
      have hf := bn ev hf
      clear ev
      refine lv_iconst (v := 1) hx hb d_M_isSound_332 (by decide) ?_
      refine lv_icmp_ne (tgt := 351) hx hb d_M_isSound_333 (by decide) (fun cx => ?_) (fun cx => ?_)
      · have hf := ifn cx hf
        refine lv_iconst (v := 0) hx hb d_M_isSound_351 (by decide) ?_
        obtain rfl := Option.some.inj hf
        exact q_rz hx hb hr hlocks hK hP hD hS (isb_n (v := 0) (by decide)) d_M_isSound_352
      · have hf := ifp cx hf
        refine lv_aload_n hx hb d_M_isSound_336 rfl (lv_at hl 0 rfl) ?_
        refine lv_aload_n hx hb d_M_isSound_337 rfl (lv_at hl 0 rfl) ?_
        refine va_get (D := D) (ci := 12) (v := .ref (q 15)) (C := "CoinKeeperModel") (T := F_12) (N := 98) hx hb hts i_12 hown hK hP 0 rfl rfl 20 (by decide) (hts _ gw_1439) (fun _ h9 => h9) rfl d_M_isSound_338 ?_
        refine lv_iload hx hb d_M_isSound_341 (lv_at hl 6 rfl) ?_
        obtain ⟨hg, hf⟩ := gdp hf
        refine va_iald hx hb hK hP 2 1 rfl rfl (inb_in hg) d_M_isSound_343 ?_
        refine lv_topi (fun v4 ev => ?_)
        have hf := bn ev hf
        clear ev
        refine lv_iload_n hx hb d_M_isSound_344 rfl (lv_at hl 3 rfl) ?_
        obtain ⟨v5, f6, f7, f8, hc, hf⟩ := bdp4 hf
        refine q_ai (wr := [((q 15), .inl (cy 1, 2200, .inl g_tIn)), ((q 16), .inl (cy 1, 2200, .inl g_tIns)), ((q 17), .inl (cy 1, 2200, .inl g_tOut)), ((q 18), .inl (cy 1, 2200, .inl g_tOuts)), ((q 19), .inl (cy 1, 2200, .inl g_tLock)), ((q 20), .inl (cy 1, 2600, .inl g_iAt)), ((q 23), .inl (cy 1, 2600, .inl g_iSequence)), ((q 25), .inl (cy 2, 11600, .inr (.inl g_oValue))), ((q 26), .inl (cy 1, 11600, .inl g_oScript)), ((q 27), .inl (cy 1, 11600, .inl g_oLong))]) (va_runV (C := "CoinKeeperModel") (As := [.int v4, .int x3]) (rest := []) ⟨hx, hb, hml, hown, hts⟩ (c_M_isHeight l D cy ad fu o q g_store g_iScript g_iLong v4 x3 u0 u1 u2 _ hc H.size) ⟨q_cB hts gw_1827 gw_18 gw_1824 hdm_66 ⟨by decide, by decide⟩, hts _ gw_1826, hts _ gs_82⟩ (q_preV (q_pre (hP.sub [0, 1, 8, 9, 14, 15] rfl) (hD.sub [0, 1, 8, 9, 14, 15] (by decide) rfl) hK hSt hS (va_free hD hS hA [0, 1, 8, 9, 14, 15] rfl) _) (va_recv hK (hP.sub [0, 1, 8, 9, 14, 15] rfl) (ci := 12) (q0 := 0) rfl rfl)) rfl rfl hl.1 rfl (lv_room (Nat.le_of_ble_eq_true rfl)) d_M_isSound_345 ⟨Nat.le_of_ble_eq_true rfl, Nat.le_of_ble_eq_true rfl⟩) hP hD hS hA [0, 1, 8, 9, 14, 15] [2, 3, 4, 5, 6, 7, 10, 11, 12, 13] rfl rfl (by decide) (by decide) (fun H locs hP hD hS => ?_)
        clear hc
        have hP : va_P D classes [((q 15), .inl (cy 1, 2200, .inl g_tIn)), ((q 16), .inl (cy 1, 2200, .inl g_tIns)), ((q 17), .inl (cy 1, 2200, .inl g_tOut)), ((q 18), .inl (cy 1, 2200, .inl g_tOuts)), ((q 19), .inl (cy 1, 2200, .inl g_tLock)), ((q 20), .inl (cy 1, 2600, .inl g_iAt)), ((q 23), .inl (cy 1, 2600, .inl g_iSequence)), ((q 25), .inl (cy 2, 11600, .inr (.inl g_oValue))), ((q 26), .inl (cy 1, 11600, .inl g_oScript)), ((q 27), .inl (cy 1, 11600, .inl g_oLong)), (o, .inr (12, mo q f6)), ((q 1), .inl (cy 0, 103000, .inl g_store)), ((q 21), .inl (cy 1, 2600, .inl g_iScript)), ((q 22), .inl (cy 1, 2600, .inl g_iLong)), ((q 68), .inl (cy 0, 104448, .inl f7)), ((q 69), .inl (cy 1, 408, .inl f8))] H := hP
        have hD : va_D A [((q 15), .inl (cy 1, 2200, .inl g_tIn)), ((q 16), .inl (cy 1, 2200, .inl g_tIns)), ((q 17), .inl (cy 1, 2200, .inl g_tOut)), ((q 18), .inl (cy 1, 2200, .inl g_tOuts)), ((q 19), .inl (cy 1, 2200, .inl g_tLock)), ((q 20), .inl (cy 1, 2600, .inl g_iAt)), ((q 23), .inl (cy 1, 2600, .inl g_iSequence)), ((q 25), .inl (cy 2, 11600, .inr (.inl g_oValue))), ((q 26), .inl (cy 1, 11600, .inl g_oScript)), ((q 27), .inl (cy 1, 11600, .inl g_oLong)), (o, .inr (12, mo q f6)), ((q 1), .inl (cy 0, 103000, .inl g_store)), ((q 21), .inl (cy 1, 2600, .inl g_iScript)), ((q 22), .inl (cy 1, 2600, .inl g_iLong)), ((q 68), .inl (cy 0, 104448, .inl f7)), ((q 69), .inl (cy 1, 408, .inl f8))] := hD
        refine lv_if_ne (tgt := 353) hx hb d_M_isSound_348 (by decide) (fun cx => ?_) (fun cx => ?_)
        · have hf := ifn cx hf
          exact wb_M_isSound_353 (fu := fu) F hk_12 _ _ _ _ _ _ _ _ _ _ _ hf _ _ _ (hP.sub (ws' := [(o, .inr (12, mo q f6)), ((q 1), .inl (cy 0, 103000, .inl g_store)), ((q 15), .inl (cy 1, 2200, .inl g_tIn)), ((q 16), .inl (cy 1, 2200, .inl g_tIns)), ((q 17), .inl (cy 1, 2200, .inl g_tOut)), ((q 18), .inl (cy 1, 2200, .inl g_tOuts)), ((q 19), .inl (cy 1, 2200, .inl g_tLock)), ((q 20), .inl (cy 1, 2600, .inl g_iAt)), ((q 21), .inl (cy 1, 2600, .inl g_iScript)), ((q 22), .inl (cy 1, 2600, .inl g_iLong)), ((q 23), .inl (cy 1, 2600, .inl g_iSequence)), ((q 25), .inl (cy 2, 11600, .inr (.inl g_oValue))), ((q 26), .inl (cy 1, 11600, .inl g_oScript)), ((q 27), .inl (cy 1, 11600, .inl g_oLong)), ((q 68), .inl (cy 0, 104448, .inl f7)), ((q 69), .inl (cy 1, 408, .inl f8))]) [10, 11, 0, 1, 2, 3, 4, 5, 12, 13, 6, 7, 8, 9, 14, 15] rfl) (hD.sub (ws' := [(o, .inr (12, mo q f6)), ((q 1), .inl (cy 0, 103000, .inl g_store)), ((q 15), .inl (cy 1, 2200, .inl g_tIn)), ((q 16), .inl (cy 1, 2200, .inl g_tIns)), ((q 17), .inl (cy 1, 2200, .inl g_tOut)), ((q 18), .inl (cy 1, 2200, .inl g_tOuts)), ((q 19), .inl (cy 1, 2200, .inl g_tLock)), ((q 20), .inl (cy 1, 2600, .inl g_iAt)), ((q 21), .inl (cy 1, 2600, .inl g_iScript)), ((q 22), .inl (cy 1, 2600, .inl g_iLong)), ((q 23), .inl (cy 1, 2600, .inl g_iSequence)), ((q 25), .inl (cy 2, 11600, .inr (.inl g_oValue))), ((q 26), .inl (cy 1, 11600, .inl g_oScript)), ((q 27), .inl (cy 1, 11600, .inl g_oLong)), ((q 68), .inl (cy 0, 104448, .inl f7)), ((q 69), .inl (cy 1, 408, .inl f8))]) [10, 11, 0, 1, 2, 3, 4, 5, 12, 13, 6, 7, 8, 9, 14, 15] (by decide) rfl) hS (lv_sub hl [0, 1, 2, 3, 4, 5, 6, 7] rfl)
        · have hf := ifp cx hf
          refine lv_iconst (v := 0) hx hb d_M_isSound_351 (by decide) ?_
          obtain rfl := Option.some.inj hf
          exact q_rz hx hb hr hlocks hK (hP.sub [10, 11, 0, 1, 2, 3, 4, 5, 12, 13, 6, 7, 8, 9, 14, 15] rfl) (hD.sub [10, 11, 0, 1, 2, 3, 4, 5, 12, 13, 6, 7, 8, 9, 14, 15] (by decide) rfl) hS (isb_n (v := 0) (by decide)) d_M_isSound_352
  · have hf := ifn cx hf
    refine lv_aload_n hx hb d_M_isSound_199 rfl (lv_at hl 0 rfl) ?_
    refine va_get (D := D) (ci := 12) (v := .ref (q 15)) (C := "CoinKeeperModel") (T := F_12) (N := 98) hx hb hts i_12 hown hK hP 0 rfl rfl 20 (by decide) (hts _ gw_1439) (fun _ h9 => h9) rfl d_M_isSound_200 ?_
    refine lv_iload hx hb d_M_isSound_203 (lv_at hl 6 rfl) ?_
    obtain ⟨hg, hf⟩ := gdp hf
    refine va_iald hx hb hK hP 2 1 rfl rfl (inb_in hg) d_M_isSound_205 ?_
    refine lv_topi (fun v9 ev => ?_)
    have hf := bn ev hf
    clear ev
    refine lv_istore (lv' := [(11, .int v9), (0, .ref o), (1, .int x1), (2, .int x2), (3, .int x3), (4, .int x4), (5, .int x5), (6, .int x6), (9, .int x9), (10, .int x10)]) hx hb d_M_isSound_206 hl (by decide) rfl (fun ls hl => ?_)
    exact w_M_isSound_208 F hk_12 hk_179 fu _ _ _ _ _ _ _ _ _ _ _ _ _ hf _ _ _ hP hD hS (lv_sub hl [1, 2, 3, 4, 5, 6, 7, 8, 9, 0] rfl)
theorem w_M_isSound_179 {p : Program} {l : Launch} {e : Env} {s : State} {m : MethodId} {args : Array Value} {below : List Frame} {meth : Method} {c : Code} {D : va_G} {cy : Nat → ClassId} {A : Nat → Prop} {ad : Nat → Nat} {o : Nat} {q : Nat → Nat} {g_store : Nat → Int32} {g_tIn : Nat → Int32} {g_tIns : Nat → Int32} {g_tOut : Nat → Int32} {g_tOuts : Nat → Int32} {g_tLock : Nat → Int32} {g_iAt : Nat → Int32} {g_iScript : Nat → Int32} {g_iLong : Nat → Int32} {g_iSequence : Nat → Int32} {g_oValue : Nat → Int64} {g_oScript : Nat → Int32} {g_oLong : Nat → Int32} {fu : Nat} {k_12 : Int32 → Int32 → Int32 → Int32 → Int32 → Int32 → (Nat → Int32) → (Nat → Int32) → (Nat → Int32) → Option (Int32 × (Nat → Int32) × (Nat → Int32) × (Nat → Int32))} (F : Fx p s m args meth c b_M_isSound 12 "CoinKeeperModel" "isSound" (some .boolean) D cy ad A) (hk_12 : I_M_isSound_12 p l e s m args below meth c D cy A ad o q g_store g_tIn g_tIns g_tOut g_tOuts g_tLock g_iAt g_iScript g_iLong g_iSequence g_oValue g_oScript g_oLong k_12) : ∀ n : Nat, I_M_isSound_179 p l e s m args below meth c D cy A ad o q g_store g_tIn g_tIns g_tOut g_tOuts g_tLock g_iAt g_iScript g_iLong g_iSequence g_oValue g_oScript g_oLong (x_M_isSound_179 fu g_store g_tIn g_tIns g_tOut g_tOuts g_tLock g_iAt g_iScript g_iLong g_iSequence g_oValue g_oScript g_oLong k_12 n)
  | 0 => fun _ _ _ _ _ _ _ _ _ _ _ _ hf => nomatch (show (none : Option (Int32 × (Nat → Int32) × (Nat → Int32) × (Nat → Int32))) = some _ from hf)
  | n + 1 => wb_M_isSound_179 F hk_12 (w_M_isSound_179 F hk_12 n)
set_option maxHeartbeats 8000000 in
set_option maxRecDepth 100000 in
theorem wb_M_isSound_57 {p : Program} {l : Launch} {e : Env} {s : State} {m : MethodId} {args : Array Value} {below : List Frame} {meth : Method} {c : Code} {D : va_G} {cy : Nat → ClassId} {A : Nat → Prop} {ad : Nat → Nat} {o : Nat} {q : Nat → Nat} {g_store : Nat → Int32} {g_tIn : Nat → Int32} {g_tIns : Nat → Int32} {g_tOut : Nat → Int32} {g_tOuts : Nat → Int32} {g_tLock : Nat → Int32} {g_iAt : Nat → Int32} {g_iScript : Nat → Int32} {g_iLong : Nat → Int32} {g_iSequence : Nat → Int32} {g_oValue : Nat → Int64} {g_oScript : Nat → Int32} {g_oLong : Nat → Int32} {fu : Nat} {k_12 : Int32 → Int32 → Int32 → Int32 → Int32 → Int32 → (Nat → Int32) → (Nat → Int32) → (Nat → Int32) → Option (Int32 × (Nat → Int32) × (Nat → Int32) × (Nat → Int32))} {k_57 : Int32 → Int32 → Int32 → Int32 → Int32 → Int32 → Int64 → Int32 → Int32 → (Nat → Int32) → (Nat → Int32) → (Nat → Int32) → Option (Int32 × (Nat → Int32) × (Nat → Int32) × (Nat → Int32))} (F : Fx p s m args meth c b_M_isSound 12 "CoinKeeperModel" "isSound" (some .boolean) D cy ad A) (hk_12 : I_M_isSound_12 p l e s m args below meth c D cy A ad o q g_store g_tIn g_tIns g_tOut g_tOuts g_tLock g_iAt g_iScript g_iLong g_iSequence g_oValue g_oScript g_oLong k_12) (hk_57 : I_M_isSound_57 p l e s m args below meth c D cy A ad o q g_store g_tIn g_tIns g_tOut g_tOuts g_tLock g_iAt g_iScript g_iLong g_iSequence g_oValue g_oScript g_oLong k_57) : I_M_isSound_57 p l e s m args below meth c D cy A ad o q g_store g_tIn g_tIns g_tOut g_tOuts g_tLock g_iAt g_iScript g_iLong g_iSequence g_oValue g_oScript g_oLong (xb_M_isSound_57 fu g_store g_tIn g_tIns g_tOut g_tOuts g_tLock g_iAt g_iScript g_iLong g_iSequence g_oValue g_oScript g_oLong k_12 k_57) := by
  obtain ⟨hx, hb, hr, hml, hown, hts, hlocks, hK, hA, hSt, hnm, hex⟩ := id F
  intro x1 x2 x3 x4 x5 x6 x7 x9 x10 u0 u1 u2 res hf H locs ls hP hD hS hl
  unfold xb_M_isSound_57 at hf
  refine lv_iload hx hb d_M_isSound_57 (lv_at hl 9 rfl) ?_
  refine lv_aload_n hx hb d_M_isSound_59 rfl (lv_at hl 0 rfl) ?_
  refine va_get (D := D) (ci := 12) (v := .ref (q 17)) (C := "CoinKeeperModel") (T := F_12) (N := 98) hx hb hts i_12 hown hK hP 0 rfl rfl 22 (by decide) (hts _ gw_1441) (fun _ h9 => h9) rfl d_M_isSound_60 ?_
  refine lv_iload hx hb d_M_isSound_63 (lv_at hl 6 rfl) ?_
  obtain ⟨hg, hf⟩ := gdp hf
  refine va_iald hx hb hK hP 4 1 rfl rfl (inb_in hg) d_M_isSound_65 ?_
  refine lv_topi (fun v1 ev => ?_)
  have hf := bn ev hf
  clear ev
  refine lv_aload_n hx hb d_M_isSound_66 rfl (lv_at hl 0 rfl) ?_
  refine va_get (D := D) (ci := 12) (v := .ref (q 18)) (C := "CoinKeeperModel") (T := F_12) (N := 98) hx hb hts i_12 hown hK hP 0 rfl rfl 23 (by decide) (hts _ gw_1442) (fun _ h9 => h9) rfl d_M_isSound_67 ?_
  refine lv_iload hx hb d_M_isSound_70 (lv_at hl 6 rfl) ?_
  obtain ⟨hg, hf⟩ := gdp hf
  refine va_iald hx hb hK hP 5 1 rfl rfl (inb_in hg) d_M_isSound_72 ?_
  refine lv_topi (fun v2 ev => ?_)
  have hf := bn ev hf
  clear ev
  refine lv_iadd hx hb d_M_isSound_73 ?_
  refine lv_icmp_ge (tgt := 170) hx hb d_M_isSound_74 (by decide) (fun cx => ?_) (fun cx => ?_)
  · have hf := ifp cx hf
    refine lv_aload_n hx hb d_M_isSound_170 rfl (lv_at hl 0 rfl) ?_
    refine va_get (D := D) (ci := 12) (v := .ref (q 15)) (C := "CoinKeeperModel") (T := F_12) (N := 98) hx hb hts i_12 hown hK hP 0 rfl rfl 20 (by decide) (hts _ gw_1439) (fun _ h9 => h9) rfl d_M_isSound_171 ?_
    refine lv_iload hx hb d_M_isSound_174 (lv_at hl 6 rfl) ?_
    obtain ⟨hg, hf⟩ := gdp hf
    refine va_iald hx hb hK hP 2 1 rfl rfl (inb_in hg) d_M_isSound_176 ?_
    refine lv_topi (fun v3 ev => ?_)
    have hf := bn ev hf
    clear ev
    refine lv_istore (lv' := [(10, .int v3), (0, .ref o), (1, .int x1), (2, .int x2), (3, .int x3), (4, .int x4), (5, .int x5), (6, .int x6), (7, .long x7), (9, .int x9)]) hx hb d_M_isSound_177 hl (by decide) rfl (fun ls hl => ?_)
    exact w_M_isSound_179 F hk_12 fu _ _ _ _ _ _ _ _ _ _ _ _ hf _ _ _ hP hD hS (lv_sub hl [1, 2, 3, 4, 5, 6, 7, 9, 0] rfl)
  · have hf := ifn cx hf
    refine lv_aload_n hx hb d_M_isSound_77 rfl (lv_at hl 0 rfl) ?_
    refine va_get (D := D) (ci := 12) (v := .ref (q 25)) (C := "CoinKeeperModel") (T := F_12) (N := 98) hx hb hts i_12 hown hK hP 0 rfl rfl 32 (by decide) (hts _ gw_1451) (fun _ h9 => h9) rfl d_M_isSound_78 ?_
    refine lv_iload hx hb d_M_isSound_81 (lv_at hl 9 rfl) ?_
    obtain ⟨hg, hf⟩ := gdp hf
    refine va_lald hx hb hK hP 11 2 rfl rfl (inb_in hg) d_M_isSound_83 ?_
    refine lv_topl (fun v4 ev => ?_)
    have hf := bn ev hf
    clear ev
    refine lv_lconst (v := 0) hx hb d_M_isSound_84 (by decide) ?_
    refine W.lcmp hx hb d_M_isSound_85 ?_
    refine lv_if_lt (tgt := 116) hx hb d_M_isSound_86 (by decide) (fun cx => ?_) (fun cx => ?_)
    · have hf := ifp cx hf
      refine lv_iconst (v := 0) hx hb d_M_isSound_116 (by decide) ?_
      obtain rfl := Option.some.inj hf
      exact q_rz hx hb hr hlocks hK hP hD hS (isb_n (v := 0) (by decide)) d_M_isSound_117
    · have hf := ifn cx hf
      refine lv_aload_n hx hb d_M_isSound_89 rfl (lv_at hl 0 rfl) ?_
      refine va_get (D := D) (ci := 12) (v := .ref (q 25)) (C := "CoinKeeperModel") (T := F_12) (N := 98) hx hb hts i_12 hown hK hP 0 rfl rfl 32 (by decide) (hts _ gw_1451) (fun _ h9 => h9) rfl d_M_isSound_90 ?_
      refine lv_iload hx hb d_M_isSound_93 (lv_at hl 9 rfl) ?_
      obtain ⟨hg, hf⟩ := gdp hf
      refine va_lald hx hb hK hP 11 2 rfl rfl (inb_in hg) d_M_isSound_95 ?_
      refine lv_topl (fun v5 ev => ?_)
      have hf := bn ev hf
      clear ev
      refine lv_ldc2 (v := 2100000000000000) hx hb hown (hts _ gw_1811) d_M_isSound_96 ?_
      refine W.lcmp hx hb d_M_isSound_99 ?_
      refine lv_if_gt (tgt := 116) hx hb d_M_isSound_100 (by decide) (fun cx => ?_) (fun cx => ?_)
      · have hf := ifp cx hf
        refine lv_iconst (v := 0) hx hb d_M_isSound_116 (by decide) ?_
        obtain rfl := Option.some.inj hf
        exact q_rz hx hb hr hlocks hK hP hD hS (isb_n (v := 0) (by decide)) d_M_isSound_117
      · have hf := ifn cx hf
        refine lv_aload_n hx hb d_M_isSound_103 rfl (lv_at hl 0 rfl) ?_
        refine va_get (D := D) (ci := 12) (v := .ref (q 27)) (C := "CoinKeeperModel") (T := F_12) (N := 98) hx hb hts i_12 hown hK hP 0 rfl rfl 34 (by decide) (hts _ gw_1453) (fun _ h9 => h9) rfl d_M_isSound_104 ?_
        refine lv_iload hx hb d_M_isSound_107 (lv_at hl 9 rfl) ?_
        obtain ⟨hg, hf⟩ := gdp hf
        refine va_iald hx hb hK hP 13 1 rfl rfl (inb_in hg) d_M_isSound_109 ?_
        refine lv_topi (fun v6 ev => ?_)
        have hf := bn ev hf
        clear ev
        refine lv_sipush (v := 1000) hx hb d_M_isSound_110 (by decide) ?_
        refine lv_icmp_le (tgt := 118) hx hb d_M_isSound_113 (by decide) (fun cx => ?_) (fun cx => ?_)
        · have hf := ifp cx hf
          refine lv_lload hx hb d_M_isSound_118 (lv_at hl 7 rfl) ?_
          refine lv_aload_n hx hb d_M_isSound_120 rfl (lv_at hl 0 rfl) ?_
          refine va_get (D := D) (ci := 12) (v := .ref (q 25)) (C := "CoinKeeperModel") (T := F_12) (N := 98) hx hb hts i_12 hown hK hP 0 rfl rfl 32 (by decide) (hts _ gw_1451) (fun _ h9 => h9) rfl d_M_isSound_121 ?_
          refine lv_iload hx hb d_M_isSound_124 (lv_at hl 9 rfl) ?_
          obtain ⟨hg, hf⟩ := gdp hf
          refine va_lald hx hb hK hP 11 2 rfl rfl (inb_in hg) d_M_isSound_126 ?_
          refine lv_topl (fun v7 ev => ?_)
          have hf := bn ev hf
          clear ev
          refine lv_ladd hx hb d_M_isSound_127 ?_
          refine lv_topl (fun v8 ev => ?_)
          have hf := bn ev hf
          clear ev
          refine lv_lstore (lv' := [(7, .long v8), (0, .ref o), (1, .int x1), (2, .int x2), (3, .int x3), (4, .int x4), (5, .int x5), (6, .int x6), (9, .int x9), (10, .int x10)]) hx hb d_M_isSound_128 hl (by decide) rfl (fun ls hl => ?_)
          refine lv_lload hx hb d_M_isSound_130 (lv_at hl 0 rfl) ?_
          refine lv_ldc2 (v := 2100000000000000) hx hb hown (hts _ gw_1811) d_M_isSound_132 ?_
          refine W.lcmp hx hb d_M_isSound_135 ?_
          refine lv_if_le (tgt := 141) hx hb d_M_isSound_136 (by decide) (fun cx => ?_) (fun cx => ?_)
          · have hf := ifp cx hf
            refine lv_iload hx hb d_M_isSound_141 (lv_at hl 6 rfl) ?_
            refine lv_aload_n hx hb d_M_isSound_143 rfl (lv_at hl 1 rfl) ?_
            refine lv_aload_n hx hb d_M_isSound_144 rfl (lv_at hl 1 rfl) ?_
            refine va_get (D := D) (ci := 12) (v := .ref (q 26)) (C := "CoinKeeperModel") (T := F_12) (N := 98) hx hb hts i_12 hown hK hP 0 rfl rfl 33 (by decide) (hts _ gw_1452) (fun _ h9 => h9) rfl d_M_isSound_145 ?_
            refine lv_iload hx hb d_M_isSound_148 (lv_at hl 9 rfl) ?_
            obtain ⟨hg, hf⟩ := gdp hf
            refine va_iald hx hb hK hP 12 1 rfl rfl (inb_in hg) d_M_isSound_150 ?_
            refine lv_topi (fun v9 ev => ?_)
            have hf := bn ev hf
            clear ev
            refine lv_aload_n hx hb d_M_isSound_151 rfl (lv_at hl 1 rfl) ?_
            refine va_get (D := D) (ci := 12) (v := .ref (q 27)) (C := "CoinKeeperModel") (T := F_12) (N := 98) hx hb hts i_12 hown hK hP 0 rfl rfl 34 (by decide) (hts _ gw_1453) (fun _ h9 => h9) rfl d_M_isSound_152 ?_
            refine lv_iload hx hb d_M_isSound_155 (lv_at hl 9 rfl) ?_
            obtain ⟨hg, hf⟩ := gdp hf
            refine va_iald hx hb hK hP 13 1 rfl rfl (inb_in hg) d_M_isSound_157 ?_
            refine lv_topi (fun v10 ev => ?_)
            have hf := bn ev hf
            clear ev
            obtain ⟨v11, hc, hf⟩ := bdp1 hf
            refine q_ai (wr := [((q 15), .inl (cy 1, 2200, .inl g_tIn)), ((q 16), .inl (cy 1, 2200, .inl g_tIns)), ((q 17), .inl (cy 1, 2200, .inl g_tOut)), ((q 18), .inl (cy 1, 2200, .inl g_tOuts)), ((q 19), .inl (cy 1, 2200, .inl g_tLock)), ((q 20), .inl (cy 1, 2600, .inl g_iAt)), ((q 21), .inl (cy 1, 2600, .inl g_iScript)), ((q 22), .inl (cy 1, 2600, .inl g_iLong)), ((q 23), .inl (cy 1, 2600, .inl g_iSequence)), ((q 25), .inl (cy 2, 11600, .inr (.inl g_oValue))), ((q 26), .inl (cy 1, 11600, .inl g_oScript)), ((q 27), .inl (cy 1, 11600, .inl g_oLong)), ((q 68), .inl (cy 0, 104448, .inl u1)), ((q 69), .inl (cy 1, 408, .inl u2))]) (va_runV (C := "CoinKeeperModel") (As := [.int v9, .int v10]) (rest := [.int x5]) ⟨hx, hb, hml, hown, hts⟩ (c_M_sigsOf l D cy ad fu o q u0 g_store v9 v10 _ hc H.size) ⟨q_cB hts gw_1815 gw_18 gw_1812 hdm_63 ⟨by decide, by decide⟩, hts _ gw_1814, hts _ gs_79⟩ (q_preV (q_pre (hP.sub [0, 1] rfl) (hD.sub [0, 1] (by decide) rfl) hK hSt hS (va_free hD hS hA [0, 1] rfl) _) (va_recv hK (hP.sub [0, 1] rfl) (ci := 12) (q0 := 0) rfl rfl)) rfl rfl hl.1 rfl (lv_room (Nat.le_of_ble_eq_true rfl)) d_M_isSound_158 ⟨Nat.le_of_ble_eq_true rfl, Nat.le_of_ble_eq_true rfl⟩) hP hD hS hA [0, 1] [2, 3, 4, 5, 6, 7, 8, 9, 10, 11, 12, 13, 14, 15] rfl rfl (by decide) (by decide) (fun H locs hP hD hS => ?_)
            clear hc
            have hP : va_P D classes [((q 15), .inl (cy 1, 2200, .inl g_tIn)), ((q 16), .inl (cy 1, 2200, .inl g_tIns)), ((q 17), .inl (cy 1, 2200, .inl g_tOut)), ((q 18), .inl (cy 1, 2200, .inl g_tOuts)), ((q 19), .inl (cy 1, 2200, .inl g_tLock)), ((q 20), .inl (cy 1, 2600, .inl g_iAt)), ((q 21), .inl (cy 1, 2600, .inl g_iScript)), ((q 22), .inl (cy 1, 2600, .inl g_iLong)), ((q 23), .inl (cy 1, 2600, .inl g_iSequence)), ((q 25), .inl (cy 2, 11600, .inr (.inl g_oValue))), ((q 26), .inl (cy 1, 11600, .inl g_oScript)), ((q 27), .inl (cy 1, 11600, .inl g_oLong)), ((q 68), .inl (cy 0, 104448, .inl u1)), ((q 69), .inl (cy 1, 408, .inl u2)), (o, .inr (12, mo q u0)), ((q 1), .inl (cy 0, 103000, .inl g_store))] H := hP
            have hD : va_D A [((q 15), .inl (cy 1, 2200, .inl g_tIn)), ((q 16), .inl (cy 1, 2200, .inl g_tIns)), ((q 17), .inl (cy 1, 2200, .inl g_tOut)), ((q 18), .inl (cy 1, 2200, .inl g_tOuts)), ((q 19), .inl (cy 1, 2200, .inl g_tLock)), ((q 20), .inl (cy 1, 2600, .inl g_iAt)), ((q 21), .inl (cy 1, 2600, .inl g_iScript)), ((q 22), .inl (cy 1, 2600, .inl g_iLong)), ((q 23), .inl (cy 1, 2600, .inl g_iSequence)), ((q 25), .inl (cy 2, 11600, .inr (.inl g_oValue))), ((q 26), .inl (cy 1, 11600, .inl g_oScript)), ((q 27), .inl (cy 1, 11600, .inl g_oLong)), ((q 68), .inl (cy 0, 104448, .inl u1)), ((q 69), .inl (cy 1, 408, .inl u2)), (o, .inr (12, mo q u0)), ((q 1), .inl (cy 0, 103000, .inl g_store))] := hD
            refine lv_iadd hx hb d_M_isSound_161 ?_
            refine lv_topi (fun v12 ev => ?_)
            have hf := bn ev hf
            clear ev
            refine lv_istore (lv' := [(5, .int v12), (7, .long v8), (0, .ref o), (1, .int x1), (2, .int x2), (3, .int x3), (4, .int x4), (6, .int x6), (9, .int x9), (10, .int x10)]) hx hb d_M_isSound_162 hl (by decide) rfl (fun ls hl => ?_)
            obtain ⟨v13, ev, hf⟩ := bne hf
            refine lv_iinc (v := v13) (lv' := [(10, .int v13), (5, .int v12), (7, .long v8), (0, .ref o), (1, .int x1), (2, .int x2), (3, .int x3), (4, .int x4), (6, .int x6), (9, .int x9)]) hx hb d_M_isSound_164 hl (k := 9) rfl (by rw [ev]; rfl) (by decide) rfl (fun ls hl => ?_)
            clear ev
            refine lv_goto (tgt := 57) hx hb d_M_isSound_167 (by decide) ?_
            exact hk_57 _ _ _ _ _ _ _ _ _ _ _ _ _ hf _ _ _ (hP.sub (ws' := [(o, .inr (12, mo q u0)), ((q 1), .inl (cy 0, 103000, .inl g_store)), ((q 15), .inl (cy 1, 2200, .inl g_tIn)), ((q 16), .inl (cy 1, 2200, .inl g_tIns)), ((q 17), .inl (cy 1, 2200, .inl g_tOut)), ((q 18), .inl (cy 1, 2200, .inl g_tOuts)), ((q 19), .inl (cy 1, 2200, .inl g_tLock)), ((q 20), .inl (cy 1, 2600, .inl g_iAt)), ((q 21), .inl (cy 1, 2600, .inl g_iScript)), ((q 22), .inl (cy 1, 2600, .inl g_iLong)), ((q 23), .inl (cy 1, 2600, .inl g_iSequence)), ((q 25), .inl (cy 2, 11600, .inr (.inl g_oValue))), ((q 26), .inl (cy 1, 11600, .inl g_oScript)), ((q 27), .inl (cy 1, 11600, .inl g_oLong)), ((q 68), .inl (cy 0, 104448, .inl u1)), ((q 69), .inl (cy 1, 408, .inl u2))]) [14, 15, 0, 1, 2, 3, 4, 5, 6, 7, 8, 9, 10, 11, 12, 13] rfl) (hD.sub (ws' := [(o, .inr (12, mo q u0)), ((q 1), .inl (cy 0, 103000, .inl g_store)), ((q 15), .inl (cy 1, 2200, .inl g_tIn)), ((q 16), .inl (cy 1, 2200, .inl g_tIns)), ((q 17), .inl (cy 1, 2200, .inl g_tOut)), ((q 18), .inl (cy 1, 2200, .inl g_tOuts)), ((q 19), .inl (cy 1, 2200, .inl g_tLock)), ((q 20), .inl (cy 1, 2600, .inl g_iAt)), ((q 21), .inl (cy 1, 2600, .inl g_iScript)), ((q 22), .inl (cy 1, 2600, .inl g_iLong)), ((q 23), .inl (cy 1, 2600, .inl g_iSequence)), ((q 25), .inl (cy 2, 11600, .inr (.inl g_oValue))), ((q 26), .inl (cy 1, 11600, .inl g_oScript)), ((q 27), .inl (cy 1, 11600, .inl g_oLong)), ((q 68), .inl (cy 0, 104448, .inl u1)), ((q 69), .inl (cy 1, 408, .inl u2))]) [14, 15, 0, 1, 2, 3, 4, 5, 6, 7, 8, 9, 10, 11, 12, 13] (by decide) rfl) hS (lv_sub hl [3, 4, 5, 6, 7, 1, 8, 2, 9, 0] rfl)
          · have hf := ifn cx hf
            refine lv_iconst (v := 0) hx hb d_M_isSound_139 (by decide) ?_
            obtain rfl := Option.some.inj hf
            exact q_rz hx hb hr hlocks hK hP hD hS (isb_n (v := 0) (by decide)) d_M_isSound_140
        · have hf := ifn cx hf
          refine lv_iconst (v := 0) hx hb d_M_isSound_116 (by decide) ?_
          obtain rfl := Option.some.inj hf
          exact q_rz hx hb hr hlocks hK hP hD hS (isb_n (v := 0) (by decide)) d_M_isSound_117
theorem w_M_isSound_57 {p : Program} {l : Launch} {e : Env} {s : State} {m : MethodId} {args : Array Value} {below : List Frame} {meth : Method} {c : Code} {D : va_G} {cy : Nat → ClassId} {A : Nat → Prop} {ad : Nat → Nat} {o : Nat} {q : Nat → Nat} {g_store : Nat → Int32} {g_tIn : Nat → Int32} {g_tIns : Nat → Int32} {g_tOut : Nat → Int32} {g_tOuts : Nat → Int32} {g_tLock : Nat → Int32} {g_iAt : Nat → Int32} {g_iScript : Nat → Int32} {g_iLong : Nat → Int32} {g_iSequence : Nat → Int32} {g_oValue : Nat → Int64} {g_oScript : Nat → Int32} {g_oLong : Nat → Int32} {fu : Nat} {k_12 : Int32 → Int32 → Int32 → Int32 → Int32 → Int32 → (Nat → Int32) → (Nat → Int32) → (Nat → Int32) → Option (Int32 × (Nat → Int32) × (Nat → Int32) × (Nat → Int32))} (F : Fx p s m args meth c b_M_isSound 12 "CoinKeeperModel" "isSound" (some .boolean) D cy ad A) (hk_12 : I_M_isSound_12 p l e s m args below meth c D cy A ad o q g_store g_tIn g_tIns g_tOut g_tOuts g_tLock g_iAt g_iScript g_iLong g_iSequence g_oValue g_oScript g_oLong k_12) : ∀ n : Nat, I_M_isSound_57 p l e s m args below meth c D cy A ad o q g_store g_tIn g_tIns g_tOut g_tOuts g_tLock g_iAt g_iScript g_iLong g_iSequence g_oValue g_oScript g_oLong (x_M_isSound_57 fu g_store g_tIn g_tIns g_tOut g_tOuts g_tLock g_iAt g_iScript g_iLong g_iSequence g_oValue g_oScript g_oLong k_12 n)
  | 0 => fun _ _ _ _ _ _ _ _ _ _ _ _ _ hf => nomatch (show (none : Option (Int32 × (Nat → Int32) × (Nat → Int32) × (Nat → Int32))) = some _ from hf)
  | n + 1 => wb_M_isSound_57 F hk_12 (w_M_isSound_57 F hk_12 n)
set_option maxHeartbeats 8000000 in
set_option maxRecDepth 100000 in
theorem wb_M_isSound_12 {p : Program} {l : Launch} {e : Env} {s : State} {m : MethodId} {args : Array Value} {below : List Frame} {meth : Method} {c : Code} {D : va_G} {cy : Nat → ClassId} {A : Nat → Prop} {ad : Nat → Nat} {o : Nat} {q : Nat → Nat} {g_store : Nat → Int32} {g_tIn : Nat → Int32} {g_tIns : Nat → Int32} {g_tOut : Nat → Int32} {g_tOuts : Nat → Int32} {g_tLock : Nat → Int32} {g_iAt : Nat → Int32} {g_iScript : Nat → Int32} {g_iLong : Nat → Int32} {g_iSequence : Nat → Int32} {g_oValue : Nat → Int64} {g_oScript : Nat → Int32} {g_oLong : Nat → Int32} {fu : Nat} {k_12 : Int32 → Int32 → Int32 → Int32 → Int32 → Int32 → (Nat → Int32) → (Nat → Int32) → (Nat → Int32) → Option (Int32 × (Nat → Int32) × (Nat → Int32) × (Nat → Int32))} (F : Fx p s m args meth c b_M_isSound 12 "CoinKeeperModel" "isSound" (some .boolean) D cy ad A) (hk_12 : I_M_isSound_12 p l e s m args below meth c D cy A ad o q g_store g_tIn g_tIns g_tOut g_tOuts g_tLock g_iAt g_iScript g_iLong g_iSequence g_oValue g_oScript g_oLong k_12) : I_M_isSound_12 p l e s m args below meth c D cy A ad o q g_store g_tIn g_tIns g_tOut g_tOuts g_tLock g_iAt g_iScript g_iLong g_iSequence g_oValue g_oScript g_oLong (xb_M_isSound_12 fu g_store g_tIn g_tIns g_tOut g_tOuts g_tLock g_iAt g_iScript g_iLong g_iSequence g_oValue g_oScript g_oLong k_12) := by
  obtain ⟨hx, hb, hr, hml, hown, hts, hlocks, hK, hA, hSt, hnm, hex⟩ := id F
  intro x1 x2 x3 x4 x5 x6 u0 u1 u2 res hf H locs ls hP hD hS hl
  unfold xb_M_isSound_12 at hf
  refine lv_iload hx hb d_M_isSound_12 (lv_at hl 6 rfl) ?_
  refine lv_iload_n hx hb d_M_isSound_14 rfl (lv_at hl 1 rfl) ?_
  refine lv_iload_n hx hb d_M_isSound_15 rfl (lv_at hl 2 rfl) ?_
  refine lv_iadd hx hb d_M_isSound_16 ?_
  refine lv_icmp_ge (tgt := 414) hx hb d_M_isSound_17 (by decide) (fun cx => ?_) (fun cx => ?_)
  · have hf := ifp cx hf
    refine lv_iload hx hb d_M_isSound_414 (lv_at hl 5 rfl) ?_
    refine lv_bipush (v := 40) hx hb d_M_isSound_416 (by decide) ?_
    refine lv_icmp_gt (tgt := 425) hx hb d_M_isSound_418 (by decide) (fun cx => ?_) (fun cx => ?_)
    · have hf := ifp cx hf
      refine lv_iconst (v := 0) hx hb d_M_isSound_425 (by decide) ?_
      obtain rfl := Option.some.inj hf
      exact q_rz hx hb hr hlocks hK hP hD hS (isb_n (v := 0) (by decide)) d_M_isSound_426
    · have hf := ifn cx hf
      refine lv_iconst (v := 1) hx hb d_M_isSound_421 (by decide) ?_
      refine lv_goto (tgt := 426) hx hb d_M_isSound_422 (by decide) ?_
      obtain rfl := Option.some.inj hf
      exact q_rz hx hb hr hlocks hK hP hD hS (isb_n (v := 1) (by decide)) d_M_isSound_426
  · have hf := ifn cx hf
    refine lv_aload_n hx hb d_M_isSound_20 rfl (lv_at hl 0 rfl) ?_
    refine va_get (D := D) (ci := 12) (v := .ref (q 16)) (C := "CoinKeeperModel") (T := F_12) (N := 98) hx hb hts i_12 hown hK hP 0 rfl rfl 21 (by decide) (hts _ gw_1440) (fun _ h9 => h9) rfl d_M_isSound_21 ?_
    refine lv_iload hx hb d_M_isSound_24 (lv_at hl 6 rfl) ?_
    obtain ⟨hg, hf⟩ := gdp hf
    refine va_iald hx hb hK hP 3 1 rfl rfl (inb_in hg) d_M_isSound_26 ?_
    refine lv_topi (fun v1 ev => ?_)
    have hf := bn ev hf
    clear ev
    refine lv_if_eq (tgt := 40) hx hb d_M_isSound_27 (by decide) (fun cx => ?_) (fun cx => ?_)
    · have hf := ifp cx hf
      refine lv_iconst (v := 0) hx hb d_M_isSound_40 (by decide) ?_
      obtain rfl := Option.some.inj hf
      exact q_rz hx hb hr hlocks hK hP hD hS (isb_n (v := 0) (by decide)) d_M_isSound_41
    · have hf := ifn cx hf
      refine lv_aload_n hx hb d_M_isSound_30 rfl (lv_at hl 0 rfl) ?_
      refine va_get (D := D) (ci := 12) (v := .ref (q 18)) (C := "CoinKeeperModel") (T := F_12) (N := 98) hx hb hts i_12 hown hK hP 0 rfl rfl 23 (by decide) (hts _ gw_1442) (fun _ h9 => h9) rfl d_M_isSound_31 ?_
      refine lv_iload hx hb d_M_isSound_34 (lv_at hl 6 rfl) ?_
      obtain ⟨hg, hf⟩ := gdp hf
      refine va_iald hx hb hK hP 5 1 rfl rfl (inb_in hg) d_M_isSound_36 ?_
      refine lv_topi (fun v2 ev => ?_)
      have hf := bn ev hf
      clear ev
      refine lv_if_ne (tgt := 42) hx hb d_M_isSound_37 (by decide) (fun cx => ?_) (fun cx => ?_)
      · have hf := ifn cx hf
        refine lv_lconst (v := 0) hx hb d_M_isSound_42 (by decide) ?_
        refine lv_lstore (lv' := [(7, .long (0 : Int64)), (0, .ref o), (1, .int x1), (2, .int x2), (3, .int x3), (4, .int x4), (5, .int x5), (6, .int x6)]) hx hb d_M_isSound_43 hl (by decide) rfl (fun ls hl => ?_)
        refine lv_iconst (v := 1) hx hb d_M_isSound_45 (by decide) ?_
        refine lv_istore (lv' := [(9, .int (1 : Int32)), (7, .long (0 : Int64)), (0, .ref o), (1, .int x1), (2, .int x2), (3, .int x3), (4, .int x4), (5, .int x5), (6, .int x6)]) hx hb d_M_isSound_46 hl (by decide) rfl (fun ls hl => ?_)
        refine lv_aload_n hx hb d_M_isSound_48 rfl (lv_at hl 2 rfl) ?_
        refine va_get (D := D) (ci := 12) (v := .ref (q 17)) (C := "CoinKeeperModel") (T := F_12) (N := 98) hx hb hts i_12 hown hK hP 0 rfl rfl 22 (by decide) (hts _ gw_1441) (fun _ h9 => h9) rfl d_M_isSound_49 ?_
        refine lv_iload hx hb d_M_isSound_52 (lv_at hl 8 rfl) ?_
        obtain ⟨hg, hf⟩ := gdp hf
        refine va_iald hx hb hK hP 4 1 rfl rfl (inb_in hg) d_M_isSound_54 ?_
        refine lv_topi (fun v3 ev => ?_)
        have hf := bn ev hf
        clear ev
        refine lv_istore (lv' := [(10, .int v3), (9, .int (1 : Int32)), (7, .long (0 : Int64)), (0, .ref o), (1, .int x1), (2, .int x2), (3, .int x3), (4, .int x4), (5, .int x5), (6, .int x6)]) hx hb d_M_isSound_55 hl (by decide) rfl (fun ls hl => ?_)
        exact w_M_isSound_57 F hk_12 fu _ _ _ _ _ _ _ _ _ _ _ _ _ hf _ _ _ hP hD hS (lv_sub hl [3, 4, 5, 6, 7, 8, 9, 2, 1, 0] rfl)
      · have hf := ifp cx hf
        refine lv_iconst (v := 0) hx hb d_M_isSound_40 (by decide) ?_
        obtain rfl := Option.some.inj hf
        exact q_rz hx hb hr hlocks hK hP hD hS (isb_n (v := 0) (by decide)) d_M_isSound_41
theorem w_M_isSound_12 {p : Program} {l : Launch} {e : Env} {s : State} {m : MethodId} {args : Array Value} {below : List Frame} {meth : Method} {c : Code} {D : va_G} {cy : Nat → ClassId} {A : Nat → Prop} {ad : Nat → Nat} {o : Nat} {q : Nat → Nat} {g_store : Nat → Int32} {g_tIn : Nat → Int32} {g_tIns : Nat → Int32} {g_tOut : Nat → Int32} {g_tOuts : Nat → Int32} {g_tLock : Nat → Int32} {g_iAt : Nat → Int32} {g_iScript : Nat → Int32} {g_iLong : Nat → Int32} {g_iSequence : Nat → Int32} {g_oValue : Nat → Int64} {g_oScript : Nat → Int32} {g_oLong : Nat → Int32} {fu : Nat} (F : Fx p s m args meth c b_M_isSound 12 "CoinKeeperModel" "isSound" (some .boolean) D cy ad A) : ∀ n : Nat, I_M_isSound_12 p l e s m args below meth c D cy A ad o q g_store g_tIn g_tIns g_tOut g_tOuts g_tLock g_iAt g_iScript g_iLong g_iSequence g_oValue g_oScript g_oLong (x_M_isSound_12 fu g_store g_tIn g_tIns g_tOut g_tOuts g_tLock g_iAt g_iScript g_iLong g_iSequence g_oValue g_oScript g_oLong n)
  | 0 => fun _ _ _ _ _ _ _ _ _ _ hf => nomatch (show (none : Option (Int32 × (Nat → Int32) × (Nat → Int32) × (Nat → Int32))) = some _ from hf)
  | n + 1 => wb_M_isSound_12 F (w_M_isSound_12 F n)
set_option maxHeartbeats 8000000 in
set_option maxRecDepth 100000 in
theorem we_M_isSound {p : Program} {l : Launch} {e : Env} {s : State} {m : MethodId} {args : Array Value} {below : List Frame} {meth : Method} {c : Code} {D : va_G} {cy : Nat → ClassId} {A : Nat → Prop} {ad : Nat → Nat} {o : Nat} {q : Nat → Nat} {g_store : Nat → Int32} {g_tIn : Nat → Int32} {g_tIns : Nat → Int32} {g_tOut : Nat → Int32} {g_tOuts : Nat → Int32} {g_tLock : Nat → Int32} {g_iAt : Nat → Int32} {g_iScript : Nat → Int32} {g_iLong : Nat → Int32} {g_iSequence : Nat → Int32} {g_oValue : Nat → Int64} {g_oScript : Nat → Int32} {g_oLong : Nat → Int32} {fu : Nat} (F : Fx p s m args meth c b_M_isSound 12 "CoinKeeperModel" "isSound" (some .boolean) D cy ad A) : I_M_isSound_e p l e s m args below meth c D cy A ad o q g_store g_tIn g_tIns g_tOut g_tOuts g_tLock g_iAt g_iScript g_iLong g_iSequence g_oValue g_oScript g_oLong (x_M_isSound fu g_store g_tIn g_tIns g_tOut g_tOuts g_tLock g_iAt g_iScript g_iLong g_iSequence g_oValue g_oScript g_oLong) := by
  obtain ⟨hx, hb, hr, hml, hown, hts, hlocks, hK, hA, hSt, hnm, hex⟩ := id F
  intro a1 a2 a3 a4 u0 u1 u2 res hf H locs ls hP hD hS hl
  unfold x_M_isSound at hf
  refine lv_iload_n hx hb d_M_isSound_0 rfl (lv_at hl 2 rfl) ?_
  refine lv_if_ne (tgt := 6) hx hb d_M_isSound_1 (by decide) (fun cx => ?_) (fun cx => ?_)
  · have hf := ifn cx hf
    refine lv_iconst (v := 0) hx hb d_M_isSound_6 (by decide) ?_
    refine lv_istore (lv' := [(5, .int (0 : Int32)), (0, .ref o), (1, .int a1), (2, .int a2), (3, .int a3), (4, .int a4)]) hx hb d_M_isSound_7 hl (by decide) rfl (fun ls hl => ?_)
    refine lv_iload_n hx hb d_M_isSound_9 rfl (lv_at hl 2 rfl) ?_
    refine lv_istore (lv' := [(6, .int a1), (5, .int (0 : Int32)), (0, .ref o), (1, .int a1), (2, .int a2), (3, .int a3), (4, .int a4)]) hx hb d_M_isSound_10 hl (by decide) rfl (fun ls hl => ?_)
    exact w_M_isSound_12 F fu _ _ _ _ _ _ _ _ _ _ hf _ _ _ hP hD hS (lv_sub hl [2, 3, 4, 5, 6, 1, 0] rfl)
  · have hf := ifp cx hf
    refine lv_iconst (v := 0) hx hb d_M_isSound_4 (by decide) ?_
    obtain rfl := Option.some.inj hf
    exact q_rz hx hb hr hlocks hK hP hD hS (isb_n (v := 0) (by decide)) d_M_isSound_5
theorem c_M_isSound (l : Launch) (D : va_G) (cy : Nat → ClassId) (ad : Nat → Nat) (fu : Nat) (o : Nat) (q : Nat → Nat) (g_store : Nat → Int32) (g_tIn : Nat → Int32) (g_tIns : Nat → Int32) (g_tOut : Nat → Int32) (g_tOuts : Nat → Int32) (g_tLock : Nat → Int32) (g_iAt : Nat → Int32) (g_iScript : Nat → Int32) (g_iLong : Nat → Int32) (g_iSequence : Nat → Int32) (g_oValue : Nat → Int64) (g_oScript : Nat → Int32) (g_oLong : Nat → Int32) (a1 : Int32) (a2 : Int32) (a3 : Int32) (a4 : Int32) (u0 : Nat → Int32) (u1 : Nat → Int32) (u2 : Nat → Int32) (res : Int32 × (Nat → Int32) × (Nat → Int32) × (Nat → Int32)) (hf : x_M_isSound fu g_store g_tIn g_tIns g_tOut g_tOuts g_tLock g_iAt g_iScript g_iLong g_iSequence g_oValue g_oScript g_oLong a1 a2 a3 a4 u0 u1 u2 = some res) (sz : Nat) : Met l ({ cls := "CoinKeeperModel", name := "isSound", desc := "(IIII)Z" } : Jvm.MethodName) (.code ({ cls := "CoinKeeperModel", name := "isSound", desc := "(IIII)Z" } : Jvm.MethodName) b_M_isSound 12 (some .boolean) :: gw) rm_M_isSound (va_Pc [.ref o, .int a1, .int a2, .int a3, .int a4] (Pr D cy ad [(o, .inr (12, mo q u0)), ((q 1), .inl (cy 0, 103000, .inl g_store)), ((q 15), .inl (cy 1, 2200, .inl g_tIn)), ((q 16), .inl (cy 1, 2200, .inl g_tIns)), ((q 17), .inl (cy 1, 2200, .inl g_tOut)), ((q 18), .inl (cy 1, 2200, .inl g_tOuts)), ((q 19), .inl (cy 1, 2200, .inl g_tLock)), ((q 20), .inl (cy 1, 2600, .inl g_iAt)), ((q 21), .inl (cy 1, 2600, .inl g_iScript)), ((q 22), .inl (cy 1, 2600, .inl g_iLong)), ((q 23), .inl (cy 1, 2600, .inl g_iSequence)), ((q 25), .inl (cy 2, 11600, .inr (.inl g_oValue))), ((q 26), .inl (cy 1, 11600, .inl g_oScript)), ((q 27), .inl (cy 1, 11600, .inl g_oLong)), ((q 68), .inl (cy 0, 104448, .inl u1)), ((q 69), .inl (cy 1, 408, .inl u2))] sz)) (q_M_isSound D cy (va_A [(o, .inr (12, mo q u0)), ((q 1), .inl (cy 0, 103000, .inl g_store)), ((q 15), .inl (cy 1, 2200, .inl g_tIn)), ((q 16), .inl (cy 1, 2200, .inl g_tIns)), ((q 17), .inl (cy 1, 2200, .inl g_tOut)), ((q 18), .inl (cy 1, 2200, .inl g_tOuts)), ((q 19), .inl (cy 1, 2200, .inl g_tLock)), ((q 20), .inl (cy 1, 2600, .inl g_iAt)), ((q 21), .inl (cy 1, 2600, .inl g_iScript)), ((q 22), .inl (cy 1, 2600, .inl g_iLong)), ((q 23), .inl (cy 1, 2600, .inl g_iSequence)), ((q 25), .inl (cy 2, 11600, .inr (.inl g_oValue))), ((q 26), .inl (cy 1, 11600, .inl g_oScript)), ((q 27), .inl (cy 1, 11600, .inl g_oLong)), ((q 68), .inl (cy 0, 104448, .inl u1)), ((q 69), .inl (cy 1, 408, .inl u2))] sz) o q g_store g_tIn g_tIns g_tOut g_tOuts g_tLock g_iAt g_iScript g_iLong g_iSequence g_oValue g_oScript g_oLong res) 0 0 (va_A [(o, .inr (12, mo q u0)), ((q 1), .inl (cy 0, 103000, .inl g_store)), ((q 15), .inl (cy 1, 2200, .inl g_tIn)), ((q 16), .inl (cy 1, 2200, .inl g_tIns)), ((q 17), .inl (cy 1, 2200, .inl g_tOut)), ((q 18), .inl (cy 1, 2200, .inl g_tOuts)), ((q 19), .inl (cy 1, 2200, .inl g_tLock)), ((q 20), .inl (cy 1, 2600, .inl g_iAt)), ((q 21), .inl (cy 1, 2600, .inl g_iScript)), ((q 22), .inl (cy 1, 2600, .inl g_iLong)), ((q 23), .inl (cy 1, 2600, .inl g_iSequence)), ((q 25), .inl (cy 2, 11600, .inr (.inl g_oValue))), ((q 26), .inl (cy 1, 11600, .inl g_oScript)), ((q 27), .inl (cy 1, 11600, .inl g_oLong)), ((q 68), .inl (cy 0, 104448, .inl u1)), ((q 69), .inl (cy 1, 408, .inl u2))] sz) :=
  q_met (Qc := fun A => q_M_isSound D cy A o q g_store g_tIn g_tIns g_tOut g_tOuts g_tLock g_iAt g_iScript g_iLong g_iSequence g_oValue g_oScript g_oLong res) (by decide) rfl rfl (Nat.le_of_ble_eq_true rfl) (fun p e s m below meth c ls F hP hD hS hl => we_M_isSound (fu := fu) F a1 a2 a3 a4 u0 u1 u2 res hf _ _ _ hP hD hS hl) sz
abbrev rm_M_add : Room := { frames := 0, cells := 0, slots := 0, locals := 0 }
abbrev q_M_add (D : va_G) (cy : Nat → ClassId) (A : Nat → Prop) (b0 : Nat) (b1 : Nat) (b2 : Nat) (h1 : Nat → Int32) (h2 : Nat → Int32) (res : Int32 × (Nat → Int32)) : Array Value → State → Outcome → State → Prop := va_Qi (fun r' (_ : Unit) => r' = res.1) (fun _ t => Po D cy A [(b0, .inl (cy 1, 8, .inl res.2)), (b1, .inl (cy 1, 8, .inl h1)), (b2, .inl (cy 1, 8, .inl h2))] t) A
def I_M_add_5 (p : Program) (l : Launch) (e : Env) (s : State) (m : MethodId) (args : Array Value) (below : List Frame) (meth : Method) (c : Code) (D : va_G) (cy : Nat → ClassId) (A : Nat → Prop) (ad : Nat → Nat) (b0 : Nat) (b1 : Nat) (b2 : Nat) (h1 : Nat → Int32) (h2 : Nat → Int32) (k : Int64 → Int32 → (Nat → Int32) → Option (Int32 × (Nat → Int32))) : Prop :=
  ∀ (x3 : Int64) (x5 : Int32) (u0 : Nat → Int32) (res : Int32 × (Nat → Int32)), k x3 x5 u0 = some res → ∀ (H : Heap) (locs : List Loc) (ls : Array Slot), va_P D classes [(b0, .inl (cy 1, 8, .inl u0)), (b1, .inl (cy 1, 8, .inl h1)), (b2, .inl (cy 1, 8, .inl h2))] H → va_D A [(b0, .inl (cy 1, 8, .inl u0)), (b1, .inl (cy 1, 8, .inl h1)), (b2, .inl (cy 1, 8, .inl h2))] → va_S A s.heap H locs → lv_has ls 6 [(0, .ref b0), (1, .ref b1), (2, .ref b2), (3, .long x3), (5, .int x5)] → W p l e rm_M_add s m args below meth c H locs 0 0 (MQ below (q_M_add D cy A b0 b1 b2 h1 h2 res) args s 0 0 A) (F0 m 5 ls [])
def I_M_add_e (p : Program) (l : Launch) (e : Env) (s : State) (m : MethodId) (args : Array Value) (below : List Frame) (meth : Method) (c : Code) (D : va_G) (cy : Nat → ClassId) (A : Nat → Prop) (ad : Nat → Nat) (b0 : Nat) (b1 : Nat) (b2 : Nat) (h1 : Nat → Int32) (h2 : Nat → Int32) (k : (Nat → Int32) → Option (Int32 × (Nat → Int32))) : Prop :=
  ∀ (u0 : Nat → Int32) (res : Int32 × (Nat → Int32)), k u0 = some res → ∀ (H : Heap) (locs : List Loc) (ls : Array Slot), va_P D classes [(b0, .inl (cy 1, 8, .inl u0)), (b1, .inl (cy 1, 8, .inl h1)), (b2, .inl (cy 1, 8, .inl h2))] H → va_D A [(b0, .inl (cy 1, 8, .inl u0)), (b1, .inl (cy 1, 8, .inl h1)), (b2, .inl (cy 1, 8, .inl h2))] → va_S A s.heap H locs → lv_has ls 6 [(0, .ref b0), (1, .ref b1), (2, .ref b2)] → W p l e rm_M_add s m args below meth c H locs 0 0 (MQ below (q_M_add D cy A b0 b1 b2 h1 h2 res) args s 0 0 A) (F0 m 0 ls [])
set_option maxHeartbeats 8000000 in
set_option maxRecDepth 100000 in
theorem wb_M_add_5 {p : Program} {l : Launch} {e : Env} {s : State} {m : MethodId} {args : Array Value} {below : List Frame} {meth : Method} {c : Code} {D : va_G} {cy : Nat → ClassId} {A : Nat → Prop} {ad : Nat → Nat} {b0 : Nat} {b1 : Nat} {b2 : Nat} {h1 : Nat → Int32} {h2 : Nat → Int32} {fu : Nat} {k_5 : Int64 → Int32 → (Nat → Int32) → Option (Int32 × (Nat → Int32))} (F : Fx p s m args meth c b_M_add 6 "CoinKeeperModel" "add" (some .int) D cy ad A) (hk_5 : I_M_add_5 p l e s m args below meth c D cy A ad b0 b1 b2 h1 h2 k_5) : I_M_add_5 p l e s m args below meth c D cy A ad b0 b1 b2 h1 h2 (xb_M_add_5 fu h1 h2 k_5) := by
  obtain ⟨hx, hb, hr, hml, hown, hts, hlocks, hK, hA, hSt, hnm, hex⟩ := id F
  intro x3 x5 u0 res hf H locs ls hP hD hS hl
  unfold xb_M_add_5 at hf
  refine lv_iload hx hb d_M_add_5 (lv_at hl 4 rfl) ?_
  refine lv_bipush (v := 8) hx hb d_M_add_7 (by decide) ?_
  refine lv_icmp_ge (tgt := 51) hx hb d_M_add_9 (by decide) (fun cx => ?_) (fun cx => ?_)
  · have hf := ifp cx hf
    refine lv_lload_n hx hb d_M_add_51 rfl (lv_at hl 3 rfl) ?_
    refine lv_l2i hx hb d_M_add_52 rfl ?_
    refine lv_topi (fun v1 ev => ?_)
    have hf := bn ev hf
    clear ev
    obtain rfl := Option.some.inj hf
    exact q_ri hx hb hr hlocks hK hP hD hS d_M_add_53
  · have hf := ifn cx hf
    refine lv_lload_n hx hb d_M_add_12 rfl (lv_at hl 3 rfl) ?_
    refine lv_aload_n hx hb d_M_add_13 rfl (lv_at hl 1 rfl) ?_
    refine lv_iload hx hb d_M_add_14 (lv_at hl 4 rfl) ?_
    obtain ⟨hg, hf⟩ := gdp hf
    refine va_iald hx hb hK hP 1 1 rfl rfl (inb_in hg) d_M_add_16 ?_
    refine lv_topi (fun v2 ev => ?_)
    have hf := bn ev hf
    clear ev
    refine lv_i2l hx hb d_M_add_17 rfl ?_
    refine lv_topl (fun v3 ev => ?_)
    have hf := bn ev hf
    clear ev
    refine lv_ldc2 (v := 4294967295) hx hb hown (hts _ gw_1390) d_M_add_18 ?_
    refine lv_land hx hb d_M_add_21 ?_
    refine lv_topl (fun v4 ev => ?_)
    have hf := bn ev hf
    clear ev
    refine lv_aload_n hx hb d_M_add_22 rfl (lv_at hl 2 rfl) ?_
    refine lv_iload hx hb d_M_add_23 (lv_at hl 4 rfl) ?_
    obtain ⟨hg, hf⟩ := gdp hf
    refine va_iald hx hb hK hP 2 1 rfl rfl (inb_in hg) d_M_add_25 ?_
    refine lv_topi (fun v5 ev => ?_)
    have hf := bn ev hf
    clear ev
    refine lv_i2l hx hb d_M_add_26 rfl ?_
    refine lv_topl (fun v6 ev => ?_)
    have hf := bn ev hf
    clear ev
    refine lv_ldc2 (v := 4294967295) hx hb hown (hts _ gw_1390) d_M_add_27 ?_
    refine lv_land hx hb d_M_add_30 ?_
    refine lv_ladd hx hb d_M_add_31 ?_
    refine lv_ladd hx hb d_M_add_32 ?_
    refine lv_topl (fun v7 ev => ?_)
    have hf := bn ev hf
    clear ev
    refine lv_lstore_n (lv' := [(3, .long v7), (0, .ref b0), (1, .ref b1), (2, .ref b2), (5, .int x5)]) hx hb d_M_add_33 rfl hl (by decide) rfl (fun ls hl => ?_)
    refine lv_aload_n hx hb d_M_add_34 rfl (lv_at hl 1 rfl) ?_
    refine lv_iload hx hb d_M_add_35 (lv_at hl 4 rfl) ?_
    refine lv_lload_n hx hb d_M_add_37 rfl (lv_at hl 0 rfl) ?_
    refine lv_l2i hx hb d_M_add_38 rfl ?_
    refine lv_topi (fun v8 ev => ?_)
    have hf := bn ev hf
    clear ev
    obtain ⟨hg, hf⟩ := gdp hf
    refine va_iast hx hb hK hP hD hS 0 1 rfl rfl (inb_in hg) d_M_add_39 (fun H locs hP hD hS => ?_)
    obtain ⟨f9, ev, hf⟩ := bne hf
    have hP : va_P D classes [(b0, .inl (cy 1, 8, .inl f9)), (b1, .inl (cy 1, 8, .inl h1)), (b2, .inl (cy 1, 8, .inl h2))] H := by rw [ev]; exact hP
    have hD : va_D A [(b0, .inl (cy 1, 8, .inl f9)), (b1, .inl (cy 1, 8, .inl h1)), (b2, .inl (cy 1, 8, .inl h2))] := by rw [ev]; exact hD
    clear ev
    refine lv_lload_n hx hb d_M_add_40 rfl (lv_at hl 0 rfl) ?_
    refine lv_bipush (v := 32) hx hb d_M_add_41 (by decide) ?_
    refine lv_lushr hx hb d_M_add_43 rfl ?_
    refine lv_topl (fun v10 ev => ?_)
    have hf := bn ev hf
    clear ev
    refine lv_lstore_n (lv' := [(3, .long v10), (0, .ref b0), (1, .ref b1), (2, .ref b2), (5, .int x5)]) hx hb d_M_add_44 rfl hl (by decide) rfl (fun ls hl => ?_)
    obtain ⟨v11, ev, hf⟩ := bne hf
    refine lv_iinc (v := v11) (lv' := [(5, .int v11), (3, .long v10), (0, .ref b0), (1, .ref b1), (2, .ref b2)]) hx hb d_M_add_45 hl (k := 4) rfl (by rw [ev]; rfl) (by decide) rfl (fun ls hl => ?_)
    clear ev
    refine lv_goto (tgt := 5) hx hb d_M_add_48 (by decide) ?_
    exact hk_5 _ _ _ _ hf _ _ _ hP hD hS (lv_sub hl [2, 3, 4, 1, 0] rfl)
theorem w_M_add_5 {p : Program} {l : Launch} {e : Env} {s : State} {m : MethodId} {args : Array Value} {below : List Frame} {meth : Method} {c : Code} {D : va_G} {cy : Nat → ClassId} {A : Nat → Prop} {ad : Nat → Nat} {b0 : Nat} {b1 : Nat} {b2 : Nat} {h1 : Nat → Int32} {h2 : Nat → Int32} {fu : Nat} (F : Fx p s m args meth c b_M_add 6 "CoinKeeperModel" "add" (some .int) D cy ad A) : ∀ n : Nat, I_M_add_5 p l e s m args below meth c D cy A ad b0 b1 b2 h1 h2 (x_M_add_5 fu h1 h2 n)
  | 0 => fun _ _ _ _ hf => nomatch (show (none : Option (Int32 × (Nat → Int32))) = some _ from hf)
  | n + 1 => wb_M_add_5 F (w_M_add_5 F n)
set_option maxHeartbeats 8000000 in
set_option maxRecDepth 100000 in
theorem we_M_add {p : Program} {l : Launch} {e : Env} {s : State} {m : MethodId} {args : Array Value} {below : List Frame} {meth : Method} {c : Code} {D : va_G} {cy : Nat → ClassId} {A : Nat → Prop} {ad : Nat → Nat} {b0 : Nat} {b1 : Nat} {b2 : Nat} {h1 : Nat → Int32} {h2 : Nat → Int32} {fu : Nat} (F : Fx p s m args meth c b_M_add 6 "CoinKeeperModel" "add" (some .int) D cy ad A) : I_M_add_e p l e s m args below meth c D cy A ad b0 b1 b2 h1 h2 (x_M_add fu h1 h2) := by
  obtain ⟨hx, hb, hr, hml, hown, hts, hlocks, hK, hA, hSt, hnm, hex⟩ := id F
  intro u0 res hf H locs ls hP hD hS hl
  unfold x_M_add at hf
  refine lv_lconst (v := 0) hx hb d_M_add_0 (by decide) ?_
  refine lv_lstore_n (lv' := [(3, .long (0 : Int64)), (0, .ref b0), (1, .ref b1), (2, .ref b2)]) hx hb d_M_add_1 rfl hl (by decide) rfl (fun ls hl => ?_)
  refine lv_iconst (v := 0) hx hb d_M_add_2 (by decide) ?_
  refine lv_istore (lv' := [(5, .int (0 : Int32)), (3, .long (0 : Int64)), (0, .ref b0), (1, .ref b1), (2, .ref b2)]) hx hb d_M_add_3 hl (by decide) rfl (fun ls hl => ?_)
  exact w_M_add_5 F fu _ _ _ _ hf _ _ _ hP hD hS (lv_sub hl [2, 3, 4, 1, 0] rfl)
theorem c_M_add (l : Launch) (D : va_G) (cy : Nat → ClassId) (ad : Nat → Nat) (fu : Nat) (b0 : Nat) (b1 : Nat) (b2 : Nat) (h1 : Nat → Int32) (h2 : Nat → Int32) (u0 : Nat → Int32) (res : Int32 × (Nat → Int32)) (hf : x_M_add fu h1 h2 u0 = some res) (sz : Nat) : Met l ({ cls := "CoinKeeperModel", name := "add", desc := "([I[I[I)I" } : Jvm.MethodName) (.code ({ cls := "CoinKeeperModel", name := "add", desc := "([I[I[I)I" } : Jvm.MethodName) b_M_add 6 (some .int) :: gw) rm_M_add (va_Pc [.ref b0, .ref b1, .ref b2] (Pr D cy ad [(b0, .inl (cy 1, 8, .inl u0)), (b1, .inl (cy 1, 8, .inl h1)), (b2, .inl (cy 1, 8, .inl h2))] sz)) (q_M_add D cy (va_A [(b0, .inl (cy 1, 8, .inl u0)), (b1, .inl (cy 1, 8, .inl h1)), (b2, .inl (cy 1, 8, .inl h2))] sz) b0 b1 b2 h1 h2 res) 0 0 (va_A [(b0, .inl (cy 1, 8, .inl u0)), (b1, .inl (cy 1, 8, .inl h1)), (b2, .inl (cy 1, 8, .inl h2))] sz) :=
  q_met (Qc := fun A => q_M_add D cy A b0 b1 b2 h1 h2 res) (by decide) rfl rfl (Nat.le_of_ble_eq_true rfl) (fun p e s m below meth c ls F hP hD hS hl => we_M_add (fu := fu) F u0 res hf _ _ _ hP hD hS hl) sz
abbrev b_M_divide : ByteArray := prog_14_method_16_code
theorem d_M_divide_0 : decode b_M_divide 0 = .ok (.aload_n 0, 1) := by decide +kernel
theorem d_M_divide_1 : decode b_M_divide 1 = .ok (.getfield 136, 3) := by decide +kernel
theorem d_M_divide_4 : decode b_M_divide 4 = .ok (.aload_n 1, 1) := by decide +kernel
theorem d_M_divide_5 : decode b_M_divide 5 = .ok (.invokestatic 334, 3) := by decide +kernel
theorem d_M_divide_8 : decode b_M_divide 8 = .ok (.aload_n 0, 1) := by decide +kernel
theorem d_M_divide_9 : decode b_M_divide 9 = .ok (.getfield 145, 3) := by decide +kernel
theorem d_M_divide_12 : decode b_M_divide 12 = .ok (.aload_n 2, 1) := by decide +kernel
theorem d_M_divide_13 : decode b_M_divide 13 = .ok (.invokestatic 334, 3) := by decide +kernel
theorem d_M_divide_16 : decode b_M_divide 16 = .ok (.iconst 0, 1) := by decide +kernel
theorem d_M_divide_17 : decode b_M_divide 17 = .ok (.istore_n 3, 1) := by decide +kernel
theorem d_M_divide_18 : decode b_M_divide 18 = .ok (.iload_n 3, 1) := by decide +kernel
theorem d_M_divide_19 : decode b_M_divide 19 = .ok (.bipush 8, 2) := by decide +kernel
theorem d_M_divide_21 : decode b_M_divide 21 = .ok (.if_icmp .ge 23, 3) := by decide +kernel
theorem d_M_divide_24 : decode b_M_divide 24 = .ok (.aload_n 0, 1) := by decide +kernel
theorem d_M_divide_25 : decode b_M_divide 25 = .ok (.getfield 139, 3) := by decide +kernel
theorem d_M_divide_28 : decode b_M_divide 28 = .ok (.iload_n 3, 1) := by decide +kernel
theorem d_M_divide_29 : decode b_M_divide 29 = .ok (.iconst 0, 1) := by decide +kernel
theorem d_M_divide_30 : decode b_M_divide 30 = .ok (.iastore, 1) := by decide +kernel
theorem d_M_divide_31 : decode b_M_divide 31 = .ok (.aload_n 0, 1) := by decide +kernel
theorem d_M_divide_32 : decode b_M_divide 32 = .ok (.getfield 142, 3) := by decide +kernel
theorem d_M_divide_35 : decode b_M_divide 35 = .ok (.iload_n 3, 1) := by decide +kernel
theorem d_M_divide_36 : decode b_M_divide 36 = .ok (.iconst 0, 1) := by decide +kernel
theorem d_M_divide_37 : decode b_M_divide 37 = .ok (.iastore, 1) := by decide +kernel
theorem d_M_divide_38 : decode b_M_divide 38 = .ok (.iinc 3 1, 3) := by decide +kernel
theorem d_M_divide_41 : decode b_M_divide 41 = .ok (.goto (-23), 3) := by decide +kernel
theorem d_M_divide_44 : decode b_M_divide 44 = .ok (.sipush 255, 3) := by decide +kernel
theorem d_M_divide_47 : decode b_M_divide 47 = .ok (.istore_n 3, 1) := by decide +kernel
theorem d_M_divide_48 : decode b_M_divide 48 = .ok (.iload_n 3, 1) := by decide +kernel
theorem d_M_divide_49 : decode b_M_divide 49 = .ok (.ifCond .lt 108, 3) := by decide +kernel
theorem d_M_divide_52 : decode b_M_divide 52 = .ok (.aload_n 0, 1) := by decide +kernel
theorem d_M_divide_53 : decode b_M_divide 53 = .ok (.getfield 139, 3) := by decide +kernel
theorem d_M_divide_56 : decode b_M_divide 56 = .ok (.bipush 7, 2) := by decide +kernel
theorem d_M_divide_58 : decode b_M_divide 58 = .ok (.iaload, 1) := by decide +kernel
theorem d_M_divide_59 : decode b_M_divide 59 = .ok (.bipush 31, 2) := by decide +kernel
theorem d_M_divide_61 : decode b_M_divide 61 = .ok (.iushr, 1) := by decide +kernel
theorem d_M_divide_62 : decode b_M_divide 62 = .ok (.istore 4, 2) := by decide +kernel
theorem d_M_divide_64 : decode b_M_divide 64 = .ok (.aload_n 0, 1) := by decide +kernel
theorem d_M_divide_65 : decode b_M_divide 65 = .ok (.getfield 139, 3) := by decide +kernel
theorem d_M_divide_68 : decode b_M_divide 68 = .ok (.aload_n 0, 1) := by decide +kernel
theorem d_M_divide_69 : decode b_M_divide 69 = .ok (.getfield 139, 3) := by decide +kernel
theorem d_M_divide_72 : decode b_M_divide 72 = .ok (.aload_n 0, 1) := by decide +kernel
theorem d_M_divide_73 : decode b_M_divide 73 = .ok (.getfield 139, 3) := by decide +kernel
theorem d_M_divide_76 : decode b_M_divide 76 = .ok (.invokestatic 338, 3) := by decide +kernel
theorem d_M_divide_79 : decode b_M_divide 79 = .ok (.pop, 1) := by decide +kernel
theorem d_M_divide_80 : decode b_M_divide 80 = .ok (.aload_n 0, 1) := by decide +kernel
theorem d_M_divide_81 : decode b_M_divide 81 = .ok (.getfield 139, 3) := by decide +kernel
theorem d_M_divide_84 : decode b_M_divide 84 = .ok (.iconst 0, 1) := by decide +kernel
theorem d_M_divide_85 : decode b_M_divide 85 = .ok (.dup2, 1) := by decide +kernel
theorem d_M_divide_86 : decode b_M_divide 86 = .ok (.iaload, 1) := by decide +kernel
theorem d_M_divide_87 : decode b_M_divide 87 = .ok (.aload_n 0, 1) := by decide +kernel
theorem d_M_divide_88 : decode b_M_divide 88 = .ok (.getfield 136, 3) := by decide +kernel
theorem d_M_divide_91 : decode b_M_divide 91 = .ok (.iload_n 3, 1) := by decide +kernel
theorem d_M_divide_92 : decode b_M_divide 92 = .ok (.invokestatic 342, 3) := by decide +kernel
theorem d_M_divide_95 : decode b_M_divide 95 = .ok (.ior, 1) := by decide +kernel
theorem d_M_divide_96 : decode b_M_divide 96 = .ok (.iastore, 1) := by decide +kernel
theorem d_M_divide_97 : decode b_M_divide 97 = .ok (.iload 4, 2) := by decide +kernel
theorem d_M_divide_99 : decode b_M_divide 99 = .ok (.iconst 1, 1) := by decide +kernel
theorem d_M_divide_100 : decode b_M_divide 100 = .ok (.if_icmp .eq 17, 3) := by decide +kernel
theorem d_M_divide_103 : decode b_M_divide 103 = .ok (.aload_n 0, 1) := by decide +kernel
theorem d_M_divide_104 : decode b_M_divide 104 = .ok (.getfield 139, 3) := by decide +kernel
theorem d_M_divide_107 : decode b_M_divide 107 = .ok (.aload_n 0, 1) := by decide +kernel
theorem d_M_divide_108 : decode b_M_divide 108 = .ok (.getfield 145, 3) := by decide +kernel
theorem d_M_divide_111 : decode b_M_divide 111 = .ok (.invokestatic 346, 3) := by decide +kernel
theorem d_M_divide_114 : decode b_M_divide 114 = .ok (.ifCond .lt 37, 3) := by decide +kernel
theorem d_M_divide_117 : decode b_M_divide 117 = .ok (.aload_n 0, 1) := by decide +kernel
theorem d_M_divide_118 : decode b_M_divide 118 = .ok (.getfield 139, 3) := by decide +kernel
theorem d_M_divide_121 : decode b_M_divide 121 = .ok (.aload_n 0, 1) := by decide +kernel
theorem d_M_divide_122 : decode b_M_divide 122 = .ok (.getfield 139, 3) := by decide +kernel
theorem d_M_divide_125 : decode b_M_divide 125 = .ok (.aload_n 0, 1) := by decide +kernel
theorem d_M_divide_126 : decode b_M_divide 126 = .ok (.getfield 145, 3) := by decide +kernel
theorem d_M_divide_129 : decode b_M_divide 129 = .ok (.invokestatic 350, 3) := by decide +kernel
theorem d_M_divide_132 : decode b_M_divide 132 = .ok (.pop, 1) := by decide +kernel
theorem d_M_divide_133 : decode b_M_divide 133 = .ok (.aload_n 0, 1) := by decide +kernel
theorem d_M_divide_134 : decode b_M_divide 134 = .ok (.getfield 142, 3) := by decide +kernel
theorem d_M_divide_137 : decode b_M_divide 137 = .ok (.iload_n 3, 1) := by decide +kernel
theorem d_M_divide_138 : decode b_M_divide 138 = .ok (.bipush 32, 2) := by decide +kernel
theorem d_M_divide_140 : decode b_M_divide 140 = .ok (.idiv, 1) := by decide +kernel
theorem d_M_divide_141 : decode b_M_divide 141 = .ok (.dup2, 1) := by decide +kernel
theorem d_M_divide_142 : decode b_M_divide 142 = .ok (.iaload, 1) := by decide +kernel
theorem d_M_divide_143 : decode b_M_divide 143 = .ok (.iconst 1, 1) := by decide +kernel
theorem d_M_divide_144 : decode b_M_divide 144 = .ok (.iload_n 3, 1) := by decide +kernel
theorem d_M_divide_145 : decode b_M_divide 145 = .ok (.bipush 32, 2) := by decide +kernel
theorem d_M_divide_147 : decode b_M_divide 147 = .ok (.irem, 1) := by decide +kernel
theorem d_M_divide_148 : decode b_M_divide 148 = .ok (.ishl, 1) := by decide +kernel
theorem d_M_divide_149 : decode b_M_divide 149 = .ok (.ior, 1) := by decide +kernel
theorem d_M_divide_150 : decode b_M_divide 150 = .ok (.iastore, 1) := by decide +kernel
theorem d_M_divide_151 : decode b_M_divide 151 = .ok (.iinc 3 (-1), 3) := by decide +kernel
theorem d_M_divide_154 : decode b_M_divide 154 = .ok (.goto (-106), 3) := by decide +kernel
theorem d_M_divide_157 : decode b_M_divide 157 = .ok (.return_, 1) := by decide +kernel
abbrev rm_M_divide : Room := { frames := 3, cells := 0, slots := 0, locals := 64 }
abbrev q_M_divide (D : va_G) (cy : Nat → ClassId) (A : Nat → Prop) (o : Nat) (q : Nat → Nat) (b1 : Nat) (b2 : Nat) (z : Nat → Int32) (h1 : Nat → Int32) (h2 : Nat → Int32) (res : (Nat → Int32) × (Nat → Int32) × (Nat → Int32) × (Nat → Int32)) : Array Value → State → Outcome → State → Prop := va_Qv (fun (_ : Unit) => True) (fun _ t => Po D cy A [(o, .inr (12, mo q z)), ((q 40), .inl (cy 1, 8, .inl res.1)), ((q 41), .inl (cy 1, 8, .inl res.2.1)), ((q 42), .inl (cy 1, 8, .inl res.2.2.1)), ((q 43), .inl (cy 1, 8, .inl res.2.2.2)), (b1, .inl (cy 1, 8, .inl h1)), (b2, .inl (cy 1, 8, .inl h2))] t) A
def I_M_divide_151 (p : Program) (l : Launch) (e : Env) (s : State) (m : MethodId) (args : Array Value) (below : List Frame) (meth : Method) (c : Code) (D : va_G) (cy : Nat → ClassId) (A : Nat → Prop) (ad : Nat → Nat) (o : Nat) (q : Nat → Nat) (b1 : Nat) (b2 : Nat) (z : Nat → Int32) (h1 : Nat → Int32) (h2 : Nat → Int32) (k : Int32 → (Nat → Int32) → (Nat → Int32) → (Nat → Int32) → (Nat → Int32) → Option ((Nat → Int32) × (Nat → Int32) × (Nat → Int32) × (Nat → Int32))) : Prop :=
  ∀ (x3 : Int32) (u0 : Nat → Int32) (u1 : Nat → Int32) (u2 : Nat → Int32) (u3 : Nat → Int32) (res : (Nat → Int32) × (Nat → Int32) × (Nat → Int32) × (Nat → Int32)), k x3 u0 u1 u2 u3 = some res → ∀ (H : Heap) (locs : List Loc) (ls : Array Slot), va_P D classes [(o, .inr (12, mo q z)), ((q 40), .inl (cy 1, 8, .inl u0)), ((q 41), .inl (cy 1, 8, .inl u1)), ((q 42), .inl (cy 1, 8, .inl u2)), ((q 43), .inl (cy 1, 8, .inl u3)), (b1, .inl (cy 1, 8, .inl h1)), (b2, .inl (cy 1, 8, .inl h2))] H → va_D A [(o, .inr (12, mo q z)), ((q 40), .inl (cy 1, 8, .inl u0)), ((q 41), .inl (cy 1, 8, .inl u1)), ((q 42), .inl (cy 1, 8, .inl u2)), ((q 43), .inl (cy 1, 8, .inl u3)), (b1, .inl (cy 1, 8, .inl h1)), (b2, .inl (cy 1, 8, .inl h2))] → va_S A s.heap H locs → lv_has ls 5 [(0, .ref o), (3, .int x3)] → W p l e rm_M_divide s m args below meth c H locs 0 0 (MQ below (q_M_divide D cy A o q b1 b2 z h1 h2 res) args s 0 0 A) (F0 m 151 ls [])
def I_M_divide_117 (p : Program) (l : Launch) (e : Env) (s : State) (m : MethodId) (args : Array Value) (below : List Frame) (meth : Method) (c : Code) (D : va_G) (cy : Nat → ClassId) (A : Nat → Prop) (ad : Nat → Nat) (o : Nat) (q : Nat → Nat) (b1 : Nat) (b2 : Nat) (z : Nat → Int32) (h1 : Nat → Int32) (h2 : Nat → Int32) (k : Int32 → (Nat → Int32) → (Nat → Int32) → (Nat → Int32) → (Nat → Int32) → Option ((Nat → Int32) × (Nat → Int32) × (Nat → Int32) × (Nat → Int32))) : Prop :=
  ∀ (x3 : Int32) (u0 : Nat → Int32) (u1 : Nat → Int32) (u2 : Nat → Int32) (u3 : Nat → Int32) (res : (Nat → Int32) × (Nat → Int32) × (Nat → Int32) × (Nat → Int32)), k x3 u0 u1 u2 u3 = some res → ∀ (H : Heap) (locs : List Loc) (ls : Array Slot), va_P D classes [(o, .inr (12, mo q z)), ((q 40), .inl (cy 1, 8, .inl u0)), ((q 41), .inl (cy 1, 8, .inl u1)), ((q 42), .inl (cy 1, 8, .inl u2)), ((q 43), .inl (cy 1, 8, .inl u3)), (b1, .inl (cy 1, 8, .inl h1)), (b2, .inl (cy 1, 8, .inl h2))] H → va_D A [(o, .inr (12, mo q z)), ((q 40), .inl (cy 1, 8, .inl u0)), ((q 41), .inl (cy 1, 8, .inl u1)), ((q 42), .inl (cy 1, 8, .inl u2)), ((q 43), .inl (cy 1, 8, .inl u3)), (b1, .inl (cy 1, 8, .inl h1)), (b2, .inl (cy 1, 8, .inl h2))] → va_S A s.heap H locs → lv_has ls 5 [(0, .ref o), (3, .int x3)] → W p l e rm_M_divide s m args below meth c H locs 0 0 (MQ below (q_M_divide D cy A o q b1 b2 z h1 h2 res) args s 0 0 A) (F0 m 117 ls [])
def I_M_divide_48 (p : Program) (l : Launch) (e : Env) (s : State) (m : MethodId) (args : Array Value) (below : List Frame) (meth : Method) (c : Code) (D : va_G) (cy : Nat → ClassId) (A : Nat → Prop) (ad : Nat → Nat) (o : Nat) (q : Nat → Nat) (b1 : Nat) (b2 : Nat) (z : Nat → Int32) (h1 : Nat → Int32) (h2 : Nat → Int32) (k : Int32 → (Nat → Int32) → (Nat → Int32) → (Nat → Int32) → (Nat → Int32) → Option ((Nat → Int32) × (Nat → Int32) × (Nat → Int32) × (Nat → Int32))) : Prop :=
  ∀ (x3 : Int32) (u0 : Nat → Int32) (u1 : Nat → Int32) (u2 : Nat → Int32) (u3 : Nat → Int32) (res : (Nat → Int32) × (Nat → Int32) × (Nat → Int32) × (Nat → Int32)), k x3 u0 u1 u2 u3 = some res → ∀ (H : Heap) (locs : List Loc) (ls : Array Slot), va_P D classes [(o, .inr (12, mo q z)), ((q 40), .inl (cy 1, 8, .inl u0)), ((q 41), .inl (cy 1, 8, .inl u1)), ((q 42), .inl (cy 1, 8, .inl u2)), ((q 43), .inl (cy 1, 8, .inl u3)), (b1, .inl (cy 1, 8, .inl h1)), (b2, .inl (cy 1, 8, .inl h2))] H → va_D A [(o, .inr (12, mo q z)), ((q 40), .inl (cy 1, 8, .inl u0)), ((q 41), .inl (cy 1, 8, .inl u1)), ((q 42), .inl (cy 1, 8, .inl u2)), ((q 43), .inl (cy 1, 8, .inl u3)), (b1, .inl (cy 1, 8, .inl h1)), (b2, .inl (cy 1, 8, .inl h2))] → va_S A s.heap H locs → lv_has ls 5 [(0, .ref o), (3, .int x3)] → W p l e rm_M_divide s m args below meth c H locs 0 0 (MQ below (q_M_divide D cy A o q b1 b2 z h1 h2 res) args s 0 0 A) (F0 m 48 ls [])
def I_M_divide_18 (p : Program) (l : Launch) (e : Env) (s : State) (m : MethodId) (args : Array Value) (below : List Frame) (meth : Method) (c : Code) (D : va_G) (cy : Nat → ClassId) (A : Nat → Prop) (ad : Nat → Nat) (o : Nat) (q : Nat → Nat) (b1 : Nat) (b2 : Nat) (z : Nat → Int32) (h1 : Nat → Int32) (h2 : Nat → Int32) (k : Int32 → (Nat → Int32) → (Nat → Int32) → (Nat → Int32) → (Nat → Int32) → Option ((Nat → Int32) × (Nat → Int32) × (Nat → Int32) × (Nat → Int32))) : Prop :=
  ∀ (x3 : Int32) (u0 : Nat → Int32) (u1 : Nat → Int32) (u2 : Nat → Int32) (u3 : Nat → Int32) (res : (Nat → Int32) × (Nat → Int32) × (Nat → Int32) × (Nat → Int32)), k x3 u0 u1 u2 u3 = some res → ∀ (H : Heap) (locs : List Loc) (ls : Array Slot), va_P D classes [(o, .inr (12, mo q z)), ((q 40), .inl (cy 1, 8, .inl u0)), ((q 41), .inl (cy 1, 8, .inl u1)), ((q 42), .inl (cy 1, 8, .inl u2)), ((q 43), .inl (cy 1, 8, .inl u3)), (b1, .inl (cy 1, 8, .inl h1)), (b2, .inl (cy 1, 8, .inl h2))] H → va_D A [(o, .inr (12, mo q z)), ((q 40), .inl (cy 1, 8, .inl u0)), ((q 41), .inl (cy 1, 8, .inl u1)), ((q 42), .inl (cy 1, 8, .inl u2)), ((q 43), .inl (cy 1, 8, .inl u3)), (b1, .inl (cy 1, 8, .inl h1)), (b2, .inl (cy 1, 8, .inl h2))] → va_S A s.heap H locs → lv_has ls 5 [(0, .ref o), (3, .int x3)] → W p l e rm_M_divide s m args below meth c H locs 0 0 (MQ below (q_M_divide D cy A o q b1 b2 z h1 h2 res) args s 0 0 A) (F0 m 18 ls [])
def I_M_divide_e (p : Program) (l : Launch) (e : Env) (s : State) (m : MethodId) (args : Array Value) (below : List Frame) (meth : Method) (c : Code) (D : va_G) (cy : Nat → ClassId) (A : Nat → Prop) (ad : Nat → Nat) (o : Nat) (q : Nat → Nat) (b1 : Nat) (b2 : Nat) (z : Nat → Int32) (h1 : Nat → Int32) (h2 : Nat → Int32) (k : (Nat → Int32) → (Nat → Int32) → (Nat → Int32) → (Nat → Int32) → Option ((Nat → Int32) × (Nat → Int32) × (Nat → Int32) × (Nat → Int32))) : Prop :=
  ∀ (u0 : Nat → Int32) (u1 : Nat → Int32) (u2 : Nat → Int32) (u3 : Nat → Int32) (res : (Nat → Int32) × (Nat → Int32) × (Nat → Int32) × (Nat → Int32)), k u0 u1 u2 u3 = some res → ∀ (H : Heap) (locs : List Loc) (ls : Array Slot), va_P D classes [(o, .inr (12, mo q z)), ((q 40), .inl (cy 1, 8, .inl u0)), ((q 41), .inl (cy 1, 8, .inl u1)), ((q 42), .inl (cy 1, 8, .inl u2)), ((q 43), .inl (cy 1, 8, .inl u3)), (b1, .inl (cy 1, 8, .inl h1)), (b2, .inl (cy 1, 8, .inl h2))] H → va_D A [(o, .inr (12, mo q z)), ((q 40), .inl (cy 1, 8, .inl u0)), ((q 41), .inl (cy 1, 8, .inl u1)), ((q 42), .inl (cy 1, 8, .inl u2)), ((q 43), .inl (cy 1, 8, .inl u3)), (b1, .inl (cy 1, 8, .inl h1)), (b2, .inl (cy 1, 8, .inl h2))] → va_S A s.heap H locs → lv_has ls 5 [(0, .ref o), (1, .ref b1), (2, .ref b2)] → W p l e rm_M_divide s m args below meth c H locs 0 0 (MQ below (q_M_divide D cy A o q b1 b2 z h1 h2 res) args s 0 0 A) (F0 m 0 ls [])
set_option maxHeartbeats 8000000 in
set_option maxRecDepth 100000 in
theorem wb_M_divide_151 {p : Program} {l : Launch} {e : Env} {s : State} {m : MethodId} {args : Array Value} {below : List Frame} {meth : Method} {c : Code} {D : va_G} {cy : Nat → ClassId} {A : Nat → Prop} {ad : Nat → Nat} {o : Nat} {q : Nat → Nat} {b1 : Nat} {b2 : Nat} {z : Nat → Int32} {h1 : Nat → Int32} {h2 : Nat → Int32} {fu : Nat} {k_48 : Int32 → (Nat → Int32) → (Nat → Int32) → (Nat → Int32) → (Nat → Int32) → Option ((Nat → Int32) × (Nat → Int32) × (Nat → Int32) × (Nat → Int32))} (F : Fx p s m args meth c b_M_divide 5 "CoinKeeperModel" "divide" none D cy ad A) (hk_48 : I_M_divide_48 p l e s m args below meth c D cy A ad o q b1 b2 z h1 h2 k_48) : I_M_divide_151 p l e s m args below meth c D cy A ad o q b1 b2 z h1 h2 (xb_M_divide_151 fu z h1 h2 k_48) := by
  obtain ⟨hx, hb, hr, hml, hown, hts, hlocks, hK, hA, hSt, hnm, hex⟩ := id F
  intro x3 u0 u1 u2 u3 res hf H locs ls hP hD hS hl
  unfold xb_M_divide_151 at hf
  obtain ⟨v1, ev, hf⟩ := bne hf
  refine lv_iinc (v := v1) (lv' := [(3, .int v1), (0, .ref o)]) hx hb d_M_divide_151 hl (k := 1) rfl (by rw [ev]; rfl) (by decide) rfl (fun ls hl => ?_)
  clear ev
  refine lv_goto (tgt := 48) hx hb d_M_divide_154 (by decide) ?_
  exact hk_48 _ _ _ _ _ _ hf _ _ _ hP hD hS (lv_sub hl [1, 0] rfl)
set_option maxHeartbeats 8000000 in
set_option maxRecDepth 100000 in
theorem wb_M_divide_117 {p : Program} {l : Launch} {e : Env} {s : State} {m : MethodId} {args : Array Value} {below : List Frame} {meth : Method} {c : Code} {D : va_G} {cy : Nat → ClassId} {A : Nat → Prop} {ad : Nat → Nat} {o : Nat} {q : Nat → Nat} {b1 : Nat} {b2 : Nat} {z : Nat → Int32} {h1 : Nat → Int32} {h2 : Nat → Int32} {fu : Nat} {k_48 : Int32 → (Nat → Int32) → (Nat → Int32) → (Nat → Int32) → (Nat → Int32) → Option ((Nat → Int32) × (Nat → Int32) × (Nat → Int32) × (Nat → Int32))} (F : Fx p s m args meth c b_M_divide 5 "CoinKeeperModel" "divide" none D cy ad A) (hk_48 : I_M_divide_48 p l e s m args below meth c D cy A ad o q b1 b2 z h1 h2 k_48) : I_M_divide_117 p l e s m args below meth c D cy A ad o q b1 b2 z h1 h2 (xb_M_divide_117 fu z h1 h2 k_48) := by
  obtain ⟨hx, hb, hr, hml, hown, hts, hlocks, hK, hA, hSt, hnm, hex⟩ := id F
  intro x3 u0 u1 u2 u3 res hf H locs ls hP hD hS hl
  unfold xb_M_divide_117 at hf
  refine lv_aload_n hx hb d_M_divide_117 rfl (lv_at hl 0 rfl) ?_
  refine va_get (D := D) (ci := 12) (v := .ref (q 41)) (C := "CoinKeeperModel") (T := F_12) (N := 98) hx hb hts i_12 hown hK hP 0 rfl rfl 49 (by decide) (hts _ gw_1468) (fun _ h9 => h9) rfl d_M_divide_118 ?_
  refine lv_aload_n hx hb d_M_divide_121 rfl (lv_at hl 0 rfl) ?_
  refine va_get (D := D) (ci := 12) (v := .ref (q 41)) (C := "CoinKeeperModel") (T := F_12) (N := 98) hx hb hts i_12 hown hK hP 0 rfl rfl 49 (by decide) (hts _ gw_1468) (fun _ h9 => h9) rfl d_M_divide_122 ?_
  refine lv_aload_n hx hb d_M_divide_125 rfl (lv_at hl 0 rfl) ?_
  refine va_get (D := D) (ci := 12) (v := .ref (q 43)) (C := "CoinKeeperModel") (T := F_12) (N := 98) hx hb hts i_12 hown hK hP 0 rfl rfl 51 (by decide) (hts _ gw_1470) (fun _ h9 => h9) rfl d_M_divide_126 ?_
  obtain ⟨v1, f2, hc, hf⟩ := bdp2 hf
  refine q_ai (wr := [(o, .inr (12, mo q z)), ((q 40), .inl (cy 1, 8, .inl u0)), ((q 42), .inl (cy 1, 8, .inl u2)), (b1, .inl (cy 1, 8, .inl h1)), (b2, .inl (cy 1, 8, .inl h2))]) (va_runS (As := [.ref (q 41), .ref (q 41), .ref (q 43)]) (rest := []) ⟨hx, hb, hml, hown, hts⟩ (c_M_sub_e10 l D cy ad fu (q 41) (q 43) u3 u1 _ hc H.size) ⟨q_cB hts gw_1414 gw_18 gw_1412 hdm_17 ⟨by decide, by decide⟩, hts _ gw_1413⟩ (q_pre (hP.sub [2, 4] rfl) (hD.sub [2, 4] (by decide) rfl) hK hSt hS (va_free hD hS hA [2, 4] rfl) _) rfl rfl hl.1 rfl (lv_room (Nat.le_of_ble_eq_true rfl)) d_M_divide_129 ⟨Nat.le_of_ble_eq_true rfl, Nat.le_of_ble_eq_true rfl⟩) hP hD hS hA [2, 4] [0, 1, 3, 5, 6] rfl rfl (by decide) (by decide) (fun H locs hP hD hS => ?_)
  clear hc
  have hP : va_P D classes [(o, .inr (12, mo q z)), ((q 40), .inl (cy 1, 8, .inl u0)), ((q 42), .inl (cy 1, 8, .inl u2)), (b1, .inl (cy 1, 8, .inl h1)), (b2, .inl (cy 1, 8, .inl h2)), ((q 41), .inl (cy 1, 8, .inl f2)), ((q 43), .inl (cy 1, 8, .inl u3))] H := hP
  have hD : va_D A [(o, .inr (12, mo q z)), ((q 40), .inl (cy 1, 8, .inl u0)), ((q 42), .inl (cy 1, 8, .inl u2)), (b1, .inl (cy 1, 8, .inl h1)), (b2, .inl (cy 1, 8, .inl h2)), ((q 41), .inl (cy 1, 8, .inl f2)), ((q 43), .inl (cy 1, 8, .inl u3))] := hD
  refine lv_pop hx hb d_M_divide_132 rfl ?_
  refine lv_aload_n hx hb d_M_divide_133 rfl (lv_at hl 0 rfl) ?_
  refine va_get (D := D) (ci := 12) (v := .ref (q 42)) (C := "CoinKeeperModel") (T := F_12) (N := 98) hx hb hts i_12 hown hK hP 0 rfl rfl 50 (by decide) (hts _ gw_1469) (fun _ h9 => h9) rfl d_M_divide_134 ?_
  refine lv_iload_n hx hb d_M_divide_137 rfl (lv_at hl 1 rfl) ?_
  refine lv_bipush (v := 32) hx hb d_M_divide_138 (by decide) ?_
  refine lv_idiv hx hb d_M_divide_140 (by decide) ?_
  refine lv_topi (fun v3 ev => ?_)
  have hf := bn ev hf
  clear ev
  refine lv_dup2_11 hx hb d_M_divide_141 rfl rfl ?_
  obtain ⟨hg, hf⟩ := gdp hf
  refine va_iald hx hb hK hP 2 1 rfl rfl (inb_in hg) d_M_divide_142 ?_
  refine lv_topi (fun v4 ev => ?_)
  have hf := bn ev hf
  clear ev
  refine lv_iconst (v := 1) hx hb d_M_divide_143 (by decide) ?_
  refine lv_iload_n hx hb d_M_divide_144 rfl (lv_at hl 1 rfl) ?_
  refine lv_bipush (v := 32) hx hb d_M_divide_145 (by decide) ?_
  refine lv_irem hx hb d_M_divide_147 (by decide) ?_
  refine lv_ishl hx hb d_M_divide_148 ?_
  refine lv_ior hx hb d_M_divide_149 ?_
  refine lv_topi (fun v5 ev => ?_)
  have hf := bn ev hf
  clear ev
  obtain ⟨hg, hf⟩ := gdp hf
  refine va_iast hx hb hK hP hD hS 2 1 rfl rfl (inb_in hg) d_M_divide_150 (fun H locs hP hD hS => ?_)
  obtain ⟨f6, ev, hf⟩ := bne hf
  have hP : va_P D classes [(o, .inr (12, mo q z)), ((q 40), .inl (cy 1, 8, .inl u0)), ((q 42), .inl (cy 1, 8, .inl f6)), (b1, .inl (cy 1, 8, .inl h1)), (b2, .inl (cy 1, 8, .inl h2)), ((q 41), .inl (cy 1, 8, .inl f2)), ((q 43), .inl (cy 1, 8, .inl u3))] H := by rw [ev]; exact hP
  have hD : va_D A [(o, .inr (12, mo q z)), ((q 40), .inl (cy 1, 8, .inl u0)), ((q 42), .inl (cy 1, 8, .inl f6)), (b1, .inl (cy 1, 8, .inl h1)), (b2, .inl (cy 1, 8, .inl h2)), ((q 41), .inl (cy 1, 8, .inl f2)), ((q 43), .inl (cy 1, 8, .inl u3))] := by rw [ev]; exact hD
  clear ev
  exact wb_M_divide_151 (fu := fu) F hk_48 _ _ _ _ _ _ hf _ _ _ (hP.sub (ws' := [(o, .inr (12, mo q z)), ((q 40), .inl (cy 1, 8, .inl u0)), ((q 41), .inl (cy 1, 8, .inl f2)), ((q 42), .inl (cy 1, 8, .inl f6)), ((q 43), .inl (cy 1, 8, .inl u3)), (b1, .inl (cy 1, 8, .inl h1)), (b2, .inl (cy 1, 8, .inl h2))]) [0, 1, 5, 2, 6, 3, 4] rfl) (hD.sub (ws' := [(o, .inr (12, mo q z)), ((q 40), .inl (cy 1, 8, .inl u0)), ((q 41), .inl (cy 1, 8, .inl f2)), ((q 42), .inl (cy 1, 8, .inl f6)), ((q 43), .inl (cy 1, 8, .inl u3)), (b1, .inl (cy 1, 8, .inl h1)), (b2, .inl (cy 1, 8, .inl h2))]) [0, 1, 5, 2, 6, 3, 4] (by decide) rfl) hS (lv_sub hl [0, 1] rfl)
set_option maxHeartbeats 8000000 in
set_option maxRecDepth 100000 in
theorem wb_M_divide_48 {p : Program} {l : Launch} {e : Env} {s : State} {m : MethodId} {args : Array Value} {below : List Frame} {meth : Method} {c : Code} {D : va_G} {cy : Nat → ClassId} {A : Nat → Prop} {ad : Nat → Nat} {o : Nat} {q : Nat → Nat} {b1 : Nat} {b2 : Nat} {z : Nat → Int32} {h1 : Nat → Int32} {h2 : Nat → Int32} {fu : Nat} {k_48 : Int32 → (Nat → Int32) → (Nat → Int32) → (Nat → Int32) → (Nat → Int32) → Option ((Nat → Int32) × (Nat → Int32) × (Nat → Int32) × (Nat → Int32))} (F : Fx p s m args meth c b_M_divide 5 "CoinKeeperModel" "divide" none D cy ad A) (hk_48 : I_M_divide_48 p l e s m args below meth c D cy A ad o q b1 b2 z h1 h2 k_48) : I_M_divide_48 p l e s m args below meth c D cy A ad o q b1 b2 z h1 h2 (xb_M_divide_48 fu z h1 h2 k_48) := by
  obtain ⟨hx, hb, hr, hml, hown, hts, hlocks, hK, hA, hSt, hnm, hex⟩ := id F
  intro x3 u0 u1 u2 u3 res hf H locs ls hP hD hS hl
  unfold xb_M_divide_48 at hf
  refine lv_iload_n hx hb d_M_divide_48 rfl (lv_at hl 1 rfl) ?_
  refine lv_if_lt (tgt := 157) hx hb d_M_divide_49 (by decide) (fun cx => ?_) (fun cx => ?_)
  · have hf := ifp cx hf
    obtain rfl := Option.some.inj hf
    exact q_rv hx hb hr hlocks hK hP hD hS d_M_divide_157
  · have hf := ifn cx hf
    refine lv_aload_n hx hb d_M_divide_52 rfl (lv_at hl 0 rfl) ?_
    refine va_get (D := D) (ci := 12) (v := .ref (q 41)) (C := "CoinKeeperModel") (T := F_12) (N := 98) hx hb hts i_12 hown hK hP 0 rfl rfl 49 (by decide) (hts _ gw_1468) (fun _ h9 => h9) rfl d_M_divide_53 ?_
    refine lv_bipush (v := 7) hx hb d_M_divide_56 (by decide) ?_
    refine va_iald hx hb hK hP 2 1 rfl rfl (inb_in (by decide)) d_M_divide_58 ?_
    refine lv_topi (fun v1 ev => ?_)
    have hf := bn ev hf
    clear ev
    refine lv_bipush (v := 31) hx hb d_M_divide_59 (by decide) ?_
    refine lv_iushr hx hb d_M_divide_61 rfl ?_
    refine lv_topi (fun v2 ev => ?_)
    have hf := bn ev hf
    clear ev
    refine lv_istore (lv' := [(4, .int v2), (0, .ref o), (3, .int x3)]) hx hb d_M_divide_62 hl (by decide) rfl (fun ls hl => ?_)
    refine lv_aload_n hx hb d_M_divide_64 rfl (lv_at hl 1 rfl) ?_
    refine va_get (D := D) (ci := 12) (v := .ref (q 41)) (C := "CoinKeeperModel") (T := F_12) (N := 98) hx hb hts i_12 hown hK hP 0 rfl rfl 49 (by decide) (hts _ gw_1468) (fun _ h9 => h9) rfl d_M_divide_65 ?_
    refine lv_aload_n hx hb d_M_divide_68 rfl (lv_at hl 1 rfl) ?_
    refine va_get (D := D) (ci := 12) (v := .ref (q 41)) (C := "CoinKeeperModel") (T := F_12) (N := 98) hx hb hts i_12 hown hK hP 0 rfl rfl 49 (by decide) (hts _ gw_1468) (fun _ h9 => h9) rfl d_M_divide_69 ?_
    refine lv_aload_n hx hb d_M_divide_72 rfl (lv_at hl 1 rfl) ?_
    refine va_get (D := D) (ci := 12) (v := .ref (q 41)) (C := "CoinKeeperModel") (T := F_12) (N := 98) hx hb hts i_12 hown hK hP 0 rfl rfl 49 (by decide) (hts _ gw_1468) (fun _ h9 => h9) rfl d_M_divide_73 ?_
    obtain ⟨v3, f4, hc, hf⟩ := bdp2 hf
    refine q_ai (wr := [(o, .inr (12, mo q z)), ((q 40), .inl (cy 1, 8, .inl u0)), ((q 42), .inl (cy 1, 8, .inl u2)), ((q 43), .inl (cy 1, 8, .inl u3)), (b1, .inl (cy 1, 8, .inl h1)), (b2, .inl (cy 1, 8, .inl h2))]) (va_runS (As := [.ref (q 41), .ref (q 41), .ref (q 41)]) (rest := []) ⟨hx, hb, hml, hown, hts⟩ (c_M_add_e10e20 l D cy ad fu (q 41) u1 _ hc H.size) ⟨q_cB hts gw_1389 gw_18 gw_1387 hdm_19 ⟨by decide, by decide⟩, hts _ gw_1388⟩ (q_pre (hP.sub [2] rfl) (hD.sub [2] (by decide) rfl) hK hSt hS (va_free hD hS hA [2] rfl) _) rfl rfl hl.1 rfl (lv_room (Nat.le_of_ble_eq_true rfl)) d_M_divide_76 ⟨Nat.le_of_ble_eq_true rfl, Nat.le_of_ble_eq_true rfl⟩) hP hD hS hA [2] [0, 1, 3, 4, 5, 6] rfl rfl (by decide) (by decide) (fun H locs hP hD hS => ?_)
    clear hc
    have hP : va_P D classes [(o, .inr (12, mo q z)), ((q 40), .inl (cy 1, 8, .inl u0)), ((q 42), .inl (cy 1, 8, .inl u2)), ((q 43), .inl (cy 1, 8, .inl u3)), (b1, .inl (cy 1, 8, .inl h1)), (b2, .inl (cy 1, 8, .inl h2)), ((q 41), .inl (cy 1, 8, .inl f4))] H := hP
    have hD : va_D A [(o, .inr (12, mo q z)), ((q 40), .inl (cy 1, 8, .inl u0)), ((q 42), .inl (cy 1, 8, .inl u2)), ((q 43), .inl (cy 1, 8, .inl u3)), (b1, .inl (cy 1, 8, .inl h1)), (b2, .inl (cy 1, 8, .inl h2)), ((q 41), .inl (cy 1, 8, .inl f4))] := hD
    refine lv_pop hx hb d_M_divide_79 rfl ?_
    refine lv_aload_n hx hb d_M_divide_80 rfl (lv_at hl 1 rfl) ?_
    refine va_get (D := D) (ci := 12) (v := .ref (q 41)) (C := "CoinKeeperModel") (T := F_12) (N := 98) hx hb hts i_12 hown hK hP 0 rfl rfl 49 (by decide) (hts _ gw_1468) (fun _ h9 => h9) rfl d_M_divide_81 ?_
    refine lv_iconst (v := 0) hx hb d_M_divide_84 (by decide) ?_
    refine lv_dup2_11 hx hb d_M_divide_85 rfl rfl ?_
    refine va_iald hx hb hK hP 6 1 rfl rfl (inb_in (by decide)) d_M_divide_86 ?_
    refine lv_topi (fun v5 ev => ?_)
    have hf := bn ev hf
    clear ev
    refine lv_aload_n hx hb d_M_divide_87 rfl (lv_at hl 1 rfl) ?_
    refine va_get (D := D) (ci := 12) (v := .ref (q 40)) (C := "CoinKeeperModel") (T := F_12) (N := 98) hx hb hts i_12 hown hK hP 0 rfl rfl 48 (by decide) (hts _ gw_1467) (fun _ h9 => h9) rfl d_M_divide_88 ?_
    refine lv_iload_n hx hb d_M_divide_91 rfl (lv_at hl 2 rfl) ?_
    obtain ⟨v6, hc, hf⟩ := bdp1 hf
    refine q_ai (wr := [(o, .inr (12, mo q z)), ((q 42), .inl (cy 1, 8, .inl u2)), ((q 43), .inl (cy 1, 8, .inl u3)), (b1, .inl (cy 1, 8, .inl h1)), (b2, .inl (cy 1, 8, .inl h2)), ((q 41), .inl (cy 1, 8, .inl f4))]) (va_runS (As := [.ref (q 40), .int x3]) (rest := [.int v5, .int (0 : Int32), .ref (q 41)]) ⟨hx, hb, hml, hown, hts⟩ (c_M_bit l D cy ad fu (q 40) u0 x3 _ hc H.size) ⟨q_cB hts gw_1401 gw_18 gw_1399 hdm_21 ⟨by decide, by decide⟩, hts _ gw_1400⟩ (q_pre (hP.sub [1] rfl) (hD.sub [1] (by decide) rfl) hK hSt hS (va_free hD hS hA [1] rfl) _) rfl rfl hl.1 rfl (lv_room (Nat.le_of_ble_eq_true rfl)) d_M_divide_92 ⟨Nat.le_of_ble_eq_true rfl, Nat.le_of_ble_eq_true rfl⟩) hP hD hS hA [1] [0, 2, 3, 4, 5, 6] rfl rfl (by decide) (by decide) (fun H locs hP hD hS => ?_)
    clear hc
    have hP : va_P D classes [(o, .inr (12, mo q z)), ((q 42), .inl (cy 1, 8, .inl u2)), ((q 43), .inl (cy 1, 8, .inl u3)), (b1, .inl (cy 1, 8, .inl h1)), (b2, .inl (cy 1, 8, .inl h2)), ((q 41), .inl (cy 1, 8, .inl f4)), ((q 40), .inl (cy 1, 8, .inl u0))] H := hP
    have hD : va_D A [(o, .inr (12, mo q z)), ((q 42), .inl (cy 1, 8, .inl u2)), ((q 43), .inl (cy 1, 8, .inl u3)), (b1, .inl (cy 1, 8, .inl h1)), (b2, .inl (cy 1, 8, .inl h2)), ((q 41), .inl (cy 1, 8, .inl f4)), ((q 40), .inl (cy 1, 8, .inl u0))] := hD
    refine lv_ior hx hb d_M_divide_95 ?_
    refine lv_topi (fun v7 ev => ?_)
    have hf := bn ev hf
    clear ev
    refine va_iast hx hb hK hP hD hS 5 1 rfl rfl (inb_in (by decide)) d_M_divide_96 (fun H locs hP hD hS => ?_)
    obtain ⟨f8, ev, hf⟩ := bne hf
    have hP : va_P D classes [(o, .inr (12, mo q z)), ((q 42), .inl (cy 1, 8, .inl u2)), ((q 43), .inl (cy 1, 8, .inl u3)), (b1, .inl (cy 1, 8, .inl h1)), (b2, .inl (cy 1, 8, .inl h2)), ((q 41), .inl (cy 1, 8, .inl f8)), ((q 40), .inl (cy 1, 8, .inl u0))] H := by rw [ev]; exact hP
    have hD : va_D A [(o, .inr (12, mo q z)), ((q 42), .inl (cy 1, 8, .inl u2)), ((q 43), .inl (cy 1, 8, .inl u3)), (b1, .inl (cy 1, 8, .inl h1)), (b2, .inl (cy 1, 8, .inl h2)), ((q 41), .inl (cy 1, 8, .inl f8)), ((q 40), .inl (cy 1, 8, .inl u0))] := by rw [ev]; exact hD
    clear ev
    refine lv_iload hx hb d_M_divide_97 (lv_at hl 0 rfl) ?_
    refine lv_iconst (v := 1) hx hb d_M_divide_99 (by decide) ?_
    refine lv_icmp_eq (tgt := 117) hx hb d_M_divide_100 (by decide) (fun cx => ?_) (fun cx => ?_)
    · have hf := ifp cx hf
      exact wb_M_divide_117 (fu := fu) F hk_48 _ _ _ _ _ _ hf _ _ _ (hP.sub (ws' := [(o, .inr (12, mo q z)), ((q 40), .inl (cy 1, 8, .inl u0)), ((q 41), .inl (cy 1, 8, .inl f8)), ((q 42), .inl (cy 1, 8, .inl u2)), ((q 43), .inl (cy 1, 8, .inl u3)), (b1, .inl (cy 1, 8, .inl h1)), (b2, .inl (cy 1, 8, .inl h2))]) [0, 6, 5, 1, 2, 3, 4] rfl) (hD.sub (ws' := [(o, .inr (12, mo q z)), ((q 40), .inl (cy 1, 8, .inl u0)), ((q 41), .inl (cy 1, 8, .inl f8)), ((q 42), .inl (cy 1, 8, .inl u2)), ((q 43), .inl (cy 1, 8, .inl u3)), (b1, .inl (cy 1, 8, .inl h1)), (b2, .inl (cy 1, 8, .inl h2))]) [0, 6, 5, 1, 2, 3, 4] (by decide) rfl) hS (lv_sub hl [1, 2] rfl)
    · have hf := ifn cx hf
      refine lv_aload_n hx hb d_M_divide_103 rfl (lv_at hl 1 rfl) ?_
      refine va_get (D := D) (ci := 12) (v := .ref (q 41)) (C := "CoinKeeperModel") (T := F_12) (N := 98) hx hb hts i_12 hown hK hP 0 rfl rfl 49 (by decide) (hts _ gw_1468) (fun _ h9 => h9) rfl d_M_divide_104 ?_
      refine lv_aload_n hx hb d_M_divide_107 rfl (lv_at hl 1 rfl) ?_
      refine va_get (D := D) (ci := 12) (v := .ref (q 43)) (C := "CoinKeeperModel") (T := F_12) (N := 98) hx hb hts i_12 hown hK hP 0 rfl rfl 51 (by decide) (hts _ gw_1470) (fun _ h9 => h9) rfl d_M_divide_108 ?_
      obtain ⟨v9, hc, hf⟩ := bdp1 hf
      refine q_ai (wr := [(o, .inr (12, mo q z)), ((q 42), .inl (cy 1, 8, .inl u2)), (b1, .inl (cy 1, 8, .inl h1)), (b2, .inl (cy 1, 8, .inl h2)), ((q 40), .inl (cy 1, 8, .inl u0))]) (va_runS (As := [.ref (q 41), .ref (q 43)]) (rest := []) ⟨hx, hb, hml, hown, hts⟩ (c_M_compare l D cy ad fu (q 41) (q 43) f8 u3 _ hc H.size) ⟨q_cB hts gw_1404 gw_18 gw_1402 hdm_16 ⟨by decide, by decide⟩, hts _ gw_1403⟩ (q_pre (hP.sub [5, 2] rfl) (hD.sub [5, 2] (by decide) rfl) hK hSt hS (va_free hD hS hA [5, 2] rfl) _) rfl rfl hl.1 rfl (lv_room (Nat.le_of_ble_eq_true rfl)) d_M_divide_111 ⟨Nat.le_of_ble_eq_true rfl, Nat.le_of_ble_eq_true rfl⟩) hP hD hS hA [5, 2] [0, 1, 3, 4, 6] rfl rfl (by decide) (by decide) (fun H locs hP hD hS => ?_)
      clear hc
      have hP : va_P D classes [(o, .inr (12, mo q z)), ((q 42), .inl (cy 1, 8, .inl u2)), (b1, .inl (cy 1, 8, .inl h1)), (b2, .inl (cy 1, 8, .inl h2)), ((q 40), .inl (cy 1, 8, .inl u0)), ((q 41), .inl (cy 1, 8, .inl f8)), ((q 43), .inl (cy 1, 8, .inl u3))] H := hP
      have hD : va_D A [(o, .inr (12, mo q z)), ((q 42), .inl (cy 1, 8, .inl u2)), (b1, .inl (cy 1, 8, .inl h1)), (b2, .inl (cy 1, 8, .inl h2)), ((q 40), .inl (cy 1, 8, .inl u0)), ((q 41), .inl (cy 1, 8, .inl f8)), ((q 43), .inl (cy 1, 8, .inl u3))] := hD
      refine lv_if_lt (tgt := 151) hx hb d_M_divide_114 (by decide) (fun cx => ?_) (fun cx => ?_)
      · have hf := ifp cx hf
        exact wb_M_divide_151 (fu := fu) F hk_48 _ _ _ _ _ _ hf _ _ _ (hP.sub (ws' := [(o, .inr (12, mo q z)), ((q 40), .inl (cy 1, 8, .inl u0)), ((q 41), .inl (cy 1, 8, .inl f8)), ((q 42), .inl (cy 1, 8, .inl u2)), ((q 43), .inl (cy 1, 8, .inl u3)), (b1, .inl (cy 1, 8, .inl h1)), (b2, .inl (cy 1, 8, .inl h2))]) [0, 4, 5, 1, 6, 2, 3] rfl) (hD.sub (ws' := [(o, .inr (12, mo q z)), ((q 40), .inl (cy 1, 8, .inl u0)), ((q 41), .inl (cy 1, 8, .inl f8)), ((q 42), .inl (cy 1, 8, .inl u2)), ((q 43), .inl (cy 1, 8, .inl u3)), (b1, .inl (cy 1, 8, .inl h1)), (b2, .inl (cy 1, 8, .inl h2))]) [0, 4, 5, 1, 6, 2, 3] (by decide) rfl) hS (lv_sub hl [1, 2] rfl)
      · have hf := ifn cx hf
        exact wb_M_divide_117 (fu := fu) F hk_48 _ _ _ _ _ _ hf _ _ _ (hP.sub (ws' := [(o, .inr (12, mo q z)), ((q 40), .inl (cy 1, 8, .inl u0)), ((q 41), .inl (cy 1, 8, .inl f8)), ((q 42), .inl (cy 1, 8, .inl u2)), ((q 43), .inl (cy 1, 8, .inl u3)), (b1, .inl (cy 1, 8, .inl h1)), (b2, .inl (cy 1, 8, .inl h2))]) [0, 4, 5, 1, 6, 2, 3] rfl) (hD.sub (ws' := [(o, .inr (12, mo q z)), ((q 40), .inl (cy 1, 8, .inl u0)), ((q 41), .inl (cy 1, 8, .inl f8)), ((q 42), .inl (cy 1, 8, .inl u2)), ((q 43), .inl (cy 1, 8, .inl u3)), (b1, .inl (cy 1, 8, .inl h1)), (b2, .inl (cy 1, 8, .inl h2))]) [0, 4, 5, 1, 6, 2, 3] (by decide) rfl) hS (lv_sub hl [1, 2] rfl)
theorem w_M_divide_48 {p : Program} {l : Launch} {e : Env} {s : State} {m : MethodId} {args : Array Value} {below : List Frame} {meth : Method} {c : Code} {D : va_G} {cy : Nat → ClassId} {A : Nat → Prop} {ad : Nat → Nat} {o : Nat} {q : Nat → Nat} {b1 : Nat} {b2 : Nat} {z : Nat → Int32} {h1 : Nat → Int32} {h2 : Nat → Int32} {fu : Nat} (F : Fx p s m args meth c b_M_divide 5 "CoinKeeperModel" "divide" none D cy ad A) : ∀ n : Nat, I_M_divide_48 p l e s m args below meth c D cy A ad o q b1 b2 z h1 h2 (x_M_divide_48 fu z h1 h2 n)
  | 0 => fun _ _ _ _ _ _ hf => nomatch (show (none : Option ((Nat → Int32) × (Nat → Int32) × (Nat → Int32) × (Nat → Int32))) = some _ from hf)
  | n + 1 => wb_M_divide_48 F (w_M_divide_48 F n)
set_option maxHeartbeats 8000000 in
set_option maxRecDepth 100000 in
theorem wb_M_divide_18 {p : Program} {l : Launch} {e : Env} {s : State} {m : MethodId} {args : Array Value} {below : List Frame} {meth : Method} {c : Code} {D : va_G} {cy : Nat → ClassId} {A : Nat → Prop} {ad : Nat → Nat} {o : Nat} {q : Nat → Nat} {b1 : Nat} {b2 : Nat} {z : Nat → Int32} {h1 : Nat → Int32} {h2 : Nat → Int32} {fu : Nat} {k_18 : Int32 → (Nat → Int32) → (Nat → Int32) → (Nat → Int32) → (Nat → Int32) → Option ((Nat → Int32) × (Nat → Int32) × (Nat → Int32) × (Nat → Int32))} (F : Fx p s m args meth c b_M_divide 5 "CoinKeeperModel" "divide" none D cy ad A) (hk_18 : I_M_divide_18 p l e s m args below meth c D cy A ad o q b1 b2 z h1 h2 k_18) : I_M_divide_18 p l e s m args below meth c D cy A ad o q b1 b2 z h1 h2 (xb_M_divide_18 fu z h1 h2 k_18) := by
  obtain ⟨hx, hb, hr, hml, hown, hts, hlocks, hK, hA, hSt, hnm, hex⟩ := id F
  intro x3 u0 u1 u2 u3 res hf H locs ls hP hD hS hl
  unfold xb_M_divide_18 at hf
  refine lv_iload_n hx hb d_M_divide_18 rfl (lv_at hl 1 rfl) ?_
  refine lv_bipush (v := 8) hx hb d_M_divide_19 (by decide) ?_
  refine lv_icmp_ge (tgt := 44) hx hb d_M_divide_21 (by decide) (fun cx => ?_) (fun cx => ?_)
  · have hf := ifp cx hf
    refine lv_sipush (v := 255) hx hb d_M_divide_44 (by decide) ?_
    refine lv_istore_n (lv' := [(3, .int (255 : Int32)), (0, .ref o)]) hx hb d_M_divide_47 rfl hl (by decide) rfl (fun ls hl => ?_)
    exact w_M_divide_48 F fu _ _ _ _ _ _ hf _ _ _ hP hD hS (lv_sub hl [1, 0] rfl)
  · have hf := ifn cx hf
    refine lv_aload_n hx hb d_M_divide_24 rfl (lv_at hl 0 rfl) ?_
    refine va_get (D := D) (ci := 12) (v := .ref (q 41)) (C := "CoinKeeperModel") (T := F_12) (N := 98) hx hb hts i_12 hown hK hP 0 rfl rfl 49 (by decide) (hts _ gw_1468) (fun _ h9 => h9) rfl d_M_divide_25 ?_
    refine lv_iload_n hx hb d_M_divide_28 rfl (lv_at hl 1 rfl) ?_
    refine lv_iconst (v := 0) hx hb d_M_divide_29 (by decide) ?_
    obtain ⟨hg, hf⟩ := gdp hf
    refine va_iast hx hb hK hP hD hS 2 1 rfl rfl (inb_in hg) d_M_divide_30 (fun H locs hP hD hS => ?_)
    obtain ⟨f1, ev, hf⟩ := bne hf
    have hP : va_P D classes [(o, .inr (12, mo q z)), ((q 40), .inl (cy 1, 8, .inl u0)), ((q 41), .inl (cy 1, 8, .inl f1)), ((q 42), .inl (cy 1, 8, .inl u2)), ((q 43), .inl (cy 1, 8, .inl u3)), (b1, .inl (cy 1, 8, .inl h1)), (b2, .inl (cy 1, 8, .inl h2))] H := by rw [ev]; exact hP
    have hD : va_D A [(o, .inr (12, mo q z)), ((q 40), .inl (cy 1, 8, .inl u0)), ((q 41), .inl (cy 1, 8, .inl f1)), ((q 42), .inl (cy 1, 8, .inl u2)), ((q 43), .inl (cy 1, 8, .inl u3)), (b1, .inl (cy 1, 8, .inl h1)), (b2, .inl (cy 1, 8, .inl h2))] := by rw [ev]; exact hD
    clear ev
    refine lv_aload_n hx hb d_M_divide_31 rfl (lv_at hl 0 rfl) ?_
    refine va_get (D := D) (ci := 12) (v := .ref (q 42)) (C := "CoinKeeperModel") (T := F_12) (N := 98) hx hb hts i_12 hown hK hP 0 rfl rfl 50 (by decide) (hts _ gw_1469) (fun _ h9 => h9) rfl d_M_divide_32 ?_
    refine lv_iload_n hx hb d_M_divide_35 rfl (lv_at hl 1 rfl) ?_
    refine lv_iconst (v := 0) hx hb d_M_divide_36 (by decide) ?_
    obtain ⟨hg, hf⟩ := gdp hf
    refine va_iast hx hb hK hP hD hS 3 1 rfl rfl (inb_in hg) d_M_divide_37 (fun H locs hP hD hS => ?_)
    obtain ⟨f2, ev, hf⟩ := bne hf
    have hP : va_P D classes [(o, .inr (12, mo q z)), ((q 40), .inl (cy 1, 8, .inl u0)), ((q 41), .inl (cy 1, 8, .inl f1)), ((q 42), .inl (cy 1, 8, .inl f2)), ((q 43), .inl (cy 1, 8, .inl u3)), (b1, .inl (cy 1, 8, .inl h1)), (b2, .inl (cy 1, 8, .inl h2))] H := by rw [ev]; exact hP
    have hD : va_D A [(o, .inr (12, mo q z)), ((q 40), .inl (cy 1, 8, .inl u0)), ((q 41), .inl (cy 1, 8, .inl f1)), ((q 42), .inl (cy 1, 8, .inl f2)), ((q 43), .inl (cy 1, 8, .inl u3)), (b1, .inl (cy 1, 8, .inl h1)), (b2, .inl (cy 1, 8, .inl h2))] := by rw [ev]; exact hD
    clear ev
    obtain ⟨v3, ev, hf⟩ := bne hf
    refine lv_iinc (v := v3) (lv' := [(3, .int v3), (0, .ref o)]) hx hb d_M_divide_38 hl (k := 1) rfl (by rw [ev]; rfl) (by decide) rfl (fun ls hl => ?_)
    clear ev
    refine lv_goto (tgt := 18) hx hb d_M_divide_41 (by decide) ?_
    exact hk_18 _ _ _ _ _ _ hf _ _ _ hP hD hS (lv_sub hl [1, 0] rfl)
theorem w_M_divide_18 {p : Program} {l : Launch} {e : Env} {s : State} {m : MethodId} {args : Array Value} {below : List Frame} {meth : Method} {c : Code} {D : va_G} {cy : Nat → ClassId} {A : Nat → Prop} {ad : Nat → Nat} {o : Nat} {q : Nat → Nat} {b1 : Nat} {b2 : Nat} {z : Nat → Int32} {h1 : Nat → Int32} {h2 : Nat → Int32} {fu : Nat} (F : Fx p s m args meth c b_M_divide 5 "CoinKeeperModel" "divide" none D cy ad A) : ∀ n : Nat, I_M_divide_18 p l e s m args below meth c D cy A ad o q b1 b2 z h1 h2 (x_M_divide_18 fu z h1 h2 n)
  | 0 => fun _ _ _ _ _ _ hf => nomatch (show (none : Option ((Nat → Int32) × (Nat → Int32) × (Nat → Int32) × (Nat → Int32))) = some _ from hf)
  | n + 1 => wb_M_divide_18 F (w_M_divide_18 F n)
set_option maxHeartbeats 8000000 in
set_option maxRecDepth 100000 in
theorem we_M_divide {p : Program} {l : Launch} {e : Env} {s : State} {m : MethodId} {args : Array Value} {below : List Frame} {meth : Method} {c : Code} {D : va_G} {cy : Nat → ClassId} {A : Nat → Prop} {ad : Nat → Nat} {o : Nat} {q : Nat → Nat} {b1 : Nat} {b2 : Nat} {z : Nat → Int32} {h1 : Nat → Int32} {h2 : Nat → Int32} {fu : Nat} (F : Fx p s m args meth c b_M_divide 5 "CoinKeeperModel" "divide" none D cy ad A) : I_M_divide_e p l e s m args below meth c D cy A ad o q b1 b2 z h1 h2 (x_M_divide fu z h1 h2) := by
  obtain ⟨hx, hb, hr, hml, hown, hts, hlocks, hK, hA, hSt, hnm, hex⟩ := id F
  intro u0 u1 u2 u3 res hf H locs ls hP hD hS hl
  unfold x_M_divide at hf
  refine lv_aload_n hx hb d_M_divide_0 rfl (lv_at hl 0 rfl) ?_
  refine va_get (D := D) (ci := 12) (v := .ref (q 40)) (C := "CoinKeeperModel") (T := F_12) (N := 98) hx hb hts i_12 hown hK hP 0 rfl rfl 48 (by decide) (hts _ gw_1467) (fun _ h9 => h9) rfl d_M_divide_1 ?_
  refine lv_aload_n hx hb d_M_divide_4 rfl (lv_at hl 1 rfl) ?_
  obtain ⟨f1, hc, hf⟩ := bdp1 hf
  refine q_av (wr := [(o, .inr (12, mo q z)), ((q 41), .inl (cy 1, 8, .inl u1)), ((q 42), .inl (cy 1, 8, .inl u2)), ((q 43), .inl (cy 1, 8, .inl u3)), (b2, .inl (cy 1, 8, .inl h2))]) (va_runS (As := [.ref (q 40), .ref b1]) (rest := []) ⟨hx, hb, hml, hown, hts⟩ (c_M_copy l D cy ad fu (q 40) b1 h1 u0 _ hc H.size) ⟨q_cB hts gw_1397 gw_18 gw_1395 hdm_24 ⟨by decide, by decide⟩, hts _ gw_1396⟩ (q_pre (hP.sub [1, 5] rfl) (hD.sub [1, 5] (by decide) rfl) hK hSt hS (va_free hD hS hA [1, 5] rfl) _) rfl rfl hl.1 rfl (lv_room (Nat.le_of_ble_eq_true rfl)) d_M_divide_5 ⟨Nat.le_of_ble_eq_true rfl, Nat.le_of_ble_eq_true rfl⟩) hP hD hS hA [1, 5] [0, 2, 3, 4, 6] rfl rfl (by decide) (by decide) (fun H locs hP hD hS => ?_)
  clear hc
  have hP : va_P D classes [(o, .inr (12, mo q z)), ((q 41), .inl (cy 1, 8, .inl u1)), ((q 42), .inl (cy 1, 8, .inl u2)), ((q 43), .inl (cy 1, 8, .inl u3)), (b2, .inl (cy 1, 8, .inl h2)), ((q 40), .inl (cy 1, 8, .inl f1)), (b1, .inl (cy 1, 8, .inl h1))] H := hP
  have hD : va_D A [(o, .inr (12, mo q z)), ((q 41), .inl (cy 1, 8, .inl u1)), ((q 42), .inl (cy 1, 8, .inl u2)), ((q 43), .inl (cy 1, 8, .inl u3)), (b2, .inl (cy 1, 8, .inl h2)), ((q 40), .inl (cy 1, 8, .inl f1)), (b1, .inl (cy 1, 8, .inl h1))] := hD
  refine lv_aload_n hx hb d_M_divide_8 rfl (lv_at hl 0 rfl) ?_
  refine va_get (D := D) (ci := 12) (v := .ref (q 43)) (C := "CoinKeeperModel") (T := F_12) (N := 98) hx hb hts i_12 hown hK hP 0 rfl rfl 51 (by decide) (hts _ gw_1470) (fun _ h9 => h9) rfl d_M_divide_9 ?_
  refine lv_aload_n hx hb d_M_divide_12 rfl (lv_at hl 2 rfl) ?_
  obtain ⟨f2, hc, hf⟩ := bdp1 hf
  refine q_av (wr := [(o, .inr (12, mo q z)), ((q 41), .inl (cy 1, 8, .inl u1)), ((q 42), .inl (cy 1, 8, .inl u2)), ((q 40), .inl (cy 1, 8, .inl f1)), (b1, .inl (cy 1, 8, .inl h1))]) (va_runS (As := [.ref (q 43), .ref b2]) (rest := []) ⟨hx, hb, hml, hown, hts⟩ (c_M_copy l D cy ad fu (q 43) b2 h2 u3 _ hc H.size) ⟨q_cB hts gw_1397 gw_18 gw_1395 hdm_24 ⟨by decide, by decide⟩, hts _ gw_1396⟩ (q_pre (hP.sub [3, 4] rfl) (hD.sub [3, 4] (by decide) rfl) hK hSt hS (va_free hD hS hA [3, 4] rfl) _) rfl rfl hl.1 rfl (lv_room (Nat.le_of_ble_eq_true rfl)) d_M_divide_13 ⟨Nat.le_of_ble_eq_true rfl, Nat.le_of_ble_eq_true rfl⟩) hP hD hS hA [3, 4] [0, 1, 2, 5, 6] rfl rfl (by decide) (by decide) (fun H locs hP hD hS => ?_)
  clear hc
  have hP : va_P D classes [(o, .inr (12, mo q z)), ((q 41), .inl (cy 1, 8, .inl u1)), ((q 42), .inl (cy 1, 8, .inl u2)), ((q 40), .inl (cy 1, 8, .inl f1)), (b1, .inl (cy 1, 8, .inl h1)), ((q 43), .inl (cy 1, 8, .inl f2)), (b2, .inl (cy 1, 8, .inl h2))] H := hP
  have hD : va_D A [(o, .inr (12, mo q z)), ((q 41), .inl (cy 1, 8, .inl u1)), ((q 42), .inl (cy 1, 8, .inl u2)), ((q 40), .inl (cy 1, 8, .inl f1)), (b1, .inl (cy 1, 8, .inl h1)), ((q 43), .inl (cy 1, 8, .inl f2)), (b2, .inl (cy 1, 8, .inl h2))] := hD
  refine lv_iconst (v := 0) hx hb d_M_divide_16 (by decide) ?_
  refine lv_istore_n (lv' := [(3, .int (0 : Int32)), (0, .ref o), (1, .ref b1), (2, .ref b2)]) hx hb d_M_divide_17 rfl hl (by decide) rfl (fun ls hl => ?_)
  exact w_M_divide_18 F fu _ _ _ _ _ _ hf _ _ _ (hP.sub (ws' := [(o, .inr (12, mo q z)), ((q 40), .inl (cy 1, 8, .inl f1)), ((q 41), .inl (cy 1, 8, .inl u1)), ((q 42), .inl (cy 1, 8, .inl u2)), ((q 43), .inl (cy 1, 8, .inl f2)), (b1, .inl (cy 1, 8, .inl h1)), (b2, .inl (cy 1, 8, .inl h2))]) [0, 3, 1, 2, 5, 4, 6] rfl) (hD.sub (ws' := [(o, .inr (12, mo q z)), ((q 40), .inl (cy 1, 8, .inl f1)), ((q 41), .inl (cy 1, 8, .inl u1)), ((q 42), .inl (cy 1, 8, .inl u2)), ((q 43), .inl (cy 1, 8, .inl f2)), (b1, .inl (cy 1, 8, .inl h1)), (b2, .inl (cy 1, 8, .inl h2))]) [0, 3, 1, 2, 5, 4, 6] (by decide) rfl) hS (lv_sub hl [1, 0] rfl)
theorem c_M_divide (l : Launch) (D : va_G) (cy : Nat → ClassId) (ad : Nat → Nat) (fu : Nat) (o : Nat) (q : Nat → Nat) (b1 : Nat) (b2 : Nat) (z : Nat → Int32) (h1 : Nat → Int32) (h2 : Nat → Int32) (u0 : Nat → Int32) (u1 : Nat → Int32) (u2 : Nat → Int32) (u3 : Nat → Int32) (res : (Nat → Int32) × (Nat → Int32) × (Nat → Int32) × (Nat → Int32)) (hf : x_M_divide fu z h1 h2 u0 u1 u2 u3 = some res) (sz : Nat) : Met l ({ cls := "CoinKeeperModel", name := "divide", desc := "([I[I)V" } : Jvm.MethodName) (.code ({ cls := "CoinKeeperModel", name := "divide", desc := "([I[I)V" } : Jvm.MethodName) b_M_divide 5 none :: gw) rm_M_divide (va_Pc [.ref o, .ref b1, .ref b2] (Pr D cy ad [(o, .inr (12, mo q z)), ((q 40), .inl (cy 1, 8, .inl u0)), ((q 41), .inl (cy 1, 8, .inl u1)), ((q 42), .inl (cy 1, 8, .inl u2)), ((q 43), .inl (cy 1, 8, .inl u3)), (b1, .inl (cy 1, 8, .inl h1)), (b2, .inl (cy 1, 8, .inl h2))] sz)) (q_M_divide D cy (va_A [(o, .inr (12, mo q z)), ((q 40), .inl (cy 1, 8, .inl u0)), ((q 41), .inl (cy 1, 8, .inl u1)), ((q 42), .inl (cy 1, 8, .inl u2)), ((q 43), .inl (cy 1, 8, .inl u3)), (b1, .inl (cy 1, 8, .inl h1)), (b2, .inl (cy 1, 8, .inl h2))] sz) o q b1 b2 z h1 h2 res) 0 0 (va_A [(o, .inr (12, mo q z)), ((q 40), .inl (cy 1, 8, .inl u0)), ((q 41), .inl (cy 1, 8, .inl u1)), ((q 42), .inl (cy 1, 8, .inl u2)), ((q 43), .inl (cy 1, 8, .inl u3)), (b1, .inl (cy 1, 8, .inl h1)), (b2, .inl (cy 1, 8, .inl h2))] sz) :=
  q_met (Qc := fun A => q_M_divide D cy A o q b1 b2 z h1 h2 res) (by decide) rfl rfl (Nat.le_of_ble_eq_true rfl) (fun p e s m below meth c ls F hP hD hS hl => we_M_divide (fu := fu) F u0 u1 u2 u3 res hf _ _ _ hP hD hS hl) sz
