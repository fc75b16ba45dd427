abbrev b_M_find : ByteArray := prog_14_method_71_code
theorem d_M_find_0 : decode b_M_find 0 = .ok (.iconst 0, 1) := by decide +kernel
theorem d_M_find_1 : decode b_M_find 1 = .ok (.istore_n 3, 1) := by decide +kernel
theorem d_M_find_2 : decode b_M_find 2 = .ok (.iload_n 3, 1) := by decide +kernel
theorem d_M_find_3 : decode b_M_find 3 = .ok (.aload_n 0, 1) := by decide +kernel
theorem d_M_find_4 : decode b_M_find 4 = .ok (.getfield 252, 3) := by decide +kernel
theorem d_M_find_7 : decode b_M_find 7 = .ok (.if_icmp .ge 72, 3) := by decide +kernel
theorem d_M_find_10 : decode b_M_find 10 = .ok (.iconst 1, 1) := by decide +kernel
theorem d_M_find_11 : decode b_M_find 11 = .ok (.istore 4, 2) := by decide +kernel
theorem d_M_find_13 : decode b_M_find 13 = .ok (.iconst 0, 1) := by decide +kernel
theorem d_M_find_14 : decode b_M_find 14 = .ok (.istore 5, 2) := by decide +kernel
theorem d_M_find_16 : decode b_M_find 16 = .ok (.iload 5, 2) := by decide +kernel
theorem d_M_find_18 : decode b_M_find 18 = .ok (.bipush 8, 2) := by decide +kernel
theorem d_M_find_20 : decode b_M_find 20 = .ok (.if_icmp .ge 46, 3) := by decide +kernel
theorem d_M_find_23 : decode b_M_find 23 = .ok (.iload 4, 2) := by decide +kernel
theorem d_M_find_25 : decode b_M_find 25 = .ok (.ifCond .eq 41, 3) := by decide +kernel
theorem d_M_find_28 : decode b_M_find 28 = .ok (.aload_n 0, 1) := by decide +kernel
theorem d_M_find_29 : decode b_M_find 29 = .ok (.getfield 39, 3) := by decide +kernel
theorem d_M_find_32 : decode b_M_find 32 = .ok (.bipush 8, 2) := by decide +kernel
theorem d_M_find_34 : decode b_M_find 34 = .ok (.iload_n 3, 1) := by decide +kernel
theorem d_M_find_35 : decode b_M_find 35 = .ok (.imul, 1) := by decide +kernel
theorem d_M_find_36 : decode b_M_find 36 = .ok (.iload 5, 2) := by decide +kernel
theorem d_M_find_38 : decode b_M_find 38 = .ok (.iadd, 1) := by decide +kernel
theorem d_M_find_39 : decode b_M_find 39 = .ok (.iaload, 1) := by decide +kernel
theorem d_M_find_40 : decode b_M_find 40 = .ok (.aload_n 1, 1) := by decide +kernel
theorem d_M_find_41 : decode b_M_find 41 = .ok (.iload_n 2, 1) := by decide +kernel
theorem d_M_find_42 : decode b_M_find 42 = .ok (.iconst 4, 1) := by decide +kernel
theorem d_M_find_43 : decode b_M_find 43 = .ok (.iload 5, 2) := by decide +kernel
theorem d_M_find_45 : decode b_M_find 45 = .ok (.imul, 1) := by decide +kernel
theorem d_M_find_46 : decode b_M_find 46 = .ok (.iadd, 1) := by decide +kernel
theorem d_M_find_47 : decode b_M_find 47 = .ok (.invokestatic 309, 3) := by decide +kernel
theorem d_M_find_50 : decode b_M_find 50 = .ok (.if_icmp .ne 7, 3) := by decide +kernel
theorem d_M_find_53 : decode b_M_find 53 = .ok (.iconst 1, 1) := by decide +kernel
theorem d_M_find_54 : decode b_M_find 54 = .ok (.goto 4, 3) := by decide +kernel
theorem d_M_find_57 : decode b_M_find 57 = .ok (.iconst 0, 1) := by decide +kernel
theorem d_M_find_58 : decode b_M_find 58 = .ok (.istore 4, 2) := by decide +kernel
theorem d_M_find_60 : decode b_M_find 60 = .ok (.iinc 5 1, 3) := by decide +kernel
theorem d_M_find_63 : decode b_M_find 63 = .ok (.goto (-47), 3) := by decide +kernel
theorem d_M_find_66 : decode b_M_find 66 = .ok (.iload 4, 2) := by decide +kernel
theorem d_M_find_68 : decode b_M_find 68 = .ok (.ifCond .eq 5, 3) := by decide +kernel
theorem d_M_find_71 : decode b_M_find 71 = .ok (.iload_n 3, 1) := by decide +kernel
theorem d_M_find_72 : decode b_M_find 72 = .ok (.ireturn, 1) := by decide +kernel
theorem d_M_find_73 : decode b_M_find 73 = .ok (.iinc 3 1, 3) := by decide +kernel
theorem d_M_find_76 : decode b_M_find 76 = .ok (.goto (-74), 3) := by decide +kernel
theorem d_M_find_79 : decode b_M_find 79 = .ok (.iconst (-1), 1) := by decide +kernel
theorem d_M_find_80 : decode b_M_find 80 = .ok (.ireturn, 1) := by decide +kernel
abbrev rm_M_find : Room := { frames := 1, cells := 0, slots := 0, locals := 21 }
abbrev q_M_find (D : va_G) (cy : Nat → ClassId) (A : Nat → Prop) (o : Nat) (q : Nat → Nat) (b1 : Nat) (z : Nat → Int32) (g_bId : Nat → Int32) (n1 : Nat) (h1 : Nat → Int32) (res : Int32) : Array Value → State → Outcome → State → Prop := va_Qi (fun r' (_ : Unit) => r' = res) (fun _ t => Po D cy A [(o, .inr (12, mo q z)), ((q 9), .inl (cy 1, 1616, .inl g_bId)), (b1, .inl (cy 0, n1, .inl h1))] t) A
def I_M_find_66 (p : Program) (l : Launch) (e : Env) (s : State) (m : MethodId) (args : Array Value) (below : List Frame) (meth : Method) (c : Code) (D : va_G) (cy : Nat → ClassId) (A : Nat → Prop) (ad : Nat → Nat) (o : Nat) (q : Nat → Nat) (b1 : Nat) (z : Nat → Int32) (g_bId : Nat → Int32) (n1 : Nat) (h1 : Nat → Int32) (k : Int32 → Int32 → Int32 → Option (Int32)) : Prop :=
  ∀ (x2 : Int32) (x3 : Int32) (x4 : Int32) (res : Int32), k x2 x3 x4 = some res → ∀ (H : Heap) (locs : List Loc) (ls : Array Slot), va_P D classes [(o, .inr (12, mo q z)), ((q 9), .inl (cy 1, 1616, .inl g_bId)), (b1, .inl (cy 0, n1, .inl h1))] H → va_D A [(o, .inr (12, mo q z)), ((q 9), .inl (cy 1, 1616, .inl g_bId)), (b1, .inl (cy 0, n1, .inl h1))] → va_S A s.heap H locs → lv_has ls 6 [(0, .ref o), (1, .ref b1), (2, .int x2), (3, .int x3), (4, .int x4)] → W p l e rm_M_find s m args below meth c H locs 0 0 (MQ below (q_M_find D cy A o q b1 z g_bId n1 h1 res) args s 0 0 A) (F0 m 66 ls [])
def I_M_find_58 (p : Program) (l : Launch) (e : Env) (s : State) (m : MethodId) (args : Array Value) (below : List Frame) (meth : Method) (c : Code) (D : va_G) (cy : Nat → ClassId) (A : Nat → Prop) (ad : Nat → Nat) (o : Nat) (q : Nat → Nat) (b1 : Nat) (z : Nat → Int32) (g_bId : Nat → Int32) (n1 : Nat) (h1 : Nat → Int32) (k : Int32 → Int32 → Int32 → Int32 → Option (Int32)) : Prop :=
  ∀ (x2 : Int32) (x3 : Int32) (x5 : Int32) (y0 : Int32) (res : Int32), k x2 x3 x5 y0 = some res → ∀ (H : Heap) (locs : List Loc) (ls : Array Slot), va_P D classes [(o, .inr (12, mo q z)), ((q 9), .inl (cy 1, 1616, .inl g_bId)), (b1, .inl (cy 0, n1, .inl h1))] H → va_D A [(o, .inr (12, mo q z)), ((q 9), .inl (cy 1, 1616, .inl g_bId)), (b1, .inl (cy 0, n1, .inl h1))] → va_S A s.heap H locs → lv_has ls 6 [(0, .ref o), (1, .ref b1), (2, .int x2), (3, .int x3), (5, .int x5)] → W p l e rm_M_find s m args below meth c H locs 0 0 (MQ below (q_M_find D cy A o q b1 z g_bId n1 h1 res) args s 0 0 A) (F0 m 58 ls [.int y0])
def I_M_find_16 (p : Program) (l : Launch) (e : Env) (s : State) (m : MethodId) (args : Array Value) (below : List Frame) (meth : Method) (c : Code) (D : va_G) (cy : Nat → ClassId) (A : Nat → Prop) (ad : Nat → Nat) (o : Nat) (q : Nat → Nat) (b1 : Nat) (z : Nat → Int32) (g_bId : Nat → Int32) (n1 : Nat) (h1 : Nat → Int32) (k : Int32 → Int32 → Int32 → Int32 → Option (Int32)) : Prop :=
  ∀ (x2 : Int32) (x3 : Int32) (x4 : Int32) (x5 : Int32) (res : Int32), k x2 x3 x4 x5 = some res → ∀ (H : Heap) (locs : List Loc) (ls : Array Slot), va_P D classes [(o, .inr (12, mo q z)), ((q 9), .inl (cy 1, 1616, .inl g_bId)), (b1, .inl (cy 0, n1, .inl h1))] H → va_D A [(o, .inr (12, mo q z)), ((q 9), .inl (cy 1, 1616, .inl g_bId)), (b1, .inl (cy 0, n1, .inl h1))] → va_S A s.heap H locs → lv_has ls 6 [(0, .ref o), (1, .ref b1), (2, .int x2), (3, .int x3), (4, .int x4), (5, .int x5)] → W p l e rm_M_find s m args below meth c H locs 0 0 (MQ below (q_M_find D cy A o q b1 z g_bId n1 h1 res) args s 0 0 A) (F0 m 16 ls [])
def I_M_find_2 (p : Program) (l : Launch) (e : Env) (s : State) (m : MethodId) (args : Array Value) (below : List Frame) (meth : Method) (c : Code) (D : va_G) (cy : Nat → ClassId) (A : Nat → Prop) (ad : Nat → Nat) (o : Nat) (q : Nat → Nat) (b1 : Nat) (z : Nat → Int32) (g_bId : Nat → Int32) (n1 : Nat) (h1 : Nat → Int32) (k : Int32 → Int32 → Option (Int32)) : Prop :=
  ∀ (x2 : Int32) (x3 : Int32) (res : Int32), k x2 x3 = some res → ∀ (H : Heap) (locs : List Loc) (ls : Array Slot), va_P D classes [(o, .inr (12, mo q z)), ((q 9), .inl (cy 1, 1616, .inl g_bId)), (b1, .inl (cy 0, n1, .inl h1))] H → va_D A [(o, .inr (12, mo q z)), ((q 9), .inl (cy 1, 1616, .inl g_bId)), (b1, .inl (cy 0, n1, .inl h1))] → va_S A s.heap H locs → lv_has ls 6 [(0, .ref o), (1, .ref b1), (2, .int x2), (3, .int x3)] → W p l e rm_M_find s m args below meth c H locs 0 0 (MQ below (q_M_find D cy A o q b1 z g_bId n1 h1 res) args s 0 0 A) (F0 m 2 ls [])
def I_M_find_e (p : Program) (l : Launch) (e : Env) (s : State) (m : MethodId) (args : Array Value) (below : List Frame) (meth : Method) (c : Code) (D : va_G) (cy : Nat → ClassId) (A : Nat → Prop) (ad : Nat → Nat) (o : Nat) (q : Nat → Nat) (b1 : Nat) (z : Nat → Int32) (g_bId : Nat → Int32) (n1 : Nat) (h1 : Nat → Int32) (k : Int32 → Option (Int32)) : Prop :=
  ∀ (a2 : Int32) (res : Int32), k a2 = some res → ∀ (H : Heap) (locs : List Loc) (ls : Array Slot), va_P D classes [(o, .inr (12, mo q z)), ((q 9), .inl (cy 1, 1616, .inl g_bId)), (b1, .inl (cy 0, n1, .inl h1))] H → va_D A [(o, .inr (12, mo q z)), ((q 9), .inl (cy 1, 1616, .inl g_bId)), (b1, .inl (cy 0, n1, .inl h1))] → va_S A s.heap H locs → lv_has ls 6 [(0, .ref o), (1, .ref b1), (2, .int a2)] → W p l e rm_M_find s m args below meth c H locs 0 0 (MQ below (q_M_find D cy A o q b1 z g_bId n1 h1 res) args s 0 0 A) (F0 m 0 ls [])
set_option maxHeartbeats 8000000 in
set_option maxRecDepth 100000 in
theorem wb_M_find_66 {p : Program} {l : Launch} {e : Env} {s : State} {m : MethodId} {args : Array Value} {below : List Frame} {meth : Method} {c : Code} {D : va_G} {cy : Nat → ClassId} {A : Nat → Prop} {ad : Nat → Nat} {o : Nat} {q : Nat → Nat} {b1 : Nat} {z : Nat → Int32} {g_bId : Nat → Int32} {n1 : Nat} {h1 : Nat → Int32} {fu : Nat} {k_2 : Int32 → Int32 → Option (Int32)} (F : Fx p s m args meth c b_M_find 6 "CoinKeeperModel" "find" (some .int) D cy ad A) (hk_2 : I_M_find_2 p l e s m args below meth c D cy A ad o q b1 z g_bId n1 h1 k_2) : I_M_find_66 p l e s m args below meth c D cy A ad o q b1 z g_bId n1 h1 (xb_M_find_66 fu z g_bId n1 h1 k_2) := by
  obtain ⟨hx, hb, hr, hml, hown, hts, hlocks, hK, hA, hSt, hnm, hex⟩ := id F
  intro x2 x3 x4 res hf H locs ls hP hD hS hl
  unfold xb_M_find_66 at hf
  refine lv_iload hx hb d_M_find_66 (lv_at hl 4 rfl) ?_
  refine lv_if_eq (tgt := 73) hx hb d_M_find_68 (by decide) (fun cx => ?_) (fun cx => ?_)
  · have hf := ifp cx hf
    obtain ⟨v1, ev, hf⟩ := bne hf
    refine lv_iinc (v := v1) (lv' := [(3, .int v1), (0, .ref o), (1, .ref b1), (2, .int x2), (4, .int x4)]) hx hb d_M_find_73 hl (k := 3) rfl (by rw [ev]; rfl) (by decide) rfl (fun ls hl => ?_)
    clear ev
    refine lv_goto (tgt := 2) hx hb d_M_find_76 (by decide) ?_
    exact hk_2 _ _ _ hf _ _ _ hP hD hS (lv_sub hl [1, 2, 3, 0] rfl)
  · have hf := ifn cx hf
    refine lv_iload_n hx hb d_M_find_71 rfl (lv_at hl 3 rfl) ?_
    obtain rfl := Option.some.inj hf
    exact q_ri hx hb hr hlocks hK hP hD hS d_M_find_72
set_option maxHeartbeats 8000000 in
set_option maxRecDepth 100000 in
theorem wb_M_find_58 {p : Program} {l : Launch} {e : Env} {s : State} {m : MethodId} {args : Array Value} {below : List Frame} {meth : Method} {c : Code} {D : va_G} {cy : Nat → ClassId} {A : Nat → Prop} {ad : Nat → Nat} {o : Nat} {q : Nat → Nat} {b1 : Nat} {z : Nat → Int32} {g_bId : Nat → Int32} {n1 : Nat} {h1 : Nat → Int32} {fu : Nat} {k_2 : Int32 → Int32 → Option (Int32)} {k_16 : Int32 → Int32 → Int32 → Int32 → Option (Int32)} (F : Fx p s m args meth c b_M_find 6 "CoinKeeperModel" "find" (some .int) D cy ad A) (hk_2 : I_M_find_2 p l e s m args below meth c D cy A ad o q b1 z g_bId n1 h1 k_2) (hk_16 : I_M_find_16 p l e s m args below meth c D cy A ad o q b1 z g_bId n1 h1 k_16) : I_M_find_58 p l e s m args below meth c D cy A ad o q b1 z g_bId n1 h1 (xb_M_find_58 fu z g_bId n1 h1 k_2 k_16) := by
  obtain ⟨hx, hb, hr, hml, hown, hts, hlocks, hK, hA, hSt, hnm, hex⟩ := id F
  intro x2 x3 x5 y0 res hf H locs ls hP hD hS hl
  unfold xb_M_find_58 at hf
  refine lv_istore (lv' := [(4, .int y0), (0, .ref o), (1, .ref b1), (2, .int x2), (3, .int x3), (5, .int x5)]) hx hb d_M_find_58 hl (by decide) rfl (fun ls hl => ?_)
  obtain ⟨v1, ev, hf⟩ := bne hf
  refine lv_iinc (v := v1) (lv' := [(5, .int v1), (4, .int y0), (0, .ref o), (1, .ref b1), (2, .int x2), (3, .int x3)]) hx hb d_M_find_60 hl (k := 5) rfl (by rw [ev]; rfl) (by decide) rfl (fun ls hl => ?_)
  clear ev
  refine lv_goto (tgt := 16) hx hb d_M_find_63 (by decide) ?_
  exact hk_16 _ _ _ _ _ hf _ _ _ hP hD hS (lv_sub hl [2, 3, 4, 5, 1, 0] rfl)
set_option maxHeartbeats 8000000 in
set_option maxRecDepth 100000 in
theorem wb_M_find_16 {p : Program} {l : Launch} {e : Env} {s : State} {m : MethodId} {args : Array Value} {below : List Frame} {meth : Method} {c : Code} {D : va_G} {cy : Nat → ClassId} {A : Nat → Prop} {ad : Nat → Nat} {o : Nat} {q : Nat → Nat} {b1 : Nat} {z : Nat → Int32} {g_bId : Nat → Int32} {n1 : Nat} {h1 : Nat → Int32} {fu : Nat} {k_2 : Int32 → Int32 → Option (Int32)} {k_16 : Int32 → Int32 → Int32 → Int32 → Option (Int32)} (F : Fx p s m args meth c b_M_find 6 "CoinKeeperModel" "find" (some .int) D cy ad A) (hk_2 : I_M_find_2 p l e s m args below meth c D cy A ad o q b1 z g_bId n1 h1 k_2) (hk_16 : I_M_find_16 p l e s m args below meth c D cy A ad o q b1 z g_bId n1 h1 k_16) : I_M_find_16 p l e s m args below meth c D cy A ad o q b1 z g_bId n1 h1 (xb_M_find_16 fu z g_bId n1 h1 k_2 k_16) := by
  obtain ⟨hx, hb, hr, hml, hown, hts, hlocks, hK, hA, hSt, hnm, hex⟩ := id F
  intro x2 x3 x4 x5 res hf H locs ls hP hD hS hl
  unfold xb_M_find_16 at hf
  refine lv_iload hx hb d_M_find_16 (lv_at hl 5 rfl) ?_
  refine lv_bipush (v := 8) hx hb d_M_find_18 (by decide) ?_
  refine lv_icmp_ge (tgt := 66) hx hb d_M_find_20 (by decide) (fun cx => ?_) (fun cx => ?_)
  · have hf := ifp cx hf
    exact wb_M_find_66 (fu := fu) F hk_2 _ _ _ _ hf _ _ _ hP hD hS (lv_sub hl [0, 1, 2, 3, 4] rfl)
  · have hf := ifn cx hf
    refine lv_iload hx hb d_M_find_23 (lv_at hl 4 rfl) ?_
    refine lv_if_eq (tgt := 66) hx hb d_M_find_25 (by decide) (fun cx => ?_) (fun cx => ?_)
    · have hf := ifp cx hf
      exact wb_M_find_66 (fu := fu) F hk_2 _ _ _ _ hf _ _ _ hP hD hS (lv_sub hl [0, 1, 2, 3, 4] rfl)
    · have hf := ifn cx hf
      refine lv_aload_n hx hb d_M_find_28 rfl (lv_at hl 0 rfl) ?_
      refine va_get (D := D) (ci := 12) (v := .ref (q 9)) (C := "CoinKeeperModel") (T := F_12) (N := 98) hx hb hts i_12 hown hK hP 0 rfl rfl 12 (by decide) (hts _ gw_1431) (fun _ h9 => h9) rfl d_M_find_29 ?_
      refine lv_bipush (v := 8) hx hb d_M_find_32 (by decide) ?_
      refine lv_iload_n hx hb d_M_find_34 rfl (lv_at hl 3 rfl) ?_
      refine lv_imul hx hb d_M_find_35 ?_
      refine lv_topi (fun v1 ev => ?_)
      have hf := bn ev hf
      clear ev
      refine lv_iload hx hb d_M_find_36 (lv_at hl 5 rfl) ?_
      refine lv_iadd hx hb d_M_find_38 ?_
      refine lv_topi (fun v2 ev => ?_)
      have hf := bn ev hf
      clear ev
      obtain ⟨hg, hf⟩ := gdp hf
      refine va_iald hx hb hK hP 1 1 rfl rfl (inb_in hg) d_M_find_39 ?_
      refine lv_topi (fun v3 ev => ?_)
      have hf := bn ev hf
      clear ev
      refine lv_aload_n hx hb d_M_find_40 rfl (lv_at hl 1 rfl) ?_
      refine lv_iload_n hx hb d_M_find_41 rfl (lv_at hl 2 rfl) ?_
      refine lv_iconst (v := 4) hx hb d_M_find_42 (by decide) ?_
      refine lv_iload hx hb d_M_find_43 (lv_at hl 5 rfl) ?_
      refine lv_imul hx hb d_M_find_45 ?_
      refine lv_iadd hx hb d_M_find_46 ?_
      refine lv_topi (fun v4 ev => ?_)
      have hf := bn ev hf
      clear ev
      obtain ⟨v5, hc, hf⟩ := bdp1 hf
      refine q_ai (wr := [(o, .inr (12, mo q z)), ((q 9), .inl (cy 1, 1616, .inl g_bId))]) (va_runS (As := [.ref b1, .int v4]) (rest := [.int v3]) ⟨hx, hb, hml, hown, hts⟩ (c_M_small l D cy ad fu b1 n1 h1 v4 _ hc H.size) ⟨q_cB hts gw_1779 gw_18 gw_1777 hdm_4 ⟨by decide, by decide⟩, hts _ gw_1778⟩ (q_pre (hP.sub [2] rfl) (hD.sub [2] (by decide) rfl) hK hSt hS (va_free hD hS hA [2] rfl) _) rfl rfl hl.1 rfl (lv_room (Nat.le_of_ble_eq_true rfl)) d_M_find_47 ⟨Nat.le_of_ble_eq_true rfl, Nat.le_of_ble_eq_true rfl⟩) hP hD hS hA [2] [0, 1] rfl rfl (by decide) (by decide) (fun H locs hP hD hS => ?_)
      clear hc
      have hP : va_P D classes [(o, .inr (12, mo q z)), ((q 9), .inl (cy 1, 1616, .inl g_bId)), (b1, .inl (cy 0, n1, .inl h1))] H := hP
      have hD : va_D A [(o, .inr (12, mo q z)), ((q 9), .inl (cy 1, 1616, .inl g_bId)), (b1, .inl (cy 0, n1, .inl h1))] := hD
      refine lv_icmp_ne (tgt := 57) hx hb d_M_find_50 (by decide) (fun cx => ?_) (fun cx => ?_)
      · have hf := ifn cx hf
        refine lv_iconst (v := 0) hx hb d_M_find_57 (by decide) ?_
        exact wb_M_find_58 (fu := fu) F hk_2 hk_16 _ _ _ _ _ hf _ _ _ hP hD hS (lv_sub hl [0, 1, 2, 3, 5] rfl)
      · have hf := ifp cx hf
        refine lv_iconst (v := 1) hx hb d_M_find_53 (by decide) ?_
        refine lv_goto (tgt := 58) hx hb d_M_find_54 (by decide) ?_
        exact wb_M_find_58 (fu := fu) F hk_2 hk_16 _ _ _ _ _ hf _ _ _ hP hD hS (lv_sub hl [0, 1, 2, 3, 5] rfl)
theorem w_M_find_16 {p : Program} {l : Launch} {e : Env} {s : State} {m : MethodId} {args : Array Value} {below : List Frame} {meth : Method} {c : Code} {D : va_G} {cy : Nat → ClassId} {A : Nat → Prop} {ad : Nat → Nat} {o : Nat} {q : Nat → Nat} {b1 : Nat} {z : Nat → Int32} {g_bId : Nat → Int32} {n1 : Nat} {h1 : Nat → Int32} {fu : Nat} {k_2 : Int32 → Int32 → Option (Int32)} (F : Fx p s m args meth c b_M_find 6 "CoinKeeperModel" "find" (some .int) D cy ad A) (hk_2 : I_M_find_2 p l e s m args below meth c D cy A ad o q b1 z g_bId n1 h1 k_2) : ∀ n : Nat, I_M_find_16 p l e s m args below meth c D cy A ad o q b1 z g_bId n1 h1 (x_M_find_16 fu z g_bId n1 h1 k_2 n)
  | 0 => fun _ _ _ _ _ hf => nomatch (show (none : Option (Int32)) = some _ from hf)
  | n + 1 => wb_M_find_16 F hk_2 (w_M_find_16 F hk_2 n)
set_option maxHeartbeats 8000000 in
set_option maxRecDepth 100000 in
theorem wb_M_find_2 {p : Program} {l : Launch} {e : Env} {s : State} {m : MethodId} {args : Array Value} {below : List Frame} {meth : Method} {c : Code} {D : va_G} {cy : Nat → ClassId} {A : Nat → Prop} {ad : Nat → Nat} {o : Nat} {q : Nat → Nat} {b1 : Nat} {z : Nat → Int32} {g_bId : Nat → Int32} {n1 : Nat} {h1 : Nat → Int32} {fu : Nat} {k_2 : Int32 → Int32 → Option (Int32)} (F : Fx p s m args meth c b_M_find 6 "CoinKeeperModel" "find" (some .int) D cy ad A) (hk_2 : I_M_find_2 p l e s m args below meth c D cy A ad o q b1 z g_bId n1 h1 k_2) : I_M_find_2 p l e s m args below meth c D cy A ad o q b1 z g_bId n1 h1 (xb_M_find_2 fu z g_bId n1 h1 k_2) := by
  obtain ⟨hx, hb, hr, hml, hown, hts, hlocks, hK, hA, hSt, hnm, hex⟩ := id F
  intro x2 x3 res hf H locs ls hP hD hS hl
  unfold xb_M_find_2 at hf
  refine lv_iload_n hx hb d_M_find_2 rfl (lv_at hl 3 rfl) ?_
  refine lv_aload_n hx hb d_M_find_3 rfl (lv_at hl 0 rfl) ?_
  refine va_get (D := D) (ci := 12) (v := .int (z 3)) (C := "CoinKeeperModel") (T := F_12) (N := 98) hx hb hts i_12 hown hK hP 0 rfl rfl 15 (by decide) (hts _ gw_1434) (fun _ h9 => h9) rfl d_M_find_4 ?_
  refine lv_icmp_ge (tgt := 79) hx hb d_M_find_7 (by decide) (fun cx => ?_) (fun cx => ?_)
  · have hf := ifp cx hf
    refine lv_iconst (v := (-1)) hx hb d_M_find_79 (by decide) ?_
    obtain rfl := Option.some.inj hf
    exact q_ri hx hb hr hlocks hK hP hD hS d_M_find_80
  · have hf := ifn cx hf
    refine lv_iconst (v := 1) hx hb d_M_find_10 (by decide) ?_
    refine lv_istore (lv' := [(4, .int (1 : Int32)), (0, .ref o), (1, .ref b1), (2, .int x2), (3, .int x3)]) hx hb d_M_find_11 hl (by decide) rfl (fun ls hl => ?_)
    refine lv_iconst (v := 0) hx hb d_M_find_13 (by decide) ?_
    refine lv_istore (lv' := [(5, .int (0 : Int32)), (4, .int (1 : Int32)), (0, .ref o), (1, .ref b1), (2, .int x2), (3, .int x3)]) hx hb d_M_find_14 hl (by decide) rfl (fun ls hl => ?_)
    exact w_M_find_16 F hk_2 fu _ _ _ _ _ hf _ _ _ hP hD hS (lv_sub hl [2, 3, 4, 5, 1, 0] rfl)
theorem w_M_find_2 {p : Program} {l : Launch} {e : Env} {s : State} {m : MethodId} {args : Array Value} {below : List Frame} {meth : Method} {c : Code} {D : va_G} {cy : Nat → ClassId} {A : Nat → Prop} {ad : Nat → Nat} {o : Nat} {q : Nat → Nat} {b1 : Nat} {z : Nat → Int32} {g_bId : Nat → Int32} {n1 : Nat} {h1 : Nat → Int32} {fu : Nat} (F : Fx p s m args meth c b_M_find 6 "CoinKeeperModel" "find" (some .int) D cy ad A) : ∀ n : Nat, I_M_find_2 p l e s m args below meth c D cy A ad o q b1 z g_bId n1 h1 (x_M_find_2 fu z g_bId n1 h1 n)
  | 0 => fun _ _ _ hf => nomatch (show (none : Option (Int32)) = some _ from hf)
  | n + 1 => wb_M_find_2 F (w_M_find_2 F n)
set_option maxHeartbeats 8000000 in
set_option maxRecDepth 100000 in
theorem we_M_find {p : Program} {l : Launch} {e : Env} {s : State} {m : MethodId} {args : Array Value} {below : List Frame} {meth : Method} {c : Code} {D : va_G} {cy : Nat → ClassId} {A : Nat → Prop} {ad : Nat → Nat} {o : Nat} {q : Nat → Nat} {b1 : Nat} {z : Nat → Int32} {g_bId : Nat → Int32} {n1 : Nat} {h1 : Nat → Int32} {fu : Nat} (F : Fx p s m args meth c b_M_find 6 "CoinKeeperModel" "find" (some .int) D cy ad A) : I_M_find_e p l e s m args below meth c D cy A ad o q b1 z g_bId n1 h1 (x_M_find fu z g_bId n1 h1) := by
  obtain ⟨hx, hb, hr, hml, hown, hts, hlocks, hK, hA, hSt, hnm, hex⟩ := id F
  intro a2 res hf H locs ls hP hD hS hl
  unfold x_M_find at hf
  refine lv_iconst (v := 0) hx hb d_M_find_0 (by decide) ?_
  refine lv_istore_n (lv' := [(3, .int (0 : Int32)), (0, .ref o), (1, .ref b1), (2, .int a2)]) hx hb d_M_find_1 rfl hl (by decide) rfl (fun ls hl => ?_)
  exact w_M_find_2 F fu _ _ _ hf _ _ _ hP hD hS (lv_sub hl [1, 2, 3, 0] rfl)
theorem c_M_find (l : Launch) (D : va_G) (cy : Nat → ClassId) (ad : Nat → Nat) (fu : Nat) (o : Nat) (q : Nat → Nat) (b1 : Nat) (z : Nat → Int32) (g_bId : Nat → Int32) (n1 : Nat) (h1 : Nat → Int32) (a2 : Int32) (res : Int32) (hf : x_M_find fu z g_bId n1 h1 a2 = some res) (sz : Nat) : Met l ({ cls := "CoinKeeperModel", name := "find", desc := "([BI)I" } : Jvm.MethodName) (.code ({ cls := "CoinKeeperModel", name := "find", desc := "([BI)I" } : Jvm.MethodName) b_M_find 6 (some .int) :: gw) rm_M_find (va_Pc [.ref o, .ref b1, .int a2] (Pr D cy ad [(o, .inr (12, mo q z)), ((q 9), .inl (cy 1, 1616, .inl g_bId)), (b1, .inl (cy 0, n1, .inl h1))] sz)) (q_M_find D cy (va_A [(o, .inr (12, mo q z)), ((q 9), .inl (cy 1, 1616, .inl g_bId)), (b1, .inl (cy 0, n1, .inl h1))] sz) o q b1 z g_bId n1 h1 res) 0 0 (va_A [(o, .inr (12, mo q z)), ((q 9), .inl (cy 1, 1616, .inl g_bId)), (b1, .inl (cy 0, n1, .inl h1))] sz) :=
  q_met (Qc := fun A => q_M_find D cy A o q b1 z g_bId n1 h1 res) (by decide) rfl rfl (Nat.le_of_ble_eq_true rfl) (fun p e s m below meth c ls F hP hD hS hl => we_M_find (fu := fu) F a2 res hf _ _ _ hP hD hS hl) sz
abbrev b_M_medianOf : ByteArray := prog_14_method_63_code
theorem d_M_medianOf_0 : decode b_M_medianOf 0 = .ok (.iconst 0, 1) := by decide +kernel
theorem d_M_medianOf_1 : decode b_M_medianOf 1 = .ok (.istore_n 2, 1) := by decide +kernel
theorem d_M_medianOf_2 : decode b_M_medianOf 2 = .ok (.iload_n 1, 1) := by decide +kernel
theorem d_M_medianOf_3 : decode b_M_medianOf 3 = .ok (.istore_n 3, 1) := by decide +kernel
theorem d_M_medianOf_4 : decode b_M_medianOf 4 = .ok (.iload_n 3, 1) := by decide +kernel
theorem d_M_medianOf_5 : decode b_M_medianOf 5 = .ok (.ifCond .lt 34, 3) := by decide +kernel
theorem d_M_medianOf_8 : decode b_M_medianOf 8 = .ok (.iload_n 2, 1) := by decide +kernel
theorem d_M_medianOf_9 : decode b_M_medianOf 9 = .ok (.bipush 11, 2) := by decide +kernel
theorem d_M_medianOf_11 : decode b_M_medianOf 11 = .ok (.if_icmp .ge 28, 3) := by decide +kernel
theorem d_M_medianOf_14 : decode b_M_medianOf 14 = .ok (.aload_n 0, 1) := by decide +kernel
theorem d_M_medianOf_15 : decode b_M_medianOf 15 = .ok (.getfield 237, 3) := by decide +kernel
theorem d_M_medianOf_18 : decode b_M_medianOf 18 = .ok (.iload_n 2, 1) := by decide +kernel
theorem d_M_medianOf_19 : decode b_M_medianOf 19 = .ok (.iinc 2 1, 3) := by decide +kernel
theorem d_M_medianOf_22 : decode b_M_medianOf 22 = .ok (.aload_n 0, 1) := by decide +kernel
theorem d_M_medianOf_23 : decode b_M_medianOf 23 = .ok (.getfield 27, 3) := by decide +kernel
theorem d_M_medianOf_26 : decode b_M_medianOf 26 = .ok (.iload_n 3, 1) := by decide +kernel
theorem d_M_medianOf_27 : decode b_M_medianOf 27 = .ok (.iaload, 1) := by decide +kernel
theorem d_M_medianOf_28 : decode b_M_medianOf 28 = .ok (.iastore, 1) := by decide +kernel
theorem d_M_medianOf_29 : decode b_M_medianOf 29 = .ok (.aload_n 0, 1) := by decide +kernel
theorem d_M_medianOf_30 : decode b_M_medianOf 30 = .ok (.getfield 21, 3) := by decide +kernel
theorem d_M_medianOf_33 : decode b_M_medianOf 33 = .ok (.iload_n 3, 1) := by decide +kernel
theorem d_M_medianOf_34 : decode b_M_medianOf 34 = .ok (.iaload, 1) := by decide +kernel
theorem d_M_medianOf_35 : decode b_M_medianOf 35 = .ok (.istore_n 3, 1) := by decide +kernel
theorem d_M_medianOf_36 : decode b_M_medianOf 36 = .ok (.goto (-32), 3) := by decide +kernel
theorem d_M_medianOf_39 : decode b_M_medianOf 39 = .ok (.iconst 1, 1) := by decide +kernel
theorem d_M_medianOf_40 : decode b_M_medianOf 40 = .ok (.istore_n 3, 1) := by decide +kernel
theorem d_M_medianOf_41 : decode b_M_medianOf 41 = .ok (.iload_n 3, 1) := by decide +kernel
theorem d_M_medianOf_42 : decode b_M_medianOf 42 = .ok (.iload_n 2, 1) := by decide +kernel
theorem d_M_medianOf_43 : decode b_M_medianOf 43 = .ok (.if_icmp .ge 81, 3) := by decide +kernel
theorem d_M_medianOf_46 : decode b_M_medianOf 46 = .ok (.iload_n 3, 1) := by decide +kernel
theorem d_M_medianOf_47 : decode b_M_medianOf 47 = .ok (.istore 4, 2) := by decide +kernel
theorem d_M_medianOf_49 : decode b_M_medianOf 49 = .ok (.iload 4, 2) := by decide +kernel
theorem d_M_medianOf_51 : decode b_M_medianOf 51 = .ok (.ifCond .le 67, 3) := by decide +kernel
theorem d_M_medianOf_54 : decode b_M_medianOf 54 = .ok (.aload_n 0, 1) := by decide +kernel
theorem d_M_medianOf_55 : decode b_M_medianOf 55 = .ok (.getfield 237, 3) := by decide +kernel
theorem d_M_medianOf_58 : decode b_M_medianOf 58 = .ok (.iload 4, 2) := by decide +kernel
theorem d_M_medianOf_60 : decode b_M_medianOf 60 = .ok (.iaload, 1) := by decide +kernel
theorem d_M_medianOf_61 : decode b_M_medianOf 61 = .ok (.aload_n 0, 1) := by decide +kernel
theorem d_M_medianOf_62 : decode b_M_medianOf 62 = .ok (.getfield 237, 3) := by decide +kernel
theorem d_M_medianOf_65 : decode b_M_medianOf 65 = .ok (.iload 4, 2) := by decide +kernel
theorem d_M_medianOf_67 : decode b_M_medianOf 67 = .ok (.iconst 1, 1) := by decide +kernel
theorem d_M_medianOf_68 : decode b_M_medianOf 68 = .ok (.isub, 1) := by decide +kernel
theorem d_M_medianOf_69 : decode b_M_medianOf 69 = .ok (.iaload, 1) := by decide +kernel
theorem d_M_medianOf_70 : decode b_M_medianOf 70 = .ok (.invokestatic 327, 3) := by decide +kernel
theorem d_M_medianOf_73 : decode b_M_medianOf 73 = .ok (.ifCond .ge 45, 3) := by decide +kernel
theorem d_M_medianOf_76 : decode b_M_medianOf 76 = .ok (.aload_n 0, 1) := by decide +kernel
theorem d_M_medianOf_77 : decode b_M_medianOf 77 = .ok (.getfield 237, 3) := by decide +kernel
theorem d_M_medianOf_80 : decode b_M_medianOf 80 = .ok (.iload 4, 2) := by decide +kernel
theorem d_M_medianOf_82 : decode b_M_medianOf 82 = .ok (.iaload, 1) := by decide +kernel
theorem d_M_medianOf_83 : decode b_M_medianOf 83 = .ok (.istore 5, 2) := by decide +kernel
theorem d_M_medianOf_85 : decode b_M_medianOf 85 = .ok (.aload_n 0, 1) := by decide +kernel
theorem d_M_medianOf_86 : decode b_M_medianOf 86 = .ok (.getfield 237, 3) := by decide +kernel
theorem d_M_medianOf_89 : decode b_M_medianOf 89 = .ok (.iload 4, 2) := by decide +kernel
theorem d_M_medianOf_91 : decode b_M_medianOf 91 = .ok (.aload_n 0, 1) := by decide +kernel
theorem d_M_medianOf_92 : decode b_M_medianOf 92 = .ok (.getfield 237, 3) := by decide +kernel
theorem d_M_medianOf_95 : decode b_M_medianOf 95 = .ok (.iload 4, 2) := by decide +kernel
theorem d_M_medianOf_97 : decode b_M_medianOf 97 = .ok (.iconst 1, 1) := by decide +kernel
theorem d_M_medianOf_98 : decode b_M_medianOf 98 = .ok (.isub, 1) := by decide +kernel
theorem d_M_medianOf_99 : decode b_M_medianOf 99 = .ok (.iaload, 1) := by decide +kernel
theorem d_M_medianOf_100 : decode b_M_medianOf 100 = .ok (.iastore, 1) := by decide +kernel
theorem d_M_medianOf_101 : decode b_M_medianOf 101 = .ok (.aload_n 0, 1) := by decide +kernel
theorem d_M_medianOf_102 : decode b_M_medianOf 102 = .ok (.getfield 237, 3) := by decide +kernel
theorem d_M_medianOf_105 : decode b_M_medianOf 105 = .ok (.iload 4, 2) := by decide +kernel
theorem d_M_medianOf_107 : decode b_M_medianOf 107 = .ok (.iconst 1, 1) := by decide +kernel
theorem d_M_medianOf_108 : decode b_M_medianOf 108 = .ok (.isub, 1) := by decide +kernel
theorem d_M_medianOf_109 : decode b_M_medianOf 109 = .ok (.iload 5, 2) := by decide +kernel
theorem d_M_medianOf_111 : decode b_M_medianOf 111 = .ok (.iastore, 1) := by decide +kernel
theorem d_M_medianOf_112 : decode b_M_medianOf 112 = .ok (.iinc 4 (-1), 3) := by decide +kernel
theorem d_M_medianOf_115 : decode b_M_medianOf 115 = .ok (.goto (-66), 3) := by decide +kernel
theorem d_M_medianOf_118 : decode b_M_medianOf 118 = .ok (.iinc 3 1, 3) := by decide +kernel
theorem d_M_medianOf_121 : decode b_M_medianOf 121 = .ok (.goto (-80), 3) := by decide +kernel
theorem d_M_medianOf_124 : decode b_M_medianOf 124 = .ok (.aload_n 0, 1) := by decide +kernel
theorem d_M_medianOf_125 : decode b_M_medianOf 125 = .ok (.getfield 237, 3) := by decide +kernel
theorem d_M_medianOf_128 : decode b_M_medianOf 128 = .ok (.iload_n 2, 1) := by decide +kernel
theorem d_M_medianOf_129 : decode b_M_medianOf 129 = .ok (.iconst 2, 1) := by decide +kernel
theorem d_M_medianOf_130 : decode b_M_medianOf 130 = .ok (.idiv, 1) := by decide +kernel
theorem d_M_medianOf_131 : decode b_M_medianOf 131 = .ok (.iaload, 1) := by decide +kernel
theorem d_M_medianOf_132 : decode b_M_medianOf 132 = .ok (.ireturn, 1) := by decide +kernel
abbrev rm_M_medianOf : Room := { frames := 2, cells := 0, slots := 0, locals := 42 }
abbrev q_M_medianOf (D : va_G) (cy : Nat → ClassId) (A : Nat → Prop) (o : Nat) (q : Nat → Nat) (z : Nat → Int32) (g_parent : Nat → Int32) (g_time : Nat → Int32) (res : Int32 × (Nat → Int32)) : Array Value → State → Outcome → State → Prop := va_Qi (fun r' (_ : Unit) => r' = res.1) (fun _ t => Po D cy A [(o, .inr (12, mo q z)), ((q 3), .inl (cy 1, 202, .inl g_parent)), ((q 5), .inl (cy 1, 202, .inl g_time)), ((q 73), .inl (cy 1, 11, .inl res.2))] t) A
def I_M_medianOf_118 (p : Program) (l : Launch) (e : Env) (s : State) (m : MethodId) (args : Array Value) (below : List Frame) (meth : Method) (c : Code) (D : va_G) (cy : Nat → ClassId) (A : Nat → Prop) (ad : Nat → Nat) (o : Nat) (q : Nat → Nat) (z : Nat → Int32) (g_parent : Nat → Int32) (g_time : Nat → Int32) (k : Int32 → Int32 → (Nat → Int32) → Option (Int32 × (Nat → Int32))) : Prop :=
  ∀ (x2 : Int32) (x3 : Int32) (u0 : Nat → Int32) (res : Int32 × (Nat → Int32)), k x2 x3 u0 = some res → ∀ (H : Heap) (locs : List Loc) (ls : Array Slot), va_P D classes [(o, .inr (12, mo q z)), ((q 3), .inl (cy 1, 202, .inl g_parent)), ((q 5), .inl (cy 1, 202, .inl g_time)), ((q 73), .inl (cy 1, 11, .inl u0))] H → va_D A [(o, .inr (12, mo q z)), ((q 3), .inl (cy 1, 202, .inl g_parent)), ((q 5), .inl (cy 1, 202, .inl g_time)), ((q 73), .inl (cy 1, 11, .inl u0))] → va_S A s.heap H locs → lv_has ls 6 [(0, .ref o), (2, .int x2), (3, .int x3)] → W p l e rm_M_medianOf s m args below meth c H locs 0 0 (MQ below (q_M_medianOf D cy A o q z g_parent g_time res) args s 0 0 A) (F0 m 118 ls [])
def I_M_medianOf_49 (p : Program) (l : Launch) (e : Env) (s : State) (m : MethodId) (args : Array Value) (below : List Frame) (meth : Method) (c : Code) (D : va_G) (cy : Nat → ClassId) (A : Nat → Prop) (ad : Nat → Nat) (o : Nat) (q : Nat → Nat) (z : Nat → Int32) (g_parent : Nat → Int32) (g_time : Nat → Int32) (k : Int32 → Int32 → Int32 → (Nat → Int32) → Option (Int32 × (Nat → Int32))) : Prop :=
  ∀ (x2 : Int32) (x3 : Int32) (x4 : Int32) (u0 : Nat → Int32) (res : Int32 × (Nat → Int32)), k x2 x3 x4 u0 = some res → ∀ (H : Heap) (locs : List Loc) (ls : Array Slot), va_P D classes [(o, .inr (12, mo q z)), ((q 3), .inl (cy 1, 202, .inl g_parent)), ((q 5), .inl (cy 1, 202, .inl g_time)), ((q 73), .inl (cy 1, 11, .inl u0))] H → va_D A [(o, .inr (12, mo q z)), ((q 3), .inl (cy 1, 202, .inl g_parent)), ((q 5), .inl (cy 1, 202, .inl g_time)), ((q 73), .inl (cy 1, 11, .inl u0))] → va_S A s.heap H locs → lv_has ls 6 [(0, .ref o), (2, .int x2), (3, .int x3), (4, .int x4)] → W p l e rm_M_medianOf s m args below meth c H locs 0 0 (MQ below (q_M_medianOf D cy A o q z g_parent g_time res) args s 0 0 A) (F0 m 49 ls [])
def I_M_medianOf_41 (p : Program) (l : Launch) (e : Env) (s : State) (m : MethodId) (args : Array Value) (below : List Frame) (meth : Method) (c : Code) (D : va_G) (cy : Nat → ClassId) (A : Nat → Prop) (ad : Nat → Nat) (o : Nat) (q : Nat → Nat) (z : Nat → Int32) (g_parent : Nat → Int32) (g_time : Nat → Int32) (k : Int32 → Int32 → (Nat → Int32) → Option (Int32 × (Nat → Int32))) : Prop :=
  ∀ (x2 : Int32) (x3 : Int32) (u0 : Nat → Int32) (res : Int32 × (Nat → Int32)), k x2 x3 u0 = some res → ∀ (H : Heap) (locs : List Loc) (ls : Array Slot), va_P D classes [(o, .inr (12, mo q z)), ((q 3), .inl (cy 1, 202, .inl g_parent)), ((q 5), .inl (cy 1, 202, .inl g_time)), ((q 73), .inl (cy 1, 11, .inl u0))] H → va_D A [(o, .inr (12, mo q z)), ((q 3), .inl (cy 1, 202, .inl g_parent)), ((q 5), .inl (cy 1, 202, .inl g_time)), ((q 73), .inl (cy 1, 11, .inl u0))] → va_S A s.heap H locs → lv_has ls 6 [(0, .ref o), (2, .int x2), (3, .int x3)] → W p l e rm_M_medianOf s m args below meth c H locs 0 0 (MQ below (q_M_medianOf D cy A o q z g_parent g_time res) args s 0 0 A) (F0 m 41 ls [])
def I_M_medianOf_39 (p : Program) (l : Launch) (e : Env) (s : State) (m : MethodId) (args : Array Value) (below : List Frame) (meth : Method) (c : Code) (D : va_G) (cy : Nat → ClassId) (A : Nat → Prop) (ad : Nat → Nat) (o : Nat) (q : Nat → Nat) (z : Nat → Int32) (g_parent : Nat → Int32) (g_time : Nat → Int32) (k : Int32 → (Nat → Int32) → Option (Int32 × (Nat → Int32))) : Prop :=
  ∀ (x2 : Int32) (u0 : Nat → Int32) (res : Int32 × (Nat → Int32)), k x2 u0 = some res → ∀ (H : Heap) (locs : List Loc) (ls : Array Slot), va_P D classes [(o, .inr (12, mo q z)), ((q 3), .inl (cy 1, 202, .inl g_parent)), ((q 5), .inl (cy 1, 202, .inl g_time)), ((q 73), .inl (cy 1, 11, .inl u0))] H → va_D A [(o, .inr (12, mo q z)), ((q 3), .inl (cy 1, 202, .inl g_parent)), ((q 5), .inl (cy 1, 202, .inl g_time)), ((q 73), .inl (cy 1, 11, .inl u0))] → va_S A s.heap H locs → lv_has ls 6 [(0, .ref o), (2, .int x2)] → W p l e rm_M_medianOf s m args below meth c H locs 0 0 (MQ below (q_M_medianOf D cy A o q z g_parent g_time res) args s 0 0 A) (F0 m 39 ls [])
def I_M_medianOf_4 (p : Program) (l : Launch) (e : Env) (s : State) (m : MethodId) (args : Array Value) (below : List Frame) (meth : Method) (c : Code) (D : va_G) (cy : Nat → ClassId) (A : Nat → Prop) (ad : Nat → Nat) (o : Nat) (q : Nat → Nat) (z : Nat → Int32) (g_parent : Nat → Int32) (g_time : Nat → Int32) (k : Int32 → Int32 → (Nat → Int32) → Option (Int32 × (Nat → Int32))) : Prop :=
  ∀ (x2 : Int32) (x3 : Int32) (u0 : Nat → Int32) (res : Int32 × (Nat → Int32)), k x2 x3 u0 = some res → ∀ (H : Heap) (locs : List Loc) (ls : Array Slot), va_P D classes [(o, .inr (12, mo q z)), ((q 3), .inl (cy 1, 202, .inl g_parent)), ((q 5), .inl (cy 1, 202, .inl g_time)), ((q 73), .inl (cy 1, 11, .inl u0))] H → va_D A [(o, .inr (12, mo q z)), ((q 3), .inl (cy 1, 202, .inl g_parent)), ((q 5), .inl (cy 1, 202, .inl g_time)), ((q 73), .inl (cy 1, 11, .inl u0))] → va_S A s.heap H locs → lv_has ls 6 [(0, .ref o), (2, .int x2), (3, .int x3)] → W p l e rm_M_medianOf s m args below meth c H locs 0 0 (MQ below (q_M_medianOf D cy A o q z g_parent g_time res) args s 0 0 A) (F0 m 4 ls [])
def I_M_medianOf_e (p : Program) (l : Launch) (e : Env) (s : State) (m : MethodId) (args : Array Value) (below : List Frame) (meth : Method) (c : Code) (D : va_G) (cy : Nat → ClassId) (A : Nat → Prop) (ad : Nat → Nat) (o : Nat) (q : Nat → Nat) (z : Nat → Int32) (g_parent : Nat → Int32) (g_time : Nat → Int32) (k : Int32 → (Nat → Int32) → Option (Int32 × (Nat → Int32))) : Prop :=
  ∀ (a1 : Int32) (u0 : Nat → Int32) (res : Int32 × (Nat → Int32)), k a1 u0 = some res → ∀ (H : Heap) (locs : List Loc) (ls : Array Slot), va_P D classes [(o, .inr (12, mo q z)), ((q 3), .inl (cy 1, 202, .inl g_parent)), ((q 5), .inl (cy 1, 202, .inl g_time)), ((q 73), .inl (cy 1, 11, .inl u0))] H → va_D A [(o, .inr (12, mo q z)), ((q 3), .inl (cy 1, 202, .inl g_parent)), ((q 5), .inl (cy 1, 202, .inl g_time)), ((q 73), .inl (cy 1, 11, .inl u0))] → va_S A s.heap H locs → lv_has ls 6 [(0, .ref o), (1, .int a1)] → W p l e rm_M_medianOf s m args below meth c H locs 0 0 (MQ below (q_M_medianOf D cy A o q z g_parent g_time res) args s 0 0 A) (F0 m 0 ls [])
set_option maxHeartbeats 8000000 in
set_option maxRecDepth 100000 in
theorem wb_M_medianOf_118 {p : Program} {l : Launch} {e : Env} {s : State} {m : MethodId} {args : Array Value} {below : List Frame} {meth : Method} {c : Code} {D : va_G} {cy : Nat → ClassId} {A : Nat → Prop} {ad : Nat → Nat} {o : Nat} {q : Nat → Nat} {z : Nat → Int32} {g_parent : Nat → Int32} {g_time : Nat → Int32} {fu : Nat} {k_41 : Int32 → Int32 → (Nat → Int32) → Option (Int32 × (Nat → Int32))} (F : Fx p s m args meth c b_M_medianOf 6 "CoinKeeperModel" "medianOf" (some .int) D cy ad A) (hk_41 : I_M_medianOf_41 p l e s m args below meth c D cy A ad o q z g_parent g_time k_41) : I_M_medianOf_118 p l e s m args below meth c D cy A ad o q z g_parent g_time (xb_M_medianOf_118 fu z g_parent g_time k_41) := by
  obtain ⟨hx, hb, hr, hml, hown, hts, hlocks, hK, hA, hSt, hnm, hex⟩ := id F
  intro x2 x3 u0 res hf H locs ls hP hD hS hl
  unfold xb_M_medianOf_118 at hf
  obtain ⟨v1, ev, hf⟩ := bne hf
  refine lv_iinc (v := v1) (lv' := [(3, .int v1), (0, .ref o), (2, .int x2)]) hx hb d_M_medianOf_118 hl (k := 2) rfl (by rw [ev]; rfl) (by decide) rfl (fun ls hl => ?_)
  clear ev
  refine lv_goto (tgt := 41) hx hb d_M_medianOf_121 (by decide) ?_
  exact hk_41 _ _ _ _ hf _ _ _ hP hD hS (lv_sub hl [1, 2, 0] rfl)
set_option maxHeartbeats 8000000 in
set_option maxRecDepth 100000 in
theorem wb_M_medianOf_49 {p : Program} {l : Launch} {e : Env} {s : State} {m : MethodId} {args : Array Value} {below : List Frame} {meth : Method} {c : Code} {D : va_G} {cy : Nat → ClassId} {A : Nat → Prop} {ad : Nat → Nat} {o : Nat} {q : Nat → Nat} {z : Nat → Int32} {g_parent : Nat → Int32} {g_time : Nat → Int32} {fu : Nat} {k_41 : Int32 → Int32 → (Nat → Int32) → Option (Int32 × (Nat → Int32))} {k_49 : Int32 → Int32 → Int32 → (Nat → Int32) → Option (Int32 × (Nat → Int32))} (F : Fx p s m args meth c b_M_medianOf 6 "CoinKeeperModel" "medianOf" (some .int) D cy ad A) (hk_41 : I_M_medianOf_41 p l e s m args below meth c D cy A ad o q z g_parent g_time k_41) (hk_49 : I_M_medianOf_49 p l e s m args below meth c D cy A ad o q z g_parent g_time k_49) : I_M_medianOf_49 p l e s m args below meth c D cy A ad o q z g_parent g_time (xb_M_medianOf_49 fu z g_parent g_time k_41 k_49) := by
  obtain ⟨hx, hb, hr, hml, hown, hts, hlocks, hK, hA, hSt, hnm, hex⟩ := id F
  intro x2 x3 x4 u0 res hf H locs ls hP hD hS hl
  unfold xb_M_medianOf_49 at hf
  refine lv_iload hx hb d_M_medianOf_49 (lv_at hl 3 rfl) ?_
  refine lv_if_le (tgt := 118) hx hb d_M_medianOf_51 (by decide) (fun cx => ?_) (fun cx => ?_)
  · have hf := ifp cx hf
    exact wb_M_medianOf_118 (fu := fu) F hk_41 _ _ _ _ hf _ _ _ hP hD hS (lv_sub hl [0, 1, 2] rfl)
  · have hf := ifn cx hf
    refine lv_aload_n hx hb d_M_medianOf_54 rfl (lv_at hl 0 rfl) ?_
    refine va_get (D := D) (ci := 12) (v := .ref (q 73)) (C := "CoinKeeperModel") (T := F_12) (N := 98) hx hb hts i_12 hown hK hP 0 rfl rfl 92 (by decide) (hts _ gw_1511) (fun _ h9 => h9) rfl d_M_medianOf_55 ?_
    refine lv_iload hx hb d_M_medianOf_58 (lv_at hl 3 rfl) ?_
    obtain ⟨hg, hf⟩ := gdp hf
    refine va_iald hx hb hK hP 3 1 rfl rfl (inb_in hg) d_M_medianOf_60 ?_
    refine lv_topi (fun v1 ev => ?_)
    have hf := bn ev hf
    clear ev
    refine lv_aload_n hx hb d_M_medianOf_61 rfl (lv_at hl 0 rfl) ?_
    refine va_get (D := D) (ci := 12) (v := .ref (q 73)) (C := "CoinKeeperModel") (T := F_12) (N := 98) hx hb hts i_12 hown hK hP 0 rfl rfl 92 (by decide) (hts _ gw_1511) (fun _ h9 => h9) rfl d_M_medianOf_62 ?_
    refine lv_iload hx hb d_M_medianOf_65 (lv_at hl 3 rfl) ?_
    refine lv_iconst (v := 1) hx hb d_M_medianOf_67 (by decide) ?_
    refine lv_isub hx hb d_M_medianOf_68 ?_
    refine lv_topi (fun v2 ev => ?_)
    have hf := bn ev hf
    clear ev
    obtain ⟨hg, hf⟩ := gdp hf
    refine va_iald hx hb hK hP 3 1 rfl rfl (inb_in hg) d_M_medianOf_69 ?_
    refine lv_topi (fun v3 ev => ?_)
    have hf := bn ev hf
    clear ev
    obtain ⟨v4, hc, hf⟩ := bdp1 hf
    refine q_ai (wr := [(o, .inr (12, mo q z)), ((q 3), .inl (cy 1, 202, .inl g_parent)), ((q 5), .inl (cy 1, 202, .inl g_time)), ((q 73), .inl (cy 1, 11, .inl u0))]) (va_runS (As := [.int v1, .int v3]) (rest := []) ⟨hx, hb, hml, hown, hts⟩ (c_Ig_compareUnsigned l D cy ad fu v1 v3 _ hc H.size) ⟨q_cB hts gw_1407 gw_19 gw_1405 hdm_15 ⟨by decide, by decide⟩, hts _ gw_1406⟩ (q_pre (hP.sub [] rfl) (hD.sub [] (by decide) rfl) hK hSt hS (va_free hD hS hA [] rfl) _) rfl rfl hl.1 rfl (lv_room (Nat.le_of_ble_eq_true rfl)) d_M_medianOf_70 ⟨Nat.le_of_ble_eq_true rfl, Nat.le_of_ble_eq_true rfl⟩) hP hD hS hA [] [0, 1, 2, 3] rfl rfl (by decide) (by decide) (fun H locs hP hD hS => ?_)
    clear hc
    have hP : va_P D classes [(o, .inr (12, mo q z)), ((q 3), .inl (cy 1, 202, .inl g_parent)), ((q 5), .inl (cy 1, 202, .inl g_time)), ((q 73), .inl (cy 1, 11, .inl u0))] H := hP
    have hD : va_D A [(o, .inr (12, mo q z)), ((q 3), .inl (cy 1, 202, .inl g_parent)), ((q 5), .inl (cy 1, 202, .inl g_time)), ((q 73), .inl (cy 1, 11, .inl u0))] := hD
    refine lv_if_ge (tgt := 118) hx hb d_M_medianOf_73 (by decide) (fun cx => ?_) (fun cx => ?_)
    · have hf := ifp cx hf
      exact wb_M_medianOf_118 (fu := fu) F hk_41 _ _ _ _ hf _ _ _ hP hD hS (lv_sub hl [0, 1, 2] rfl)
    · have hf := ifn cx hf
      refine lv_aload_n hx hb d_M_medianOf_76 rfl (lv_at hl 0 rfl) ?_
      refine va_get (D := D) (ci := 12) (v := .ref (q 73)) (C := "CoinKeeperModel") (T := F_12) (N := 98) hx hb hts i_12 hown hK hP 0 rfl rfl 92 (by decide) (hts _ gw_1511) (fun _ h9 => h9) rfl d_M_medianOf_77 ?_
      refine lv_iload hx hb d_M_medianOf_80 (lv_at hl 3 rfl) ?_
      obtain ⟨hg, hf⟩ := gdp hf
      refine va_iald hx hb hK hP 3 1 rfl rfl (inb_in hg) d_M_medianOf_82 ?_
      refine lv_topi (fun v5 ev => ?_)
      have hf := bn ev hf
      clear ev
      refine lv_istore (lv' := [(5, .int v5), (0, .ref o), (2, .int x2), (3, .int x3), (4, .int x4)]) hx hb d_M_medianOf_83 hl (by decide) rfl (fun ls hl => ?_)
      refine lv_aload_n hx hb d_M_medianOf_85 rfl (lv_at hl 1 rfl) ?_
      refine va_get (D := D) (ci := 12) (v := .ref (q 73)) (C := "CoinKeeperModel") (T := F_12) (N := 98) hx hb hts i_12 hown hK hP 0 rfl rfl 92 (by decide) (hts _ gw_1511) (fun _ h9 => h9) rfl d_M_medianOf_86 ?_
      refine lv_iload hx hb d_M_medianOf_89 (lv_at hl 4 rfl) ?_
      refine lv_aload_n hx hb d_M_medianOf_91 rfl (lv_at hl 1 rfl) ?_
      refine va_get (D := D) (ci := 12) (v := .ref (q 73)) (C := "CoinKeeperModel") (T := F_12) (N := 98) hx hb hts i_12 hown hK hP 0 rfl rfl 92 (by decide) (hts _ gw_1511) (fun _ h9 => h9) rfl d_M_medianOf_92 ?_
      refine lv_iload hx hb d_M_medianOf_95 (lv_at hl 4 rfl) ?_
      refine lv_iconst (v := 1) hx hb d_M_medianOf_97 (by decide) ?_
      refine lv_isub hx hb d_M_medianOf_98 ?_
      refine lv_topi (fun v6 ev => ?_)
      have hf := bn ev hf
      clear ev
      obtain ⟨hg, hf⟩ := gdp hf
      refine va_iald hx hb hK hP 3 1 rfl rfl (inb_in hg) d_M_medianOf_99 ?_
      refine lv_topi (fun v7 ev => ?_)
      have hf := bn ev hf
      clear ev
      obtain ⟨hg, hf⟩ := gdp hf
      refine va_iast hx hb hK hP hD hS 3 1 rfl rfl (inb_in hg) d_M_medianOf_100 (fun H locs hP hD hS => ?_)
      obtain ⟨f8, ev, hf⟩ := bne hf
      have hP : va_P D classes [(o, .inr (12, mo q z)), ((q 3), .inl (cy 1, 202, .inl g_parent)), ((q 5), .inl (cy 1, 202, .inl g_time)), ((q 73), .inl (cy 1, 11, .inl f8))] H := by rw [ev]; exact hP
      have hD : va_D A [(o, .inr (12, mo q z)), ((q 3), .inl (cy 1, 202, .inl g_parent)), ((q 5), .inl (cy 1, 202, .inl g_time)), ((q 73), .inl (cy 1, 11, .inl f8))] := by rw [ev]; exact hD
      clear ev
      refine lv_aload_n hx hb d_M_medianOf_101 rfl (lv_at hl 1 rfl) ?_
      refine va_get (D := D) (ci := 12) (v := .ref (q 73)) (C := "CoinKeeperModel") (T := F_12) (N := 98) hx hb hts i_12 hown hK hP 0 rfl rfl 92 (by decide) (hts _ gw_1511) (fun _ h9 => h9) rfl d_M_medianOf_102 ?_
      refine lv_iload hx hb d_M_medianOf_105 (lv_at hl 4 rfl) ?_
      refine lv_iconst (v := 1) hx hb d_M_medianOf_107 (by decide) ?_
      refine lv_isub hx hb d_M_medianOf_108 ?_
      refine lv_topi (fun v9 ev => ?_)
      have hf := bn ev hf
      clear ev
      refine lv_iload hx hb d_M_medianOf_109 (lv_at hl 0 rfl) ?_
      obtain ⟨hg, hf⟩ := gdp hf
      refine va_iast hx hb hK hP hD hS 3 1 rfl rfl (inb_in hg) d_M_medianOf_111 (fun H locs hP hD hS => ?_)
      obtain ⟨f10, ev, hf⟩ := bne hf
      have hP : va_P D classes [(o, .inr (12, mo q z)), ((q 3), .inl (cy 1, 202, .inl g_parent)), ((q 5), .inl (cy 1, 202, .inl g_time)), ((q 73), .inl (cy 1, 11, .inl f10))] H := by rw [ev]; exact hP
      have hD : va_D A [(o, .inr (12, mo q z)), ((q 3), .inl (cy 1, 202, .inl g_parent)), ((q 5), .inl (cy 1, 202, .inl g_time)), ((q 73), .inl (cy 1, 11, .inl f10))] := by rw [ev]; exact hD
      clear ev
      obtain ⟨v11, ev, hf⟩ := bne hf
      refine lv_iinc (v := v11) (lv' := [(4, .int v11), (5, .int v5), (0, .ref o), (2, .int x2), (3, .int x3)]) hx hb d_M_medianOf_112 hl (k := 4) rfl (by rw [ev]; rfl) (by decide) rfl (fun ls hl => ?_)
      clear ev
      refine lv_goto (tgt := 49) hx hb d_M_medianOf_115 (by decide) ?_
      exact hk_49 _ _ _ _ _ hf _ _ _ hP hD hS (lv_sub hl [2, 3, 4, 0] rfl)
theorem w_M_medianOf_49 {p : Program} {l : Launch} {e : Env} {s : State} {m : MethodId} {args : Array Value} {below : List Frame} {meth : Method} {c : Code} {D : va_G} {cy : Nat → ClassId} {A : Nat → Prop} {ad : Nat → Nat} {o : Nat} {q : Nat → Nat} {z : Nat → Int32} {g_parent : Nat → Int32} {g_time : Nat → Int32} {fu : Nat} {k_41 : Int32 → Int32 → (Nat → Int32) → Option (Int32 × (Nat → Int32))} (F : Fx p s m args meth c b_M_medianOf 6 "CoinKeeperModel" "medianOf" (some .int) D cy ad A) (hk_41 : I_M_medianOf_41 p l e s m args below meth c D cy A ad o q z g_parent g_time k_41) : ∀ n : Nat, I_M_medianOf_49 p l e s m args below meth c D cy A ad o q z g_parent g_time (x_M_medianOf_49 fu z g_parent g_time k_41 n)
  | 0 => fun _ _ _ _ _ hf => nomatch (show (none : Option (Int32 × (Nat → Int32))) = some _ from hf)
  | n + 1 => wb_M_medianOf_49 F hk_41 (w_M_medianOf_49 F hk_41 n)
set_option maxHeartbeats 8000000 in
set_option maxRecDepth 100000 in
theorem wb_M_medianOf_41 {p : Program} {l : Launch} {e : Env} {s : State} {m : MethodId} {args : Array Value} {below : List Frame} {meth : Method} {c : Code} {D : va_G} {cy : Nat → ClassId} {A : Nat → Prop} {ad : Nat → Nat} {o : Nat} {q : Nat → Nat} {z : Nat → Int32} {g_parent : Nat → Int32} {g_time : Nat → Int32} {fu : Nat} {k_41 : Int32 → Int32 → (Nat → Int32) → Option (Int32 × (Nat → Int32))} (F : Fx p s m args meth c b_M_medianOf 6 "CoinKeeperModel" "medianOf" (some .int) D cy ad A) (hk_41 : I_M_medianOf_41 p l e s m args below meth c D cy A ad o q z g_parent g_time k_41) : I_M_medianOf_41 p l e s m args below meth c D cy A ad o q z g_parent g_time (xb_M_medianOf_41 fu z g_parent g_time k_41) := by
  obtain ⟨hx, hb, hr, hml, hown, hts, hlocks, hK, hA, hSt, hnm, hex⟩ := id F
  intro x2 x3 u0 res hf H locs ls hP hD hS hl
  unfold xb_M_medianOf_41 at hf
  refine lv_iload_n hx hb d_M_medianOf_41 rfl (lv_at hl 2 rfl) ?_
  refine lv_iload_n hx hb d_M_medianOf_42 rfl (lv_at hl 1 rfl) ?_
  refine lv_icmp_ge (tgt := 124) hx hb d_M_medianOf_43 (by decide) (fun cx => ?_) (fun cx => ?_)
  · have hf := ifp cx hf
    refine lv_aload_n hx hb d_M_medianOf_124 rfl (lv_at hl 0 rfl) ?_
    refine va_get (D := D) (ci := 12) (v := .ref (q 73)) (C := "CoinKeeperModel") (T := F_12) (N := 98) hx hb hts i_12 hown hK hP 0 rfl rfl 92 (by decide) (hts _ gw_1511) (fun _ h9 => h9) rfl d_M_medianOf_125 ?_
    refine lv_iload_n hx hb d_M_medianOf_128 rfl (lv_at hl 1 rfl) ?_
    refine lv_iconst (v := 2) hx hb d_M_medianOf_129 (by decide) ?_
    refine lv_idiv hx hb d_M_medianOf_130 (by decide) ?_
    refine lv_topi (fun v1 ev => ?_)
    have hf := bn ev hf
    clear ev
    obtain ⟨hg, hf⟩ := gdp hf
    refine va_iald hx hb hK hP 3 1 rfl rfl (inb_in hg) d_M_medianOf_131 ?_
    refine lv_topi (fun v2 ev => ?_)
    have hf := bn ev hf
    clear ev
    obtain rfl := Option.some.inj hf
    exact q_ri hx hb hr hlocks hK hP hD hS d_M_medianOf_132
  · have hf := ifn cx hf
    refine lv_iload_n hx hb d_M_medianOf_46 rfl (lv_at hl 2 rfl) ?_
    refine lv_istore (lv' := [(4, .int x3), (0, .ref o), (2, .int x2), (3, .int x3)]) hx hb d_M_medianOf_47 hl (by decide) rfl (fun ls hl => ?_)
    exact w_M_medianOf_49 F hk_41 fu _ _ _ _ _ hf _ _ _ hP hD hS (lv_sub hl [1, 2, 3, 0] rfl)
theorem w_M_medianOf_41 {p : Program} {l : Launch} {e : Env} {s : State} {m : MethodId} {args : Array Value} {below : List Frame} {meth : Method} {c : Code} {D : va_G} {cy : Nat → ClassId} {A : Nat → Prop} {ad : Nat → Nat} {o : Nat} {q : Nat → Nat} {z : Nat → Int32} {g_parent : Nat → Int32} {g_time : Nat → Int32} {fu : Nat} (F : Fx p s m args meth c b_M_medianOf 6 "CoinKeeperModel" "medianOf" (some .int) D cy ad A) : ∀ n : Nat, I_M_medianOf_41 p l e s m args below meth c D cy A ad o q z g_parent g_time (x_M_medianOf_41 fu z g_parent g_time n)
  | 0 => fun _ _ _ _ hf => nomatch (show (none : Option (Int32 × (Nat → Int32))) = some _ from hf)
  | n + 1 => wb_M_medianOf_41 F (w_M_medianOf_41 F n)
set_option maxHeartbeats 8000000 in
set_option maxRecDepth 100000 in
theorem wb_M_medianOf_39 {p : Program} {l : Launch} {e : Env} {s : State} {m : MethodId} {args : Array Value} {below : List Frame} {meth : Method} {c : Code} {D : va_G} {cy : Nat → ClassId} {A : Nat → Prop} {ad : Nat → Nat} {o : Nat} {q : Nat → Nat} {z : Nat → Int32} {g_parent : Nat → Int32} {g_time : Nat → Int32} {fu : Nat} (F : Fx p s m args meth c b_M_medianOf 6 "CoinKeeperModel" "medianOf" (some .int) D cy ad A) : I_M_medianOf_39 p l e s m args below meth c D cy A ad o q z g_parent g_time (xb_M_medianOf_39 fu z g_parent g_time) := by
  obtain ⟨hx, hb, hr, hml, hown, hts, hlocks, hK, hA, hSt, hnm, hex⟩ := id F
  intro x2 u0 res hf H locs ls hP hD hS hl
  unfold xb_M_medianOf_39 at hf
  refine lv_iconst (v := 1) hx hb d_M_medianOf_39 (by decide) ?_
  refine lv_istore_n (lv' := [(3, .int (1 : Int32)), (0, .ref o), (2, .int x2)]) hx hb d_M_medianOf_40 rfl hl (by decide) rfl (fun ls hl => ?_)
  exact w_M_medianOf_41 F fu _ _ _ _ hf _ _ _ hP hD hS (lv_sub hl [1, 2, 0] rfl)
set_option maxHeartbeats 8000000 in
set_option maxRecDepth 100000 in
theorem wb_M_medianOf_4 {p : Program} {l : Launch} {e : Env} {s : State} {m : MethodId} {args : Array Value} {below : List Frame} {meth : Method} {c : Code} {D : va_G} {cy : Nat → ClassId} {A : Nat → Prop} {ad : Nat → Nat} {o : Nat} {q : Nat → Nat} {z : Nat → Int32} {g_parent : Nat → Int32} {g_time : Nat → Int32} {fu : Nat} {k_4 : Int32 → Int32 → (Nat → Int32) → Option (Int32 × (Nat → Int32))} (F : Fx p s m args meth c b_M_medianOf 6 "CoinKeeperModel" "medianOf" (some .int) D cy ad A) (hk_4 : I_M_medianOf_4 p l e s m args below meth c D cy A ad o q z g_parent g_time k_4) : I_M_medianOf_4 p l e s m args below meth c D cy A ad o q z g_parent g_time (xb_M_medianOf_4 fu z g_parent g_time k_4) := by
  obtain ⟨hx, hb, hr, hml, hown, hts, hlocks, hK, hA, hSt, hnm, hex⟩ := id F
  intro x2 x3 u0 res hf H locs ls hP hD hS hl
  unfold xb_M_medianOf_4 at hf
  refine lv_iload_n hx hb d_M_medianOf_4 rfl (lv_at hl 2 rfl) ?_
  refine lv_if_lt (tgt := 39) hx hb d_M_medianOf_5 (by decide) (fun cx => ?_) (fun cx => ?_)
  · have hf := ifp cx hf
    exact wb_M_medianOf_39 (fu := fu) F _ _ _ hf _ _ _ hP hD hS (lv_sub hl [0, 1] rfl)
  · have hf := ifn cx hf
    refine lv_iload_n hx hb d_M_medianOf_8 rfl (lv_at hl 1 rfl) ?_
    refine lv_bipush (v := 11) hx hb d_M_medianOf_9 (by decide) ?_
    refine lv_icmp_ge (tgt := 39) hx hb d_M_medianOf_11 (by decide) (fun cx => ?_) (fun cx => ?_)
    · have hf := ifp cx hf
      exact wb_M_medianOf_39 (fu := fu) F _ _ _ hf _ _ _ hP hD hS (lv_sub hl [0, 1] rfl)
    · have hf := ifn cx hf
      refine lv_aload_n hx hb d_M_medianOf_14 rfl (lv_at hl 0 rfl) ?_
      refine va_get (D := D) (ci := 12) (v := .ref (q 73)) (C := "CoinKeeperModel") (T := F_12) (N := 98) hx hb hts i_12 hown hK hP 0 rfl rfl 92 (by decide) (hts _ gw_1511) (fun _ h9 => h9) rfl d_M_medianOf_15 ?_
      refine lv_iload_n hx hb d_M_medianOf_18 rfl (lv_at hl 1 rfl) ?_
      obtain ⟨v1, ev, hf⟩ := bne hf
      refine lv_iinc (v := v1) (lv' := [(2, .int v1), (0, .ref o), (3, .int x3)]) hx hb d_M_medianOf_19 hl (k := 1) rfl (by rw [ev]; rfl) (by decide) rfl (fun ls hl => ?_)
      clear ev
      refine lv_aload_n hx hb d_M_medianOf_22 rfl (lv_at hl 1 rfl) ?_
      refine va_get (D := D) (ci := 12) (v := .ref (q 5)) (C := "CoinKeeperModel") (T := F_12) (N := 98) hx hb hts i_12 hown hK hP 0 rfl rfl 8 (by decide) (hts _ gw_1427) (fun _ h9 => h9) rfl d_M_medianOf_23 ?_
      refine lv_iload_n hx hb d_M_medianOf_26 rfl (lv_at hl 2 rfl) ?_
      obtain ⟨hg, hf⟩ := gdp hf
      refine va_iald hx hb hK hP 2 1 rfl rfl (inb_in hg) d_M_medianOf_27 ?_
      refine lv_topi (fun v2 ev => ?_)
      have hf := bn ev hf
      clear ev
      obtain ⟨hg, hf⟩ := gdp hf
      refine va_iast hx hb hK hP hD hS 3 1 rfl rfl (inb_in hg) d_M_medianOf_28 (fun H locs hP hD hS => ?_)
      obtain ⟨f3, ev, hf⟩ := bne hf
      have hP : va_P D classes [(o, .inr (12, mo q z)), ((q 3), .inl (cy 1, 202, .inl g_parent)), ((q 5), .inl (cy 1, 202, .inl g_time)), ((q 73), .inl (cy 1, 11, .inl f3))] H := by rw [ev]; exact hP
      have hD : va_D A [(o, .inr (12, mo q z)), ((q 3), .inl (cy 1, 202, .inl g_parent)), ((q 5), .inl (cy 1, 202, .inl g_time)), ((q 73), .inl (cy 1, 11, .inl f3))] := by rw [ev]; exact hD
      clear ev
      refine lv_aload_n hx hb d_M_medianOf_29 rfl (lv_at hl 1 rfl) ?_
      refine va_get (D := D) (ci := 12) (v := .ref (q 3)) (C := "CoinKeeperModel") (T := F_12) (N := 98) hx hb hts i_12 hown hK hP 0 rfl rfl 6 (by decide) (hts _ gw_1425) (fun _ h9 => h9) rfl d_M_medianOf_30 ?_
      refine lv_iload_n hx hb d_M_medianOf_33 rfl (lv_at hl 2 rfl) ?_
      obtain ⟨hg, hf⟩ := gdp hf
      refine va_iald hx hb hK hP 1 1 rfl rfl (inb_in hg) d_M_medianOf_34 ?_
      refine lv_topi (fun v4 ev => ?_)
      have hf := bn ev hf
      clear ev
      refine lv_istore_n (lv' := [(3, .int v4), (2, .int v1), (0, .ref o)]) hx hb d_M_medianOf_35 rfl hl (by decide) rfl (fun ls hl => ?_)
      refine lv_goto (tgt := 4) hx hb d_M_medianOf_36 (by decide) ?_
      exact hk_4 _ _ _ _ hf _ _ _ hP hD hS (lv_sub hl [2, 1, 0] rfl)
theorem w_M_medianOf_4 {p : Program} {l : Launch} {e : Env} {s : State} {m : MethodId} {args : Array Value} {below : List Frame} {meth : Method} {c : Code} {D : va_G} {cy : Nat → ClassId} {A : Nat → Prop} {ad : Nat → Nat} {o : Nat} {q : Nat → Nat} {z : Nat → Int32} {g_parent : Nat → Int32} {g_time : Nat → Int32} {fu : Nat} (F : Fx p s m args meth c b_M_medianOf 6 "CoinKeeperModel" "medianOf" (some .int) D cy ad A) : ∀ n : Nat, I_M_medianOf_4 p l e s m args below meth c D cy A ad o q z g_parent g_time (x_M_medianOf_4 fu z g_parent g_time n)
  | 0 => fun _ _ _ _ hf => nomatch (show (none : Option (Int32 × (Nat → Int32))) = some _ from hf)
  | n + 1 => wb_M_medianOf_4 F (w_M_medianOf_4 F n)
set_option maxHeartbeats 8000000 in
set_option maxRecDepth 100000 in
theorem we_M_medianOf {p : Program} {l : Launch} {e : Env} {s : State} {m : MethodId} {args : Array Value} {below : List Frame} {meth : Method} {c : Code} {D : va_G} {cy : Nat → ClassId} {A : Nat → Prop} {ad : Nat → Nat} {o : Nat} {q : Nat → Nat} {z : Nat → Int32} {g_parent : Nat → Int32} {g_time : Nat → Int32} {fu : Nat} (F : Fx p s m args meth c b_M_medianOf 6 "CoinKeeperModel" "medianOf" (some .int) D cy ad A) : I_M_medianOf_e p l e s m args below meth c D cy A ad o q z g_parent g_time (x_M_medianOf fu z g_parent g_time) := by
  obtain ⟨hx, hb, hr, hml, hown, hts, hlocks, hK, hA, hSt, hnm, hex⟩ := id F
  intro a1 u0 res hf H locs ls hP hD hS hl
  unfold x_M_medianOf at hf
  refine lv_iconst (v := 0) hx hb d_M_medianOf_0 (by decide) ?_
  refine lv_istore_n (lv' := [(2, .int (0 : Int32)), (0, .ref o), (1, .int a1)]) hx hb d_M_medianOf_1 rfl hl (by decide) rfl (fun ls hl => ?_)
  refine lv_iload_n hx hb d_M_medianOf_2 rfl (lv_at hl 2 rfl) ?_
  refine lv_istore_n (lv' := [(3, .int a1), (2, .int (0 : Int32)), (0, .ref o), (1, .int a1)]) hx hb d_M_medianOf_3 rfl hl (by decide) rfl (fun ls hl => ?_)
  exact w_M_medianOf_4 F fu _ _ _ _ hf _ _ _ hP hD hS (lv_sub hl [2, 1, 0] rfl)
theorem c_M_medianOf (l : Launch) (D : va_G) (cy : Nat → ClassId) (ad : Nat → Nat) (fu : Nat) (o : Nat) (q : Nat → Nat) (z : Nat → Int32) (g_parent : Nat → Int32) (g_time : Nat → Int32) (a1 : Int32) (u0 : Nat → Int32) (res : Int32 × (Nat → Int32)) (hf : x_M_medianOf fu z g_parent g_time a1 u0 = some res) (sz : Nat) : Met l ({ cls := "CoinKeeperModel", name := "medianOf", desc := "(I)I" } : Jvm.MethodName) (.code ({ cls := "CoinKeeperModel", name := "medianOf", desc := "(I)I" } : Jvm.MethodName) b_M_medianOf 6 (some .int) :: gw) rm_M_medianOf (va_Pc [.ref o, .int a1] (Pr D cy ad [(o, .inr (12, mo q z)), ((q 3), .inl (cy 1, 202, .inl g_parent)), ((q 5), .inl (cy 1, 202, .inl g_time)), ((q 73), .inl (cy 1, 11, .inl u0))] sz)) (q_M_medianOf D cy (va_A [(o, .inr (12, mo q z)), ((q 3), .inl (cy 1, 202, .inl g_parent)), ((q 5), .inl (cy 1, 202, .inl g_time)), ((q 73), .inl (cy 1, 11, .inl u0))] sz) o q z g_parent g_time res) 0 0 (va_A [(o, .inr (12, mo q z)), ((q 3), .inl (cy 1, 202, .inl g_parent)), ((q 5), .inl (cy 1, 202, .inl g_time)), ((q 73), .inl (cy 1, 11, .inl u0))] sz) :=
  q_met (Qc := fun A => q_M_medianOf D cy A o q z g_parent g_time res) (by decide) rfl rfl (Nat.le_of_ble_eq_true rfl) (fun p e s m below meth c ls F hP hD hS hl => we_M_medianOf (fu := fu) F a1 u0 res hf _ _ _ hP hD hS hl) sz
abbrev b_M_isRoot : ByteArray := prog_14_method_65_code
theorem d_M_isRoot_0 : decode b_M_isRoot 0 = .ok (.aload_n 0, 1) := by decide +kernel
theorem d_M_isRoot_1 : decode b_M_isRoot 1 = .ok (.getfield 55, 3) := by decide +kernel
theorem d_M_isRoot_4 : decode b_M_isRoot 4 = .ok (.bipush 8, 2) := by decide +kernel
theorem d_M_isRoot_6 : decode b_M_isRoot 6 = .ok (.iload_n 1, 1) := by decide +kernel
theorem d_M_isRoot_7 : decode b_M_isRoot 7 = .ok (.imul, 1) := by decide +kernel
theorem d_M_isRoot_8 : decode b_M_isRoot 8 = .ok (.aload_n 0, 1) := by decide +kernel
theorem d_M_isRoot_9 : decode b_M_isRoot 9 = .ok (.getfield 240, 3) := by decide +kernel
theorem d_M_isRoot_12 : decode b_M_isRoot 12 = .ok (.iconst 0, 1) := by decide +kernel
theorem d_M_isRoot_13 : decode b_M_isRoot 13 = .ok (.bipush 8, 2) := by decide +kernel
theorem d_M_isRoot_15 : decode b_M_isRoot 15 = .ok (.iload_n 2, 1) := by decide +kernel
theorem d_M_isRoot_16 : decode b_M_isRoot 16 = .ok (.imul, 1) := by decide +kernel
theorem d_M_isRoot_17 : decode b_M_isRoot 17 = .ok (.invokestatic 271, 3) := by decide +kernel
theorem d_M_isRoot_20 : decode b_M_isRoot 20 = .ok (.iconst 1, 1) := by decide +kernel
theorem d_M_isRoot_21 : decode b_M_isRoot 21 = .ok (.istore 4, 2) := by decide +kernel
theorem d_M_isRoot_23 : decode b_M_isRoot 23 = .ok (.iload_n 2, 1) := by decide +kernel
theorem d_M_isRoot_24 : decode b_M_isRoot 24 = .ok (.istore 5, 2) := by decide +kernel
theorem d_M_isRoot_26 : decode b_M_isRoot 26 = .ok (.iload 5, 2) := by decide +kernel
theorem d_M_isRoot_28 : decode b_M_isRoot 28 = .ok (.iconst 1, 1) := by decide +kernel
theorem d_M_isRoot_29 : decode b_M_isRoot 29 = .ok (.if_icmp .le 258, 3) := by decide +kernel
theorem d_M_isRoot_32 : decode b_M_isRoot 32 = .ok (.iconst 0, 1) := by decide +kernel
theorem d_M_isRoot_33 : decode b_M_isRoot 33 = .ok (.istore 6, 2) := by decide +kernel
theorem d_M_isRoot_35 : decode b_M_isRoot 35 = .ok (.iload 6, 2) := by decide +kernel
theorem d_M_isRoot_37 : decode b_M_isRoot 37 = .ok (.iload 5, 2) := by decide +kernel
theorem d_M_isRoot_39 : decode b_M_isRoot 39 = .ok (.if_icmp .ge 237, 3) := by decide +kernel
theorem d_M_isRoot_42 : decode b_M_isRoot 42 = .ok (.iload 6, 2) := by decide +kernel
theorem d_M_isRoot_44 : decode b_M_isRoot 44 = .ok (.iconst 1, 1) := by decide +kernel
theorem d_M_isRoot_45 : decode b_M_isRoot 45 = .ok (.iadd, 1) := by decide +kernel
theorem d_M_isRoot_46 : decode b_M_isRoot 46 = .ok (.iload 5, 2) := by decide +kernel
theorem d_M_isRoot_48 : decode b_M_isRoot 48 = .ok (.if_icmp .ge 10, 3) := by decide +kernel
theorem d_M_isRoot_51 : decode b_M_isRoot 51 = .ok (.iload 6, 2) := by decide +kernel
theorem d_M_isRoot_53 : decode b_M_isRoot 53 = .ok (.iconst 1, 1) := by decide +kernel
theorem d_M_isRoot_54 : decode b_M_isRoot 54 = .ok (.iadd, 1) := by decide +kernel
theorem d_M_isRoot_55 : decode b_M_isRoot 55 = .ok (.goto 5, 3) := by decide +kernel
theorem d_M_isRoot_58 : decode b_M_isRoot 58 = .ok (.iload 6, 2) := by decide +kernel
theorem d_M_isRoot_60 : decode b_M_isRoot 60 = .ok (.istore 7, 2) := by decide +kernel
theorem d_M_isRoot_62 : decode b_M_isRoot 62 = .ok (.iload 7, 2) := by decide +kernel
theorem d_M_isRoot_64 : decode b_M_isRoot 64 = .ok (.iload 6, 2) := by decide +kernel
theorem d_M_isRoot_66 : decode b_M_isRoot 66 = .ok (.if_icmp .eq 7, 3) := by decide +kernel
theorem d_M_isRoot_69 : decode b_M_isRoot 69 = .ok (.iconst 1, 1) := by decide +kernel
theorem d_M_isRoot_70 : decode b_M_isRoot 70 = .ok (.goto 4, 3) := by decide +kernel
theorem d_M_isRoot_73 : decode b_M_isRoot 73 = .ok (.iconst 0, 1) := by decide +kernel
theorem d_M_isRoot_74 : decode b_M_isRoot 74 = .ok (.istore 8, 2) := by decide +kernel
theorem d_M_isRoot_76 : decode b_M_isRoot 76 = .ok (.iconst 0, 1) := by decide +kernel
theorem d_M_isRoot_77 : decode b_M_isRoot 77 = .ok (.istore 9, 2) := by decide +kernel
theorem d_M_isRoot_79 : decode b_M_isRoot 79 = .ok (.iload 9, 2) := by decide +kernel
theorem d_M_isRoot_81 : decode b_M_isRoot 81 = .ok (.bipush 8, 2) := by decide +kernel
theorem d_M_isRoot_83 : decode b_M_isRoot 83 = .ok (.if_icmp .ge 48, 3) := by decide +kernel
theorem d_M_isRoot_86 : decode b_M_isRoot 86 = .ok (.iload 8, 2) := by decide +kernel
theorem d_M_isRoot_88 : decode b_M_isRoot 88 = .ok (.aload_n 0, 1) := by decide +kernel
theorem d_M_isRoot_89 : decode b_M_isRoot 89 = .ok (.getfield 240, 3) := by decide +kernel
theorem d_M_isRoot_92 : decode b_M_isRoot 92 = .ok (.bipush 8, 2) := by decide +kernel
theorem d_M_isRoot_94 : decode b_M_isRoot 94 = .ok (.iload 6, 2) := by decide +kernel
theorem d_M_isRoot_96 : decode b_M_isRoot 96 = .ok (.imul, 1) := by decide +kernel
theorem d_M_isRoot_97 : decode b_M_isRoot 97 = .ok (.iload 9, 2) := by decide +kernel
theorem d_M_isRoot_99 : decode b_M_isRoot 99 = .ok (.iadd, 1) := by decide +kernel
theorem d_M_isRoot_100 : decode b_M_isRoot 100 = .ok (.iaload, 1) := by decide +kernel
theorem d_M_isRoot_101 : decode b_M_isRoot 101 = .ok (.aload_n 0, 1) := by decide +kernel
theorem d_M_isRoot_102 : decode b_M_isRoot 102 = .ok (.getfield 240, 3) := by decide +kernel
theorem d_M_isRoot_105 : decode b_M_isRoot 105 = .ok (.bipush 8, 2) := by decide +kernel
theorem d_M_isRoot_107 : decode b_M_isRoot 107 = .ok (.iload 7, 2) := by decide +kernel
theorem d_M_isRoot_109 : decode b_M_isRoot 109 = .ok (.imul, 1) := by decide +kernel
theorem d_M_isRoot_110 : decode b_M_isRoot 110 = .ok (.iload 9, 2) := by decide +kernel
theorem d_M_isRoot_112 : decode b_M_isRoot 112 = .ok (.iadd, 1) := by decide +kernel
theorem d_M_isRoot_113 : decode b_M_isRoot 113 = .ok (.iaload, 1) := by decide +kernel
theorem d_M_isRoot_114 : decode b_M_isRoot 114 = .ok (.if_icmp .ne 7, 3) := by decide +kernel
theorem d_M_isRoot_117 : decode b_M_isRoot 117 = .ok (.iconst 1, 1) := by decide +kernel
theorem d_M_isRoot_118 : decode b_M_isRoot 118 = .ok (.goto 4, 3) := by decide +kernel
theorem d_M_isRoot_121 : decode b_M_isRoot 121 = .ok (.iconst 0, 1) := by decide +kernel
theorem d_M_isRoot_122 : decode b_M_isRoot 122 = .ok (.iand, 1) := by decide +kernel
theorem d_M_isRoot_123 : decode b_M_isRoot 123 = .ok (.istore 8, 2) := by decide +kernel
theorem d_M_isRoot_125 : decode b_M_isRoot 125 = .ok (.iinc 9 1, 3) := by decide +kernel
theorem d_M_isRoot_128 : decode b_M_isRoot 128 = .ok (.goto (-49), 3) := by decide +kernel
theorem d_M_isRoot_131 : decode b_M_isRoot 131 = .ok (.iload 8, 2) := by decide +kernel
theorem d_M_isRoot_133 : decode b_M_isRoot 133 = .ok (.ifCond .eq 6, 3) := by decide +kernel
theorem d_M_isRoot_136 : decode b_M_isRoot 136 = .ok (.iconst 0, 1) := by decide +kernel
theorem d_M_isRoot_137 : decode b_M_isRoot 137 = .ok (.istore 4, 2) := by decide +kernel
theorem d_M_isRoot_139 : decode b_M_isRoot 139 = .ok (.iconst 0, 1) := by decide +kernel
theorem d_M_isRoot_140 : decode b_M_isRoot 140 = .ok (.istore 9, 2) := by decide +kernel
theorem d_M_isRoot_142 : decode b_M_isRoot 142 = .ok (.iload 9, 2) := by decide +kernel
theorem d_M_isRoot_144 : decode b_M_isRoot 144 = .ok (.bipush 32, 2) := by decide +kernel
theorem d_M_isRoot_146 : decode b_M_isRoot 146 = .ok (.if_icmp .ge 74, 3) := by decide +kernel
theorem d_M_isRoot_149 : decode b_M_isRoot 149 = .ok (.aload_n 0, 1) := by decide +kernel
theorem d_M_isRoot_150 : decode b_M_isRoot 150 = .ok (.getfield 243, 3) := by decide +kernel
theorem d_M_isRoot_153 : decode b_M_isRoot 153 = .ok (.iload 9, 2) := by decide +kernel
theorem d_M_isRoot_155 : decode b_M_isRoot 155 = .ok (.aload_n 0, 1) := by decide +kernel
theorem d_M_isRoot_156 : decode b_M_isRoot 156 = .ok (.getfield 240, 3) := by decide +kernel
theorem d_M_isRoot_159 : decode b_M_isRoot 159 = .ok (.bipush 8, 2) := by decide +kernel
theorem d_M_isRoot_161 : decode b_M_isRoot 161 = .ok (.iload 6, 2) := by decide +kernel
theorem d_M_isRoot_163 : decode b_M_isRoot 163 = .ok (.imul, 1) := by decide +kernel
theorem d_M_isRoot_164 : decode b_M_isRoot 164 = .ok (.iload 9, 2) := by decide +kernel
theorem d_M_isRoot_166 : decode b_M_isRoot 166 = .ok (.iconst 4, 1) := by decide +kernel
theorem d_M_isRoot_167 : decode b_M_isRoot 167 = .ok (.idiv, 1) := by decide +kernel
theorem d_M_isRoot_168 : decode b_M_isRoot 168 = .ok (.iadd, 1) := by decide +kernel
theorem d_M_isRoot_169 : decode b_M_isRoot 169 = .ok (.iaload, 1) := by decide +kernel
theorem d_M_isRoot_170 : decode b_M_isRoot 170 = .ok (.bipush 8, 2) := by decide +kernel
theorem d_M_isRoot_172 : decode b_M_isRoot 172 = .ok (.iload 9, 2) := by decide +kernel
theorem d_M_isRoot_174 : decode b_M_isRoot 174 = .ok (.iconst 4, 1) := by decide +kernel
theorem d_M_isRoot_175 : decode b_M_isRoot 175 = .ok (.irem, 1) := by decide +kernel
theorem d_M_isRoot_176 : decode b_M_isRoot 176 = .ok (.imul, 1) := by decide +kernel
theorem d_M_isRoot_177 : decode b_M_isRoot 177 = .ok (.ishr, 1) := by decide +kernel
theorem d_M_isRoot_178 : decode b_M_isRoot 178 = .ok (.i2b, 1) := by decide +kernel
theorem d_M_isRoot_179 : decode b_M_isRoot 179 = .ok (.bastore, 1) := by decide +kernel
theorem d_M_isRoot_180 : decode b_M_isRoot 180 = .ok (.aload_n 0, 1) := by decide +kernel
theorem d_M_isRoot_181 : decode b_M_isRoot 181 = .ok (.getfield 243, 3) := by decide +kernel
theorem d_M_isRoot_184 : decode b_M_isRoot 184 = .ok (.bipush 32, 2) := by decide +kernel
theorem d_M_isRoot_186 : decode b_M_isRoot 186 = .ok (.iload 9, 2) := by decide +kernel
theorem d_M_isRoot_188 : decode b_M_isRoot 188 = .ok (.iadd, 1) := by decide +kernel
theorem d_M_isRoot_189 : decode b_M_isRoot 189 = .ok (.aload_n 0, 1) := by decide +kernel
theorem d_M_isRoot_190 : decode b_M_isRoot 190 = .ok (.getfield 240, 3) := by decide +kernel
theorem d_M_isRoot_193 : decode b_M_isRoot 193 = .ok (.bipush 8, 2) := by decide +kernel
theorem d_M_isRoot_195 : decode b_M_isRoot 195 = .ok (.iload 7, 2) := by decide +kernel
theorem d_M_isRoot_197 : decode b_M_isRoot 197 = .ok (.imul, 1) := by decide +kernel
theorem d_M_isRoot_198 : decode b_M_isRoot 198 = .ok (.iload 9, 2) := by decide +kernel
theorem d_M_isRoot_200 : decode b_M_isRoot 200 = .ok (.iconst 4, 1) := by decide +kernel
theorem d_M_isRoot_201 : decode b_M_isRoot 201 = .ok (.idiv, 1) := by decide +kernel
theorem d_M_isRoot_202 : decode b_M_isRoot 202 = .ok (.iadd, 1) := by decide +kernel
theorem d_M_isRoot_203 : decode b_M_isRoot 203 = .ok (.iaload, 1) := by decide +kernel
theorem d_M_isRoot_204 : decode b_M_isRoot 204 = .ok (.bipush 8, 2) := by decide +kernel
theorem d_M_isRoot_206 : decode b_M_isRoot 206 = .ok (.iload 9, 2) := by decide +kernel
theorem d_M_isRoot_208 : decode b_M_isRoot 208 = .ok (.iconst 4, 1) := by decide +kernel
theorem d_M_isRoot_209 : decode b_M_isRoot 209 = .ok (.irem, 1) := by decide +kernel
theorem d_M_isRoot_210 : decode b_M_isRoot 210 = .ok (.imul, 1) := by decide +kernel
theorem d_M_isRoot_211 : decode b_M_isRoot 211 = .ok (.ishr, 1) := by decide +kernel
theorem d_M_isRoot_212 : decode b_M_isRoot 212 = .ok (.i2b, 1) := by decide +kernel
theorem d_M_isRoot_213 : decode b_M_isRoot 213 = .ok (.bastore, 1) := by decide +kernel
theorem d_M_isRoot_214 : decode b_M_isRoot 214 = .ok (.iinc 9 1, 3) := by decide +kernel
theorem d_M_isRoot_217 : decode b_M_isRoot 217 = .ok (.goto (-75), 3) := by decide +kernel
theorem d_M_isRoot_220 : decode b_M_isRoot 220 = .ok (.aload_n 0, 1) := by decide +kernel
theorem d_M_isRoot_221 : decode b_M_isRoot 221 = .ok (.aload_n 0, 1) := by decide +kernel
theorem d_M_isRoot_222 : decode b_M_isRoot 222 = .ok (.getfield 243, 3) := by decide +kernel
theorem d_M_isRoot_225 : decode b_M_isRoot 225 = .ok (.iconst 0, 1) := by decide +kernel
theorem d_M_isRoot_226 : decode b_M_isRoot 226 = .ok (.bipush 64, 2) := by decide +kernel
theorem d_M_isRoot_228 : decode b_M_isRoot 228 = .ok (.invokevirtual 519, 3) := by decide +kernel
theorem d_M_isRoot_231 : decode b_M_isRoot 231 = .ok (.iconst 0, 1) := by decide +kernel
theorem d_M_isRoot_232 : decode b_M_isRoot 232 = .ok (.istore 9, 2) := by decide +kernel
theorem d_M_isRoot_234 : decode b_M_isRoot 234 = .ok (.iload 9, 2) := by decide +kernel
theorem d_M_isRoot_236 : decode b_M_isRoot 236 = .ok (.bipush 8, 2) := by decide +kernel
theorem d_M_isRoot_238 : decode b_M_isRoot 238 = .ok (.if_icmp .ge 32, 3) := by decide +kernel
theorem d_M_isRoot_241 : decode b_M_isRoot 241 = .ok (.aload_n 0, 1) := by decide +kernel
theorem d_M_isRoot_242 : decode b_M_isRoot 242 = .ok (.getfield 240, 3) := by decide +kernel
theorem d_M_isRoot_245 : decode b_M_isRoot 245 = .ok (.iconst 4, 1) := by decide +kernel
theorem d_M_isRoot_246 : decode b_M_isRoot 246 = .ok (.iload 6, 2) := by decide +kernel
theorem d_M_isRoot_248 : decode b_M_isRoot 248 = .ok (.imul, 1) := by decide +kernel
theorem d_M_isRoot_249 : decode b_M_isRoot 249 = .ok (.iload 9, 2) := by decide +kernel
theorem d_M_isRoot_251 : decode b_M_isRoot 251 = .ok (.iadd, 1) := by decide +kernel
theorem d_M_isRoot_252 : decode b_M_isRoot 252 = .ok (.aload_n 0, 1) := by decide +kernel
theorem d_M_isRoot_253 : decode b_M_isRoot 253 = .ok (.getfield 123, 3) := by decide +kernel
theorem d_M_isRoot_256 : decode b_M_isRoot 256 = .ok (.iconst 4, 1) := by decide +kernel
theorem d_M_isRoot_257 : decode b_M_isRoot 257 = .ok (.iload 9, 2) := by decide +kernel
theorem d_M_isRoot_259 : decode b_M_isRoot 259 = .ok (.imul, 1) := by decide +kernel
theorem d_M_isRoot_260 : decode b_M_isRoot 260 = .ok (.invokestatic 309, 3) := by decide +kernel
theorem d_M_isRoot_263 : decode b_M_isRoot 263 = .ok (.iastore, 1) := by decide +kernel
theorem d_M_isRoot_264 : decode b_M_isRoot 264 = .ok (.iinc 9 1, 3) := by decide +kernel
theorem d_M_isRoot_267 : decode b_M_isRoot 267 = .ok (.goto (-33), 3) := by decide +kernel
theorem d_M_isRoot_270 : decode b_M_isRoot 270 = .ok (.iinc 6 2, 3) := by decide +kernel
theorem d_M_isRoot_273 : decode b_M_isRoot 273 = .ok (.goto (-238), 3) := by decide +kernel
theorem d_M_isRoot_276 : decode b_M_isRoot 276 = .ok (.iload 5, 2) := by decide +kernel
theorem d_M_isRoot_278 : decode b_M_isRoot 278 = .ok (.iconst 1, 1) := by decide +kernel
theorem d_M_isRoot_279 : decode b_M_isRoot 279 = .ok (.iadd, 1) := by decide +kernel
theorem d_M_isRoot_280 : decode b_M_isRoot 280 = .ok (.iconst 2, 1) := by decide +kernel
theorem d_M_isRoot_281 : decode b_M_isRoot 281 = .ok (.idiv, 1) := by decide +kernel
theorem d_M_isRoot_282 : decode b_M_isRoot 282 = .ok (.istore 5, 2) := by decide +kernel
theorem d_M_isRoot_284 : decode b_M_isRoot 284 = .ok (.goto (-258), 3) := by decide +kernel
theorem d_M_isRoot_287 : decode b_M_isRoot 287 = .ok (.iconst 0, 1) := by decide +kernel
theorem d_M_isRoot_288 : decode b_M_isRoot 288 = .ok (.istore 5, 2) := by decide +kernel
theorem d_M_isRoot_290 : decode b_M_isRoot 290 = .ok (.iload 5, 2) := by decide +kernel
theorem d_M_isRoot_292 : decode b_M_isRoot 292 = .ok (.bipush 8, 2) := by decide +kernel
theorem d_M_isRoot_294 : decode b_M_isRoot 294 = .ok (.if_icmp .ge 42, 3) := by decide +kernel
theorem d_M_isRoot_297 : decode b_M_isRoot 297 = .ok (.iload_n 2, 1) := by decide +kernel
theorem d_M_isRoot_298 : decode b_M_isRoot 298 = .ok (.ifCond .ne 7, 3) := by decide +kernel
theorem d_M_isRoot_301 : decode b_M_isRoot 301 = .ok (.iconst 0, 1) := by decide +kernel
theorem d_M_isRoot_302 : decode b_M_isRoot 302 = .ok (.goto 10, 3) := by decide +kernel
theorem d_M_isRoot_305 : decode b_M_isRoot 305 = .ok (.aload_n 0, 1) := by decide +kernel
theorem d_M_isRoot_306 : decode b_M_isRoot 306 = .ok (.getfield 240, 3) := by decide +kernel
theorem d_M_isRoot_309 : decode b_M_isRoot 309 = .ok (.iload 5, 2) := by decide +kernel
theorem d_M_isRoot_311 : decode b_M_isRoot 311 = .ok (.iaload, 1) := by decide +kernel
theorem d_M_isRoot_312 : decode b_M_isRoot 312 = .ok (.aload_n 0, 1) := by decide +kernel
theorem d_M_isRoot_313 : decode b_M_isRoot 313 = .ok (.getfield 14, 3) := by decide +kernel
theorem d_M_isRoot_316 : decode b_M_isRoot 316 = .ok (.iload_n 3, 1) := by decide +kernel
theorem d_M_isRoot_317 : decode b_M_isRoot 317 = .ok (.iconst 4, 1) := by decide +kernel
theorem d_M_isRoot_318 : decode b_M_isRoot 318 = .ok (.iload 5, 2) := by decide +kernel
theorem d_M_isRoot_320 : decode b_M_isRoot 320 = .ok (.imul, 1) := by decide +kernel
theorem d_M_isRoot_321 : decode b_M_isRoot 321 = .ok (.iadd, 1) := by decide +kernel
theorem d_M_isRoot_322 : decode b_M_isRoot 322 = .ok (.invokestatic 309, 3) := by decide +kernel
theorem d_M_isRoot_325 : decode b_M_isRoot 325 = .ok (.if_icmp .eq 5, 3) := by decide +kernel
theorem d_M_isRoot_328 : decode b_M_isRoot 328 = .ok (.iconst 0, 1) := by decide +kernel
theorem d_M_isRoot_329 : decode b_M_isRoot 329 = .ok (.ireturn, 1) := by decide +kernel
theorem d_M_isRoot_330 : decode b_M_isRoot 330 = .ok (.iinc 5 1, 3) := by decide +kernel
theorem d_M_isRoot_333 : decode b_M_isRoot 333 = .ok (.goto (-43), 3) := by decide +kernel
theorem d_M_isRoot_336 : decode b_M_isRoot 336 = .ok (.iload 4, 2) := by decide +kernel
theorem d_M_isRoot_338 : decode b_M_isRoot 338 = .ok (.ireturn, 1) := by decide +kernel
abbrev rm_M_isRoot : Room := { frames := 3, cells := 0, slots := 0, locals := 86 }
abbrev q_M_isRoot (D : va_G) (cy : Nat → ClassId) (A : Nat → Prop) (o : Nat) (q : Nat → Nat) (z : Nat → Int32) (g_store : Nat → Int32) (g_tId : Nat → Int32) (res : Int32 × (Nat → Int32) × (Nat → Int32) × (Nat → Int32) × (Nat → Int32) × (Nat → Int32) × (Nat → Int32)) : Array Value → State → Outcome → State → Prop := va_Qi (fun r' (_ : Unit) => r' = res.1) (fun _ t => Po D cy A [(o, .inr (12, mo q z)), ((q 1), .inl (cy 0, 103000, .inl g_store)), ((q 14), .inl (cy 1, 17600, .inl g_tId)), ((q 34), .inl (cy 1, 8, .inl res.2.1)), ((q 35), .inl (cy 1, 64, .inl res.2.2.1)), ((q 36), .inl (cy 0, 32, .inl res.2.2.2.1)), ((q 37), .inl (cy 0, 100200, .inl res.2.2.2.2.1)), ((q 74), .inl (cy 1, 17600, .inl res.2.2.2.2.2.1)), ((q 75), .inl (cy 0, 64, .inl res.2.2.2.2.2.2))] t) A
def I_M_isRoot_312 (p : Program) (l : Launch) (e : Env) (s : State) (m : MethodId) (args : Array Value) (below : List Frame) (meth : Method) (c : Code) (D : va_G) (cy : Nat → ClassId) (A : Nat → Prop) (ad : Nat → Nat) (o : Nat) (q : Nat → Nat) (z : Nat → Int32) (g_store : Nat → Int32) (g_tId : Nat → Int32) (k : Int32 → Int32 → Int32 → Int32 → Int32 → (Nat → Int32) → (Nat → Int32) → (Nat → Int32) → (Nat → Int32) → (Nat → Int32) → (Nat → Int32) → Option (Int32 × (Nat → Int32) × (Nat → Int32) × (Nat → Int32) × (Nat → Int32) × (Nat → Int32) × (Nat → Int32))) : Prop :=
  ∀ (x2 : Int32) (x3 : Int32) (x4 : Int32) (x5 : Int32) (y0 : Int32) (u0 : Nat → Int32) (u1 : Nat → Int32) (u2 : Nat → Int32) (u3 : Nat → Int32) (u4 : Nat → Int32) (u5 : Nat → Int32) (res : Int32 × (Nat → Int32) × (Nat → Int32) × (Nat → Int32) × (Nat → Int32) × (Nat → Int32) × (Nat → Int32)), k x2 x3 x4 x5 y0 u0 u1 u2 u3 u4 u5 = some res → ∀ (H : Heap) (locs : List Loc) (ls : Array Slot), va_P D classes [(o, .inr (12, mo q z)), ((q 1), .inl (cy 0, 103000, .inl g_store)), ((q 14), .inl (cy 1, 17600, .inl g_tId)), ((q 34), .inl (cy 1, 8, .inl u0)), ((q 35), .inl (cy 1, 64, .inl u1)), ((q 36), .inl (cy 0, 32, .inl u2)), ((q 37), .inl (cy 0, 100200, .inl u3)), ((q 74), .inl (cy 1, 17600, .inl u4)), ((q 75), .inl (cy 0, 64, .inl u5))] H → va_D A [(o, .inr (12, mo q z)), ((q 1), .inl (cy 0, 103000, .inl g_store)), ((q 14), .inl (cy 1, 17600, .inl g_tId)), ((q 34), .inl (cy 1, 8, .inl u0)), ((q 35), .inl (cy 1, 64, .inl u1)), ((q 36), .inl (cy 0, 32, .inl u2)), ((q 37), .inl (cy 0, 100200, .inl u3)), ((q 74), .inl (cy 1, 17600, .inl u4)), ((q 75), .inl (cy 0, 64, .inl u5))] → va_S A s.heap H locs → lv_has ls 10 [(0, .ref o), (2, .int x2), (3, .int x3), (4, .int x4), (5, .int x5)] → W p l e rm_M_isRoot s m args below meth c H locs 0 0 (MQ below (q_M_isRoot D cy A o q z g_store g_tId res) args s 0 0 A) (F0 m 312 ls [.int y0])
def I_M_isRoot_290 (p : Program) (l : Launch) (e : Env) (s : State) (m : MethodId) (args : Array Value) (below : List Frame) (meth : Method) (c : Code) (D : va_G) (cy : Nat → ClassId) (A : Nat → Prop) (ad : Nat → Nat) (o : Nat) (q : Nat → Nat) (z : Nat → Int32) (g_store : Nat → Int32) (g_tId : Nat → Int32) (k : Int32 → Int32 → Int32 → Int32 → (Nat → Int32) → (Nat → Int32) → (Nat → Int32) → (Nat → Int32) → (Nat → Int32) → (Nat → Int32) → Option (Int32 × (Nat → Int32) × (Nat → Int32) × (Nat → Int32) × (Nat → Int32) × (Nat → Int32) × (Nat → Int32))) : Prop :=
  ∀ (x2 : Int32) (x3 : Int32) (x4 : Int32) (x5 : Int32) (u0 : Nat → Int32) (u1 : Nat → Int32) (u2 : Nat → Int32) (u3 : Nat → Int32) (u4 : Nat → Int32) (u5 : Nat → Int32) (res : Int32 × (Nat → Int32) × (Nat → Int32) × (Nat → Int32) × (Nat → Int32) × (Nat → Int32) × (Nat → Int32)), k x2 x3 x4 x5 u0 u1 u2 u3 u4 u5 = some res → ∀ (H : Heap) (locs : List Loc) (ls : Array Slot), va_P D classes [(o, .inr (12, mo q z)), ((q 1), .inl (cy 0, 103000, .inl g_store)), ((q 14), .inl (cy 1, 17600, .inl g_tId)), ((q 34), .inl (cy 1, 8, .inl u0)), ((q 35), .inl (cy 1, 64, .inl u1)), ((q 36), .inl (cy 0, 32, .inl u2)), ((q 37), .inl (cy 0, 100200, .inl u3)), ((q 74), .inl (cy 1, 17600, .inl u4)), ((q 75), .inl (cy 0, 64, .inl u5))] H → va_D A [(o, .inr (12, mo q z)), ((q 1), .inl (cy 0, 103000, .inl g_store)), ((q 14), .inl (cy 1, 17600, .inl g_tId)), ((q 34), .inl (cy 1, 8, .inl u0)), ((q 35), .inl (cy 1, 64, .inl u1)), ((q 36), .inl (cy 0, 32, .inl u2)), ((q 37), .inl (cy 0, 100200, .inl u3)), ((q 74), .inl (cy 1, 17600, .inl u4)), ((q 75), .inl (cy 0, 64, .inl u5))] → va_S A s.heap H locs → lv_has ls 10 [(0, .ref o), (2, .int x2), (3, .int x3), (4, .int x4), (5, .int x5)] → W p l e rm_M_isRoot s m args below meth c H locs 0 0 (MQ below (q_M_isRoot D cy A o q z g_store g_tId res) args s 0 0 A) (F0 m 290 ls [])
def I_M_isRoot_234 (p : Program) (l : Launch) (e : Env) (s : State) (m : MethodId) (args : Array Value) (below : List Frame) (meth : Method) (c : Code) (D : va_G) (cy : Nat → ClassId) (A : Nat → Prop) (ad : Nat → Nat) (o : Nat) (q : Nat → Nat) (z : Nat → Int32) (g_store : Nat → Int32) (g_tId : Nat → Int32) (k : Int32 → Int32 → Int32 → Int32 → Int32 → Int32 → (Nat → Int32) → (Nat → Int32) → (Nat → Int32) → (Nat → Int32) → (Nat → Int32) → (Nat → Int32) → Option (Int32 × (Nat → Int32) × (Nat → Int32) × (Nat → Int32) × (Nat → Int32) × (Nat → Int32) × (Nat → Int32))) : Prop :=
  ∀ (x2 : Int32) (x3 : Int32) (x4 : Int32) (x5 : Int32) (x6 : Int32) (x9 : Int32) (u0 : Nat → Int32) (u1 : Nat → Int32) (u2 : Nat → Int32) (u3 : Nat → Int32) (u4 : Nat → Int32) (u5 : Nat → Int32) (res : Int32 × (Nat → Int32) × (Nat → Int32) × (Nat → Int32) × (Nat → Int32) × (Nat → Int32) × (Nat → Int32)), k x2 x3 x4 x5 x6 x9 u0 u1 u2 u3 u4 u5 = some res → ∀ (H : Heap) (locs : List Loc) (ls : Array Slot), va_P D classes [(o, .inr (12, mo q z)), ((q 1), .inl (cy 0, 103000, .inl g_store)), ((q 14), .inl (cy 1, 17600, .inl g_tId)), ((q 34), .inl (cy 1, 8, .inl u0)), ((q 35), .inl (cy 1, 64, .inl u1)), ((q 36), .inl (cy 0, 32, .inl u2)), ((q 37), .inl (cy 0, 100200, .inl u3)), ((q 74), .inl (cy 1, 17600, .inl u4)), ((q 75), .inl (cy 0, 64, .inl u5))] H → va_D A [(o, .inr (12, mo q z)), ((q 1), .inl (cy 0, 103000, .inl g_store)), ((q 14), .inl (cy 1, 17600, .inl g_tId)), ((q 34), .inl (cy 1, 8, .inl u0)), ((q 35), .inl (cy 1, 64, .inl u1)), ((q 36), .inl (cy 0, 32, .inl u2)), ((q 37), .inl (cy 0, 100200, .inl u3)), ((q 74), .inl (cy 1, 17600, .inl u4)), ((q 75), .inl (cy 0, 64, .inl u5))] → va_S A s.heap H locs → lv_has ls 10 [(0, .ref o), (2, .int x2), (3, .int x3), (4, .int x4), (5, .int x5), (6, .int x6), (9, .int x9)] → W p l e rm_M_isRoot s m args below meth c H locs 0 0 (MQ below (q_M_isRoot D cy A o q z g_store g_tId res) args s 0 0 A) (F0 m 234 ls [])
def I_M_isRoot_142 (p : Program) (l : Launch) (e : Env) (s : State) (m : MethodId) (args : Array Value) (below : List Frame) (meth : Method) (c : Code) (D : va_G) (cy : Nat → ClassId) (A : Nat → Prop) (ad : Nat → Nat) (o : Nat) (q : Nat → Nat) (z : Nat → Int32) (g_store : Nat → Int32) (g_tId : Nat → Int32) (k : Int32 → Int32 → Int32 → Int32 → Int32 → Int32 → Int32 → (Nat → Int32) → (Nat → Int32) → (Nat → Int32) → (Nat → Int32) → (Nat → Int32) → (Nat → Int32) → Option (Int32 × (Nat → Int32) × (Nat → Int32) × (Nat → Int32) × (Nat → Int32) × (Nat → Int32) × (Nat → Int32))) : Prop :=
  ∀ (x2 : Int32) (x3 : Int32) (x4 : Int32) (x5 : Int32) (x6 : Int32) (x7 : Int32) (x9 : Int32) (u0 : Nat → Int32) (u1 : Nat → Int32) (u2 : Nat → Int32) (u3 : Nat → Int32) (u4 : Nat → Int32) (u5 : Nat → Int32) (res : Int32 × (Nat → Int32) × (Nat → Int32) × (Nat → Int32) × (Nat → Int32) × (Nat → Int32) × (Nat → Int32)), k x2 x3 x4 x5 x6 x7 x9 u0 u1 u2 u3 u4 u5 = some res → ∀ (H : Heap) (locs : List Loc) (ls : Array Slot), va_P D classes [(o, .inr (12, mo q z)), ((q 1), .inl (cy 0, 103000, .inl g_store)), ((q 14), .inl (cy 1, 17600, .inl g_tId)), ((q 34), .inl (cy 1, 8, .inl u0)), ((q 35), .inl (cy 1, 64, .inl u1)), ((q 36), .inl (cy 0, 32, .inl u2)), ((q 37), .inl (cy 0, 100200, .inl u3)), ((q 74), .inl (cy 1, 17600, .inl u4)), ((q 75), .inl (cy 0, 64, .inl u5))] H → va_D A [(o, .inr (12, mo q z)), ((q 1), .inl (cy 0, 103000, .inl g_store)), ((q 14), .inl (cy 1, 17600, .inl g_tId)), ((q 34), .inl (cy 1, 8, .inl u0)), ((q 35), .inl (cy 1, 64, .inl u1)), ((q 36), .inl (cy 0, 32, .inl u2)), ((q 37), .inl (cy 0, 100200, .inl u3)), ((q 74), .inl (cy 1, 17600, .inl u4)), ((q 75), .inl (cy 0, 64, .inl u5))] → va_S A s.heap H locs → lv_has ls 10 [(0, .ref o), (2, .int x2), (3, .int x3), (4, .int x4), (5, .int x5), (6, .int x6), (7, .int x7), (9, .int x9)] → W p l e rm_M_isRoot s m args below meth c H locs 0 0 (MQ below (q_M_isRoot D cy A o q z g_store g_tId res) args s 0 0 A) (F0 m 142 ls [])
def I_M_isRoot_139 (p : Program) (l : Launch) (e : Env) (s : State) (m : MethodId) (args : Array Value) (below : List Frame) (meth : Method) (c : Code) (D : va_G) (cy : Nat → ClassId) (A : Nat → Prop) (ad : Nat → Nat) (o : Nat) (q : Nat → Nat) (z : Nat → Int32) (g_store : Nat → Int32) (g_tId : Nat → Int32) (k : Int32 → Int32 → Int32 → Int32 → Int32 → Int32 → (Nat → Int32) → (Nat → Int32) → (Nat → Int32) → (Nat → Int32) → (Nat → Int32) → (Nat → Int32) → Option (Int32 × (Nat → Int32) × (Nat → Int32) × (Nat → Int32) × (Nat → Int32) × (Nat → Int32) × (Nat → Int32))) : Prop :=
  ∀ (x2 : Int32) (x3 : Int32) (x4 : Int32) (x5 : Int32) (x6 : Int32) (x7 : Int32) (u0 : Nat → Int32) (u1 : Nat → Int32) (u2 : Nat → Int32) (u3 : Nat → Int32) (u4 : Nat → Int32) (u5 : Nat → Int32) (res : Int32 × (Nat → Int32) × (Nat → Int32) × (Nat → Int32) × (Nat → Int32) × (Nat → Int32) × (Nat → Int32)), k x2 x3 x4 x5 x6 x7 u0 u1 u2 u3 u4 u5 = some res → ∀ (H : Heap) (locs : List Loc) (ls : Array Slot), va_P D classes [(o, .inr (12, mo q z)), ((q 1), .inl (cy 0, 103000, .inl g_store)), ((q 14), .inl (cy 1, 17600, .inl g_tId)), ((q 34), .inl (cy 1, 8, .inl u0)), ((q 35), .inl (cy 1, 64, .inl u1)), ((q 36), .inl (cy 0, 32, .inl u2)), ((q 37), .inl (cy 0, 100200, .inl u3)), ((q 74), .inl (cy 1, 17600, .inl u4)), ((q 75), .inl (cy 0, 64, .inl u5))] H → va_D A [(o, .inr (12, mo q z)), ((q 1), .inl (cy 0, 103000, .inl g_store)), ((q 14), .inl (cy 1, 17600, .inl g_tId)), ((q 34), .inl (cy 1, 8, .inl u0)), ((q 35), .inl (cy 1, 64, .inl u1)), ((q 36), .inl (cy 0, 32, .inl u2)), ((q 37), .inl (cy 0, 100200, .inl u3)), ((q 74), .inl (cy 1, 17600, .inl u4)), ((q 75), .inl (cy 0, 64, .inl u5))] → va_S A s.heap H locs → lv_has ls 10 [(0, .ref o), (2, .int x2), (3, .int x3), (4, .int x4), (5, .int x5), (6, .int x6), (7, .int x7)] → W p l e rm_M_isRoot s m args below meth c H locs 0 0 (MQ below (q_M_isRoot D cy A o q z g_store g_tId res) args s 0 0 A) (F0 m 139 ls [])
def I_M_isRoot_122 (p : Program) (l : Launch) (e : Env) (s : State) (m : MethodId) (args : Array Value) (below : List Frame) (meth : Method) (c : Code) (D : va_G) (cy : Nat → ClassId) (A : Nat → Prop) (ad : Nat → Nat) (o : Nat) (q : Nat → Nat) (z : Nat → Int32) (g_store : Nat → Int32) (g_tId : Nat → Int32) (k : Int32 → Int32 → Int32 → Int32 → Int32 → Int32 → Int32 → Int32 → Int32 → (Nat → Int32) → (Nat → Int32) → (Nat → Int32) → (Nat → Int32) → (Nat → Int32) → (Nat → Int32) → Option (Int32 × (Nat → Int32) × (Nat → Int32) × (Nat → Int32) × (Nat → Int32) × (Nat → Int32) × (Nat → Int32))) : Prop :=
  ∀ (x2 : Int32) (x3 : Int32) (x4 : Int32) (x5 : Int32) (x6 : Int32) (x7 : Int32) (x9 : Int32) (y0 : Int32) (y1 : Int32) (u0 : Nat → Int32) (u1 : Nat → Int32) (u2 : Nat → Int32) (u3 : Nat → Int32) (u4 : Nat → Int32) (u5 : Nat → Int32) (res : Int32 × (Nat → Int32) × (Nat → Int32) × (Nat → Int32) × (Nat → Int32) × (Nat → Int32) × (Nat → Int32)), k x2 x3 x4 x5 x6 x7 x9 y0 y1 u0 u1 u2 u3 u4 u5 = some res → ∀ (H : Heap) (locs : List Loc) (ls : Array Slot), va_P D classes [(o, .inr (12, mo q z)), ((q 1), .inl (cy 0, 103000, .inl g_store)), ((q 14), .inl (cy 1, 17600, .inl g_tId)), ((q 34), .inl (cy 1, 8, .inl u0)), ((q 35), .inl (cy 1, 64, .inl u1)), ((q 36), .inl (cy 0, 32, .inl u2)), ((q 37), .inl (cy 0, 100200, .inl u3)), ((q 74), .inl (cy 1, 17600, .inl u4)), ((q 75), .inl (cy 0, 64, .inl u5))] H → va_D A [(o, .inr (12, mo q z)), ((q 1), .inl (cy 0, 103000, .inl g_store)), ((q 14), .inl (cy 1, 17600, .inl g_tId)), ((q 34), .inl (cy 1, 8, .inl u0)), ((q 35), .inl (cy 1, 64, .inl u1)), ((q 36), .inl (cy 0, 32, .inl u2)), ((q 37), .inl (cy 0, 100200, .inl u3)), ((q 74), .inl (cy 1, 17600, .inl u4)), ((q 75), .inl (cy 0, 64, .inl u5))] → va_S A s.heap H locs → lv_has ls 10 [(0, .ref o), (2, .int x2), (3, .int x3), (4, .int x4), (5, .int x5), (6, .int x6), (7, .int x7), (9, .int x9)] → W p l e rm_M_isRoot s m args below meth c H locs 0 0 (MQ below (q_M_isRoot D cy A o q z g_store g_tId res) args s 0 0 A) (F0 m 122 ls [.int y0, .int y1])
def I_M_isRoot_79 (p : Program) (l : Launch) (e : Env) (s : State) (m : MethodId) (args : Array Value) (below : List Frame) (meth : Method) (c : Code) (D : va_G) (cy : Nat → ClassId) (A : Nat → Prop) (ad : Nat → Nat) (o : Nat) (q : Nat → Nat) (z : Nat → Int32) (g_store : Nat → Int32) (g_tId : Nat → Int32) (k : Int32 → Int32 → Int32 → Int32 → Int32 → Int32 → Int32 → Int32 → (Nat → Int32) → (Nat → Int32) → (Nat → Int32) → (Nat → Int32) → (Nat → Int32) → (Nat → Int32) → Option (Int32 × (Nat → Int32) × (Nat → Int32) × (Nat → Int32) × (Nat → Int32) × (Nat → Int32) × (Nat → Int32))) : Prop :=
  ∀ (x2 : Int32) (x3 : Int32) (x4 : Int32) (x5 : Int32) (x6 : Int32) (x7 : Int32) (x8 : Int32) (x9 : Int32) (u0 : Nat → Int32) (u1 : Nat → Int32) (u2 : Nat → Int32) (u3 : Nat → Int32) (u4 : Nat → Int32) (u5 : Nat → Int32) (res : Int32 × (Nat → Int32) × (Nat → Int32) × (Nat → Int32) × (Nat → Int32) × (Nat → Int32) × (Nat → Int32)), k x2 x3 x4 x5 x6 x7 x8 x9 u0 u1 u2 u3 u4 u5 = some res → ∀ (H : Heap) (locs : List Loc) (ls : Array Slot), va_P D classes [(o, .inr (12, mo q z)), ((q 1), .inl (cy 0, 103000, .inl g_store)), ((q 14), .inl (cy 1, 17600, .inl g_tId)), ((q 34), .inl (cy 1, 8, .inl u0)), ((q 35), .inl (cy 1, 64, .inl u1)), ((q 36), .inl (cy 0, 32, .inl u2)), ((q 37), .inl (cy 0, 100200, .inl u3)), ((q 74), .inl (cy 1, 17600, .inl u4)), ((q 75), .inl (cy 0, 64, .inl u5))] H → va_D A [(o, .inr (12, mo q z)), ((q 1), .inl (cy 0, 103000, .inl g_store)), ((q 14), .inl (cy 1, 17600, .inl g_tId)), ((q 34), .inl (cy 1, 8, .inl u0)), ((q 35), .inl (cy 1, 64, .inl u1)), ((q 36), .inl (cy 0, 32, .inl u2)), ((q 37), .inl (cy 0, 100200, .inl u3)), ((q 74), .inl (cy 1, 17600, .inl u4)), ((q 75), .inl (cy 0, 64, .inl u5))] → va_S A s.heap H locs → lv_has ls 10 [(0, .ref o), (2, .int x2), (3, .int x3), (4, .int x4), (5, .int x5), (6, .int x6), (7, .int x7), (8, .int x8), (9, .int x9)] → W p l e rm_M_isRoot s m args below meth c H locs 0 0 (MQ below (q_M_isRoot D cy A o q z g_store g_tId res) args s 0 0 A) (F0 m 79 ls [])
def I_M_isRoot_74 (p : Program) (l : Launch) (e : Env) (s : State) (m : MethodId) (args : Array Value) (below : List Frame) (meth : Method) (c : Code) (D : va_G) (cy : Nat → ClassId) (A : Nat → Prop) (ad : Nat → Nat) (o : Nat) (q : Nat → Nat) (z : Nat → Int32) (g_store : Nat → Int32) (g_tId : Nat → Int32) (k : Int32 → Int32 → Int32 → Int32 → Int32 → Int32 → Int32 → (Nat → Int32) → (Nat → Int32) → (Nat → Int32) → (Nat → Int32) → (Nat → Int32) → (Nat → Int32) → Option (Int32 × (Nat → Int32) × (Nat → Int32) × (Nat → Int32) × (Nat → Int32) × (Nat → Int32) × (Nat → Int32))) : Prop :=
  ∀ (x2 : Int32) (x3 : Int32) (x4 : Int32) (x5 : Int32) (x6 : Int32) (x7 : Int32) (y0 : Int32) (u0 : Nat → Int32) (u1 : Nat → Int32) (u2 : Nat → Int32) (u3 : Nat → Int32) (u4 : Nat → Int32) (u5 : Nat → Int32) (res : Int32 × (Nat → Int32) × (Nat → Int32) × (Nat → Int32) × (Nat → Int32) × (Nat → Int32) × (Nat → Int32)), k x2 x3 x4 x5 x6 x7 y0 u0 u1 u2 u3 u4 u5 = some res → ∀ (H : Heap) (locs : List Loc) (ls : Array Slot), va_P D classes [(o, .inr (12, mo q z)), ((q 1), .inl (cy 0, 103000, .inl g_store)), ((q 14), .inl (cy 1, 17600, .inl g_tId)), ((q 34), .inl (cy 1, 8, .inl u0)), ((q 35), .inl (cy 1, 64, .inl u1)), ((q 36), .inl (cy 0, 32, .inl u2)), ((q 37), .inl (cy 0, 100200, .inl u3)), ((q 74), .inl (cy 1, 17600, .inl u4)), ((q 75), .inl (cy 0, 64, .inl u5))] H → va_D A [(o, .inr (12, mo q z)), ((q 1), .inl (cy 0, 103000, .inl g_store)), ((q 14), .inl (cy 1, 17600, .inl g_tId)), ((q 34), .inl (cy 1, 8, .inl u0)), ((q 35), .inl (cy 1, 64, .inl u1)), ((q 36), .inl (cy 0, 32, .inl u2)), ((q 37), .inl (cy 0, 100200, .inl u3)), ((q 74), .inl (cy 1, 17600, .inl u4)), ((q 75), .inl (cy 0, 64, .inl u5))] → va_S A s.heap H locs → lv_has ls 10 [(0, .ref o), (2, .int x2), (3, .int x3), (4, .int x4), (5, .int x5), (6, .int x6), (7, .int x7)] → W p l e rm_M_isRoot s m args below meth c H locs 0 0 (MQ below (q_M_isRoot D cy A o q z g_store g_tId res) args s 0 0 A) (F0 m 74 ls [.int y0])
def I_M_isRoot_60 (p : Program) (l : Launch) (e : Env) (s : State) (m : MethodId) (args : Array Value) (below : List Frame) (meth : Method) (c : Code) (D : va_G) (cy : Nat → ClassId) (A : Nat → Prop) (ad : Nat → Nat) (o : Nat) (q : Nat → Nat) (z : Nat → Int32) (g_store : Nat → Int32) (g_tId : Nat → Int32) (k : Int32 → Int32 → Int32 → Int32 → Int32 → Int32 → (Nat → Int32) → (Nat → Int32) → (Nat → Int32) → (Nat → Int32) → (Nat → Int32) → (Nat → Int32) → Option (Int32 × (Nat → Int32) × (Nat → Int32) × (Nat → Int32) × (Nat → Int32) × (Nat → Int32) × (Nat → Int32))) : Prop :=
  ∀ (x2 : Int32) (x3 : Int32) (x4 : Int32) (x5 : Int32) (x6 : Int32) (y0 : Int32) (u0 : Nat → Int32) (u1 : Nat → Int32) (u2 : Nat → Int32) (u3 : Nat → Int32) (u4 : Nat → Int32) (u5 : Nat → Int32) (res : Int32 × (Nat → Int32) × (Nat → Int32) × (Nat → Int32) × (Nat → Int32) × (Nat → Int32) × (Nat → Int32)), k x2 x3 x4 x5 x6 y0 u0 u1 u2 u3 u4 u5 = some res → ∀ (H : Heap) (locs : List Loc) (ls : Array Slot), va_P D classes [(o, .inr (12, mo q z)), ((q 1), .inl (cy 0, 103000, .inl g_store)), ((q 14), .inl (cy 1, 17600, .inl g_tId)), ((q 34), .inl (cy 1, 8, .inl u0)), ((q 35), .inl (cy 1, 64, .inl u1)), ((q 36), .inl (cy 0, 32, .inl u2)), ((q 37), .inl (cy 0, 100200, .inl u3)), ((q 74), .inl (cy 1, 17600, .inl u4)), ((q 75), .inl (cy 0, 64, .inl u5))] H → va_D A [(o, .inr (12, mo q z)), ((q 1), .inl (cy 0, 103000, .inl g_store)), ((q 14), .inl (cy 1, 17600, .inl g_tId)), ((q 34), .inl (cy 1, 8, .inl u0)), ((q 35), .inl (cy 1, 64, .inl u1)), ((q 36), .inl (cy 0, 32, .inl u2)), ((q 37), .inl (cy 0, 100200, .inl u3)), ((q 74), .inl (cy 1, 17600, .inl u4)), ((q 75), .inl (cy 0, 64, .inl u5))] → va_S A s.heap H locs → lv_has ls 10 [(0, .ref o), (2, .int x2), (3, .int x3), (4, .int x4), (5, .int x5), (6, .int x6)] → W p l e rm_M_isRoot s m args below meth c H locs 0 0 (MQ below (q_M_isRoot D cy A o q z g_store g_tId res) args s 0 0 A) (F0 m 60 ls [.int y0])
def I_M_isRoot_35 (p : Program) (l : Launch) (e : Env) (s : State) (m : MethodId) (args : Array Value) (below : List Frame) (meth : Method) (c : Code) (D : va_G) (cy : Nat → ClassId) (A : Nat → Prop) (ad : Nat → Nat) (o : Nat) (q : Nat → Nat) (z : Nat → Int32) (g_store : Nat → Int32) (g_tId : Nat → Int32) (k : Int32 → Int32 → Int32 → Int32 → Int32 → (Nat → Int32) → (Nat → Int32) → (Nat → Int32) → (Nat → Int32) → (Nat → Int32) → (Nat → Int32) → Option (Int32 × (Nat → Int32) × (Nat → Int32) × (Nat → Int32) × (Nat → Int32) × (Nat → Int32) × (Nat → Int32))) : Prop :=
  ∀ (x2 : Int32) (x3 : Int32) (x4 : Int32) (x5 : Int32) (x6 : Int32) (u0 : Nat → Int32) (u1 : Nat → Int32) (u2 : Nat → Int32) (u3 : Nat → Int32) (u4 : Nat → Int32) (u5 : Nat → Int32) (res : Int32 × (Nat → Int32) × (Nat → Int32) × (Nat → Int32) × (Nat → Int32) × (Nat → Int32) × (Nat → Int32)), k x2 x3 x4 x5 x6 u0 u1 u2 u3 u4 u5 = some res → ∀ (H : Heap) (locs : List Loc) (ls : Array Slot), va_P D classes [(o, .inr (12, mo q z)), ((q 1), .inl (cy 0, 103000, .inl g_store)), ((q 14), .inl (cy 1, 17600, .inl g_tId)), ((q 34), .inl (cy 1, 8, .inl u0)), ((q 35), .inl (cy 1, 64, .inl u1)), ((q 36), .inl (cy 0, 32, .inl u2)), ((q 37), .inl (cy 0, 100200, .inl u3)), ((q 74), .inl (cy 1, 17600, .inl u4)), ((q 75), .inl (cy 0, 64, .inl u5))] H → va_D A [(o, .inr (12, mo q z)), ((q 1), .inl (cy 0, 103000, .inl g_store)), ((q 14), .inl (cy 1, 17600, .inl g_tId)), ((q 34), .inl (cy 1, 8, .inl u0)), ((q 35), .inl (cy 1, 64, .inl u1)), ((q 36), .inl (cy 0, 32, .inl u2)), ((q 37), .inl (cy 0, 100200, .inl u3)), ((q 74), .inl (cy 1, 17600, .inl u4)), ((q 75), .inl (cy 0, 64, .inl u5))] → va_S A s.heap H locs → lv_has ls 10 [(0, .ref o), (2, .int x2), (3, .int x3), (4, .int x4), (5, .int x5), (6, .int x6)] → W p l e rm_M_isRoot s m args below meth c H locs 0 0 (MQ below (q_M_isRoot D cy A o q z g_store g_tId res) args s 0 0 A) (F0 m 35 ls [])
def I_M_isRoot_26 (p : Program) (l : Launch) (e : Env) (s : State) (m : MethodId) (args : Array Value) (below : List Frame) (meth : Method) (c : Code) (D : va_G) (cy : Nat → ClassId) (A : Nat → Prop) (ad : Nat → Nat) (o : Nat) (q : Nat → Nat) (z : Nat → Int32) (g_store : Nat → Int32) (g_tId : Nat → Int32) (k : Int32 → Int32 → Int32 → Int32 → (Nat → Int32) → (Nat → Int32) → (Nat → Int32) → (Nat → Int32) → (Nat → Int32) → (Nat → Int32) → Option (Int32 × (Nat → Int32) × (Nat → Int32) × (Nat → Int32) × (Nat → Int32) × (Nat → Int32) × (Nat → Int32))) : Prop :=
  ∀ (x2 : Int32) (x3 : Int32) (x4 : Int32) (x5 : Int32) (u0 : Nat → Int32) (u1 : Nat → Int32) (u2 : Nat → Int32) (u3 : Nat → Int32) (u4 : Nat → Int32) (u5 : Nat → Int32) (res : Int32 × (Nat → Int32) × (Nat → Int32) × (Nat → Int32) × (Nat → Int32) × (Nat → Int32) × (Nat → Int32)), k x2 x3 x4 x5 u0 u1 u2 u3 u4 u5 = some res → ∀ (H : Heap) (locs : List Loc) (ls : Array Slot), va_P D classes [(o, .inr (12, mo q z)), ((q 1), .inl (cy 0, 103000, .inl g_store)), ((q 14), .inl (cy 1, 17600, .inl g_tId)), ((q 34), .inl (cy 1, 8, .inl u0)), ((q 35), .inl (cy 1, 64, .inl u1)), ((q 36), .inl (cy 0, 32, .inl u2)), ((q 37), .inl (cy 0, 100200, .inl u3)), ((q 74), .inl (cy 1, 17600, .inl u4)), ((q 75), .inl (cy 0, 64, .inl u5))] H → va_D A [(o, .inr (12, mo q z)), ((q 1), .inl (cy 0, 103000, .inl g_store)), ((q 14), .inl (cy 1, 17600, .inl g_tId)), ((q 34), .inl (cy 1, 8, .inl u0)), ((q 35), .inl (cy 1, 64, .inl u1)), ((q 36), .inl (cy 0, 32, .inl u2)), ((q 37), .inl (cy 0, 100200, .inl u3)), ((q 74), .inl (cy 1, 17600, .inl u4)), ((q 75), .inl (cy 0, 64, .inl u5))] → va_S A s.heap H locs → lv_has ls 10 [(0, .ref o), (2, .int x2), (3, .int x3), (4, .int x4), (5, .int x5)] → W p l e rm_M_isRoot s m args below meth c H locs 0 0 (MQ below (q_M_isRoot D cy A o q z g_store g_tId res) args s 0 0 A) (F0 m 26 ls [])
def I_M_isRoot_e (p : Program) (l : Launch) (e : Env) (s : State) (m : MethodId) (args : Array Value) (below : List Frame) (meth : Method) (c : Code) (D : va_G) (cy : Nat → ClassId) (A : Nat → Prop) (ad : Nat → Nat) (o : Nat) (q : Nat → Nat) (z : Nat → Int32) (g_store : Nat → Int32) (g_tId : Nat → Int32) (k : Int32 → Int32 → Int32 → (Nat → Int32) → (Nat → Int32) → (Nat → Int32) → (Nat → Int32) → (Nat → Int32) → (Nat → Int32) → Option (Int32 × (Nat → Int32) × (Nat → Int32) × (Nat → Int32) × (Nat → Int32) × (Nat → Int32) × (Nat → Int32))) : Prop :=
  ∀ (a1 : Int32) (a2 : Int32) (a3 : Int32) (u0 : Nat → Int32) (u1 : Nat → Int32) (u2 : Nat → Int32) (u3 : Nat → Int32) (u4 : Nat → Int32) (u5 : Nat → Int32) (res : Int32 × (Nat → Int32) × (Nat → Int32) × (Nat → Int32) × (Nat → Int32) × (Nat → Int32) × (Nat → Int32)), k a1 a2 a3 u0 u1 u2 u3 u4 u5 = some res → ∀ (H : Heap) (locs : List Loc) (ls : Array Slot), va_P D classes [(o, .inr (12, mo q z)), ((q 1), .inl (cy 0, 103000, .inl g_store)), ((q 14), .inl (cy 1, 17600, .inl g_tId)), ((q 34), .inl (cy 1, 8, .inl u0)), ((q 35), .inl (cy 1, 64, .inl u1)), ((q 36), .inl (cy 0, 32, .inl u2)), ((q 37), .inl (cy 0, 100200, .inl u3)), ((q 74), .inl (cy 1, 17600, .inl u4)), ((q 75), .inl (cy 0, 64, .inl u5))] H → va_D A [(o, .inr (12, mo q z)), ((q 1), .inl (cy 0, 103000, .inl g_store)), ((q 14), .inl (cy 1, 17600, .inl g_tId)), ((q 34), .inl (cy 1, 8, .inl u0)), ((q 35), .inl (cy 1, 64, .inl u1)), ((q 36), .inl (cy 0, 32, .inl u2)), ((q 37), .inl (cy 0, 100200, .inl u3)), ((q 74), .inl (cy 1, 17600, .inl u4)), ((q 75), .inl (cy 0, 64, .inl u5))] → va_S A s.heap H locs → lv_has ls 10 [(0, .ref o), (1, .int a1), (2, .int a2), (3, .int a3)] → W p l e rm_M_isRoot s m args below meth c H locs 0 0 (MQ below (q_M_isRoot D cy A o q z g_store g_tId res) args s 0 0 A) (F0 m 0 ls [])
set_option maxHeartbeats 8000000 in
set_option maxRecDepth 100000 in
theorem wb_M_isRoot_312 {p : Program} {l : Launch} {e : Env} {s : State} {m : MethodId} {args : Array Value} {below : List Frame} {meth : Method} {c : Code} {D : va_G} {cy : Nat → ClassId} {A : Nat → Prop} {ad : Nat → Nat} {o : Nat} {q : Nat → Nat} {z : Nat → Int32} {g_store : Nat → Int32} {g_tId : Nat → Int32} {fu : Nat} {k_290 : Int32 → Int32 → Int32 → Int32 → (Nat → Int32) → (Nat → Int32) → (Nat → Int32) → (Nat → Int32) → (Nat → Int32) → (Nat → Int32) → Option (Int32 × (Nat → Int32) × (Nat → Int32) × (Nat → Int32) × (Nat → Int32) × (Nat → Int32) × (Nat → Int32))} (F : Fx p s m args meth c b_M_isRoot 10 "CoinKeeperModel" "isRoot" (some .boolean) D cy ad A) (hk_290 : I_M_isRoot_290 p l e s m args below meth c D cy A ad o q z g_store g_tId k_290) : I_M_isRoot_312 p l e s m args below meth c D cy A ad o q z g_store g_tId (xb_M_isRoot_312 fu z g_store g_tId k_290) := by
  obtain ⟨hx, hb, hr, hml, hown, hts, hlocks, hK, hA, hSt, hnm, hex⟩ := id F
  intro x2 x3 x4 x5 y0 u0 u1 u2 u3 u4 u5 res hf H locs ls hP hD hS hl
  unfold xb_M_isRoot_312 at hf
  refine lv_aload_n hx hb d_M_isRoot_312 rfl (lv_at hl 0 rfl) ?_
  refine va_get (D := D) (ci := 12) (v := .ref (q 1)) (C := "CoinKeeperModel") (T := F_12) (N := 98) hx hb hts i_12 hown hK hP 0 rfl rfl 1 (by decide) (hts _ gw_1420) (fun _ h9 => h9) rfl d_M_isRoot_313 ?_
  refine lv_iload_n hx hb d_M_isRoot_316 rfl (lv_at hl 2 rfl) ?_
  refine lv_iconst (v := 4) hx hb d_M_isRoot_317 (by decide) ?_
  refine lv_iload hx hb d_M_isRoot_318 (lv_at hl 4 rfl) ?_
  refine lv_imul hx hb d_M_isRoot_320 ?_
  refine lv_iadd hx hb d_M_isRoot_321 ?_
  refine lv_topi (fun v1 ev => ?_)
  have hf := bn ev hf
  clear ev
  obtain ⟨v2, hc, hf⟩ := bdp1 hf
  refine q_ai (wr := [(o, .inr (12, mo q z)), ((q 14), .inl (cy 1, 17600, .inl g_tId)), ((q 34), .inl (cy 1, 8, .inl u0)), ((q 35), .inl (cy 1, 64, .inl u1)), ((q 36), .inl (cy 0, 32, .inl u2)), ((q 37), .inl (cy 0, 100200, .inl u3)), ((q 74), .inl (cy 1, 17600, .inl u4)), ((q 75), .inl (cy 0, 64, .inl u5))]) (va_runS (As := [.ref (q 1), .int v1]) (rest := [.int y0]) ⟨hx, hb, hml, hown, hts⟩ (c_M_small l D cy ad fu (q 1) 103000 g_store v1 _ hc H.size) ⟨q_cB hts gw_1779 gw_18 gw_1777 hdm_4 ⟨by decide, by decide⟩, hts _ gw_1778⟩ (q_pre (hP.sub [1] rfl) (hD.sub [1] (by decide) rfl) hK hSt hS (va_free hD hS hA [1] rfl) _) rfl rfl hl.1 rfl (lv_room (Nat.le_of_ble_eq_true rfl)) d_M_isRoot_322 ⟨Nat.le_of_ble_eq_true rfl, Nat.le_of_ble_eq_true rfl⟩) hP hD hS hA [1] [0, 2, 3, 4, 5, 6, 7, 8] rfl rfl (by decide) (by decide) (fun H locs hP hD hS => ?_)
  clear hc
  have hP : va_P D classes [(o, .inr (12, mo q z)), ((q 14), .inl (cy 1, 17600, .inl g_tId)), ((q 34), .inl (cy 1, 8, .inl u0)), ((q 35), .inl (cy 1, 64, .inl u1)), ((q 36), .inl (cy 0, 32, .inl u2)), ((q 37), .inl (cy 0, 100200, .inl u3)), ((q 74), .inl (cy 1, 17600, .inl u4)), ((q 75), .inl (cy 0, 64, .inl u5)), ((q 1), .inl (cy 0, 103000, .inl g_store))] H := hP
  have hD : va_D A [(o, .inr (12, mo q z)), ((q 14), .inl (cy 1, 17600, .inl g_tId)), ((q 34), .inl (cy 1, 8, .inl u0)), ((q 35), .inl (cy 1, 64, .inl u1)), ((q 36), .inl (cy 0, 32, .inl u2)), ((q 37), .inl (cy 0, 100200, .inl u3)), ((q 74), .inl (cy 1, 17600, .inl u4)), ((q 75), .inl (cy 0, 64, .inl u5)), ((q 1), .inl (cy 0, 103000, .inl g_store))] := hD
  refine lv_icmp_eq (tgt := 330) hx hb d_M_isRoot_325 (by decide) (fun cx => ?_) (fun cx => ?_)
  · have hf := ifp cx hf
    obtain ⟨v3, ev, hf⟩ := bne hf
    refine lv_iinc (v := v3) (lv' := [(5, .int v3), (0, .ref o), (2, .int x2), (3, .int x3), (4, .int x4)]) hx hb d_M_isRoot_330 hl (k := 4) rfl (by rw [ev]; rfl) (by decide) rfl (fun ls hl => ?_)
    clear ev
    refine lv_goto (tgt := 290) hx hb d_M_isRoot_333 (by decide) ?_
    exact hk_290 _ _ _ _ _ _ _ _ _ _ _ hf _ _ _ (hP.sub (ws' := [(o, .inr (12, mo q z)), ((q 1), .inl (cy 0, 103000, .inl g_store)), ((q 14), .inl (cy 1, 17600, .inl g_tId)), ((q 34), .inl (cy 1, 8, .inl u0)), ((q 35), .inl (cy 1, 64, .inl u1)), ((q 36), .inl (cy 0, 32, .inl u2)), ((q 37), .inl (cy 0, 100200, .inl u3)), ((q 74), .inl (cy 1, 17600, .inl u4)), ((q 75), .inl (cy 0, 64, .inl u5))]) [0, 8, 1, 2, 3, 4, 5, 6, 7] rfl) (hD.sub (ws' := [(o, .inr (12, mo q z)), ((q 1), .inl (cy 0, 103000, .inl g_store)), ((q 14), .inl (cy 1, 17600, .inl g_tId)), ((q 34), .inl (cy 1, 8, .inl u0)), ((q 35), .inl (cy 1, 64, .inl u1)), ((q 36), .inl (cy 0, 32, .inl u2)), ((q 37), .inl (cy 0, 100200, .inl u3)), ((q 74), .inl (cy 1, 17600, .inl u4)), ((q 75), .inl (cy 0, 64, .inl u5))]) [0, 8, 1, 2, 3, 4, 5, 6, 7] (by decide) rfl) hS (lv_sub hl [1, 2, 3, 4, 0] rfl)
  · have hf := ifn cx hf
    refine lv_iconst (v := 0) hx hb d_M_isRoot_328 (by decide) ?_
    obtain rfl := Option.some.inj hf
    exact q_rz hx hb hr hlocks hK (hP.sub [0, 8, 1, 2, 3, 4, 5, 6, 7] rfl) (hD.sub [0, 8, 1, 2, 3, 4, 5, 6, 7] (by decide) rfl) hS (isb_n (v := 0) (by decide)) d_M_isRoot_329
set_option maxHeartbeats 8000000 in
set_option maxRecDepth 100000 in
theorem wb_M_isRoot_290 {p : Program} {l : Launch} {e : Env} {s : State} {m : MethodId} {args : Array Value} {below : List Frame} {meth : Method} {c : Code} {D : va_G} {cy : Nat → ClassId} {A : Nat → Prop} {ad : Nat → Nat} {o : Nat} {q : Nat → Nat} {z : Nat → Int32} {g_store : Nat → Int32} {g_tId : Nat → Int32} {fu : Nat} {k_290 : Int32 → Int32 → Int32 → Int32 → (Nat → Int32) → (Nat → Int32) → (Nat → Int32) → (Nat → Int32) → (Nat → Int32) → (Nat → Int32) → Option (Int32 × (Nat → Int32) × (Nat → Int32) × (Nat → Int32) × (Nat → Int32) × (Nat → Int32) × (Nat → Int32))} (F : Fx p s m args meth c b_M_isRoot 10 "CoinKeeperModel" "isRoot" (some .boolean) D cy ad A) (hk_290 : I_M_isRoot_290 p l e s m args below meth c D cy A ad o q z g_store g_tId k_290) : I_M_isRoot_290 p l e s m args below meth c D cy A ad o q z g_store g_tId (xb_M_isRoot_290 fu z g_store g_tId k_290) := by
  obtain ⟨hx, hb, hr, hml, hown, hts, hlocks, hK, hA, hSt, hnm, hex⟩ := id F
  intro x2 x3 x4 x5 u0 u1 u2 u3 u4 u5 res hf H locs ls hP hD hS hl
  unfold xb_M_isRoot_290 at hf
  refine lv_iload hx hb d_M_isRoot_290 (lv_at hl 4 rfl) ?_
  refine lv_bipush (v := 8) hx hb d_M_isRoot_292 (by decide) ?_
  refine lv_icmp_ge (tgt := 336) hx hb d_M_isRoot_294 (by decide) (fun cx => ?_) (fun cx => ?_)
  · have hf := ifp cx hf
    refine lv_iload hx hb d_M_isRoot_336 (lv_at hl 3 rfl) ?_
    obtain ⟨hg, hf⟩ := gdp hf
    obtain rfl := Option.some.inj hf
    exact q_rz hx hb hr hlocks hK hP hD hS (isb_n hg) d_M_isRoot_338
  · have hf := ifn cx hf
    refine lv_iload_n hx hb d_M_isRoot_297 rfl (lv_at hl 1 rfl) ?_
    refine lv_if_ne (tgt := 305) hx hb d_M_isRoot_298 (by decide) (fun cx => ?_) (fun cx => ?_)
    · have hf := ifn cx hf
      refine lv_aload_n hx hb d_M_isRoot_305 rfl (lv_at hl 0 rfl) ?_
      refine va_get (D := D) (ci := 12) (v := .ref (q 74)) (C := "CoinKeeperModel") (T := F_12) (N := 98) hx hb hts i_12 hown hK hP 0 rfl rfl 93 (by decide) (hts _ gw_1512) (fun _ h9 => h9) rfl d_M_isRoot_306 ?_
      refine lv_iload hx hb d_M_isRoot_309 (lv_at hl 4 rfl) ?_
      obtain ⟨hg, hf⟩ := gdp hf
      refine va_iald hx hb hK hP 7 1 rfl rfl (inb_in hg) d_M_isRoot_311 ?_
      refine lv_topi (fun v1 ev => ?_)
      have hf := bn ev hf
      clear ev
      exact wb_M_isRoot_312 (fu := fu) F hk_290 _ _ _ _ _ _ _ _ _ _ _ _ hf _ _ _ hP hD hS (lv_sub hl [0, 1, 2, 3, 4] rfl)
    · have hf := ifp cx hf
      refine lv_iconst (v := 0) hx hb d_M_isRoot_301 (by decide) ?_
      refine lv_goto (tgt := 312) hx hb d_M_isRoot_302 (by decide) ?_
      exact wb_M_isRoot_312 (fu := fu) F hk_290 _ _ _ _ _ _ _ _ _ _ _ _ hf _ _ _ hP hD hS (lv_sub hl [0, 1, 2, 3, 4] rfl)
theorem w_M_isRoot_290 {p : Program} {l : Launch} {e : Env} {s : State} {m : MethodId} {args : Array Value} {below : List Frame} {meth : Method} {c : Code} {D : va_G} {cy : Nat → ClassId} {A : Nat → Prop} {ad : Nat → Nat} {o : Nat} {q : Nat → Nat} {z : Nat → Int32} {g_store : Nat → Int32} {g_tId : Nat → Int32} {fu : Nat} (F : Fx p s m args meth c b_M_isRoot 10 "CoinKeeperModel" "isRoot" (some .boolean) D cy ad A) : ∀ n : Nat, I_M_isRoot_290 p l e s m args below meth c D cy A ad o q z g_store g_tId (x_M_isRoot_290 fu z g_store g_tId n)
  | 0 => fun _ _ _ _ _ _ _ _ _ _ _ hf => nomatch (show (none : Option (Int32 × (Nat → Int32) × (Nat → Int32) × (Nat → Int32) × (Nat → Int32) × (Nat → Int32) × (Nat → Int32))) = some _ from hf)
  | n + 1 => wb_M_isRoot_290 F (w_M_isRoot_290 F n)
set_option maxHeartbeats 8000000 in
set_option maxRecDepth 100000 in
theorem wb_M_isRoot_234 {p : Program} {l : Launch} {e : Env} {s : State} {m : MethodId} {args : Array Value} {below : List Frame} {meth : Method} {c : Code} {D : va_G} {cy : Nat → ClassId} {A : Nat → Prop} {ad : Nat → Nat} {o : Nat} {q : Nat → Nat} {z : Nat → Int32} {g_store : Nat → Int32} {g_tId : Nat → Int32} {fu : Nat} {k_26 : Int32 → Int32 → Int32 → Int32 → (Nat → Int32) → (Nat → Int32) → (Nat → Int32) → (Nat → Int32) → (Nat → Int32) → (Nat → Int32) → Option (Int32 × (Nat → Int32) × (Nat → Int32) × (Nat → Int32) × (Nat → Int32) × (Nat → Int32) × (Nat → Int32))} {k_35 : Int32 → Int32 → Int32 → Int32 → Int32 → (Nat → Int32) → (Nat → Int32) → (Nat → Int32) → (Nat → Int32) → (Nat → Int32) → (Nat → Int32) → Option (Int32 × (Nat → Int32) × (Nat → Int32) × (Nat → Int32) × (Nat → Int32) × (Nat → Int32) × (Nat → Int32))} {k_234 : Int32 → Int32 → Int32 → Int32 → Int32 → Int32 → (Nat → Int32) → (Nat → Int32) → (Nat → Int32) → (Nat → Int32) → (Nat → Int32) → (Nat → Int32) → Option (Int32 × (Nat → Int32) × (Nat → Int32) × (Nat → Int32) × (Nat → Int32) × (Nat → Int32) × (Nat → Int32))} (F : Fx p s m args meth c b_M_isRoot 10 "CoinKeeperModel" "isRoot" (some .boolean) D cy ad A) (hk_26 : I_M_isRoot_26 p l e s m args below meth c D cy A ad o q z g_store g_tId k_26) (hk_35 : I_M_isRoot_35 p l e s m args below meth c D cy A ad o q z g_store g_tId k_35) (hk_234 : I_M_isRoot_234 p l e s m args below meth c D cy A ad o q z g_store g_tId k_234) : I_M_isRoot_234 p l e s m args below meth c D cy A ad o q z g_store g_tId (xb_M_isRoot_234 fu z g_store g_tId k_26 k_35 k_234) := by
  obtain ⟨hx, hb, hr, hml, hown, hts, hlocks, hK, hA, hSt, hnm, hex⟩ := id F
  intro x2 x3 x4 x5 x6 x9 u0 u1 u2 u3 u4 u5 res hf H locs ls hP hD hS hl
  unfold xb_M_isRoot_234 at hf
  refine lv_iload hx hb d_M_isRoot_234 (lv_at hl 6 rfl) ?_
  refine lv_bipush (v := 8) hx hb d_M_isRoot_236 (by decide) ?_
  refine lv_icmp_ge (tgt := 270) hx hb d_M_isRoot_238 (by decide) (fun cx => ?_) (fun cx => ?_)
  · have hf := ifp cx hf
    obtain ⟨v1, ev, hf⟩ := bne hf
    refine lv_iinc (v := v1) (lv' := [(6, .int v1), (0, .ref o), (2, .int x2), (3, .int x3), (4, .int x4), (5, .int x5), (9, .int x9)]) hx hb d_M_isRoot_270 hl (k := 5) rfl (by rw [ev]; rfl) (by decide) rfl (fun ls hl => ?_)
    clear ev
    refine lv_goto (tgt := 35) hx hb d_M_isRoot_273 (by decide) ?_
    exact hk_35 _ _ _ _ _ _ _ _ _ _ _ _ hf _ _ _ hP hD hS (lv_sub hl [1, 2, 3, 4, 5, 0] rfl)
  · have hf := ifn cx hf
    refine lv_aload_n hx hb d_M_isRoot_241 rfl (lv_at hl 0 rfl) ?_
    refine va_get (D := D) (ci := 12) (v := .ref (q 74)) (C := "CoinKeeperModel") (T := F_12) (N := 98) hx hb hts i_12 hown hK hP 0 rfl rfl 93 (by decide) (hts _ gw_1512) (fun _ h9 => h9) rfl d_M_isRoot_242 ?_
    refine lv_iconst (v := 4) hx hb d_M_isRoot_245 (by decide) ?_
    refine lv_iload hx hb d_M_isRoot_246 (lv_at hl 5 rfl) ?_
    refine lv_imul hx hb d_M_isRoot_248 ?_
    refine lv_topi (fun v2 ev => ?_)
    have hf := bn ev hf
    clear ev
    refine lv_iload hx hb d_M_isRoot_249 (lv_at hl 6 rfl) ?_
    refine lv_iadd hx hb d_M_isRoot_251 ?_
    refine lv_topi (fun v3 ev => ?_)
    have hf := bn ev hf
    clear ev
    refine lv_aload_n hx hb d_M_isRoot_252 rfl (lv_at hl 0 rfl) ?_
    refine va_get (D := D) (ci := 12) (v := .ref (q 36)) (C := "CoinKeeperModel") (T := F_12) (N := 98) hx hb hts i_12 hown hK hP 0 rfl rfl 44 (by decide) (hts _ gw_1463) (fun _ h9 => h9) rfl d_M_isRoot_253 ?_
    refine lv_iconst (v := 4) hx hb d_M_isRoot_256 (by decide) ?_
    refine lv_iload hx hb d_M_isRoot_257 (lv_at hl 6 rfl) ?_
    refine lv_imul hx hb d_M_isRoot_259 ?_
    refine lv_topi (fun v4 ev => ?_)
    have hf := bn ev hf
    clear ev
    obtain ⟨v5, hc, hf⟩ := bdp1 hf
    refine q_ai (wr := [(o, .inr (12, mo q z)), ((q 1), .inl (cy 0, 103000, .inl g_store)), ((q 14), .inl (cy 1, 17600, .inl g_tId)), ((q 34), .inl (cy 1, 8, .inl u0)), ((q 35), .inl (cy 1, 64, .inl u1)), ((q 37), .inl (cy 0, 100200, .inl u3)), ((q 74), .inl (cy 1, 17600, .inl u4)), ((q 75), .inl (cy 0, 64, .inl u5))]) (va_runS (As := [.ref (q 36), .int v4]) (rest := [.int v3, .ref (q 74)]) ⟨hx, hb, hml, hown, hts⟩ (c_M_small l D cy ad fu (q 36) 32 u2 v4 _ hc H.size) ⟨q_cB hts gw_1779 gw_18 gw_1777 hdm_4 ⟨by decide, by decide⟩, hts _ gw_1778⟩ (q_pre (hP.sub [5] rfl) (hD.sub [5] (by decide) rfl) hK hSt hS (va_free hD hS hA [5] rfl) _) rfl rfl hl.1 rfl (lv_room (Nat.le_of_ble_eq_true rfl)) d_M_isRoot_260 ⟨Nat.le_of_ble_eq_true rfl, Nat.le_of_ble_eq_true rfl⟩) hP hD hS hA [5] [0, 1, 2, 3, 4, 6, 7, 8] rfl rfl (by decide) (by decide) (fun H locs hP hD hS => ?_)
    clear hc
    have hP : va_P D classes [(o, .inr (12, mo q z)), ((q 1), .inl (cy 0, 103000, .inl g_store)), ((q 14), .inl (cy 1, 17600, .inl g_tId)), ((q 34), .inl (cy 1, 8, .inl u0)), ((q 35), .inl (cy 1, 64, .inl u1)), ((q 37), .inl (cy 0, 100200, .inl u3)), ((q 74), .inl (cy 1, 17600, .inl u4)), ((q 75), .inl (cy 0, 64, .inl u5)), ((q 36), .inl (cy 0, 32, .inl u2))] H := hP
    have hD : va_D A [(o, .inr (12, mo q z)), ((q 1), .inl (cy 0, 103000, .inl g_store)), ((q 14), .inl (cy 1, 17600, .inl g_tId)), ((q 34), .inl (cy 1, 8, .inl u0)), ((q 35), .inl (cy 1, 64, .inl u1)), ((q 37), .inl (cy 0, 100200, .inl u3)), ((q 74), .inl (cy 1, 17600, .inl u4)), ((q 75), .inl (cy 0, 64, .inl u5)), ((q 36), .inl (cy 0, 32, .inl u2))] := hD
    obtain ⟨hg, hf⟩ := gdp hf
    refine va_iast hx hb hK hP hD hS 6 1 rfl rfl (inb_in hg) d_M_isRoot_263 (fun H locs hP hD hS => ?_)
    obtain ⟨f6, ev, hf⟩ := bne hf
    have hP : va_P D classes [(o, .inr (12, mo q z)), ((q 1), .inl (cy 0, 103000, .inl g_store)), ((q 14), .inl (cy 1, 17600, .inl g_tId)), ((q 34), .inl (cy 1, 8, .inl u0)), ((q 35), .inl (cy 1, 64, .inl u1)), ((q 37), .inl (cy 0, 100200, .inl u3)), ((q 74), .inl (cy 1, 17600, .inl f6)), ((q 75), .inl (cy 0, 64, .inl u5)), ((q 36), .inl (cy 0, 32, .inl u2))] H := by rw [ev]; exact hP
    have hD : va_D A [(o, .inr (12, mo q z)), ((q 1), .inl (cy 0, 103000, .inl g_store)), ((q 14), .inl (cy 1, 17600, .inl g_tId)), ((q 34), .inl (cy 1, 8, .inl u0)), ((q 35), .inl (cy 1, 64, .inl u1)), ((q 37), .inl (cy 0, 100200, .inl u3)), ((q 74), .inl (cy 1, 17600, .inl f6)), ((q 75), .inl (cy 0, 64, .inl u5)), ((q 36), .inl (cy 0, 32, .inl u2))] := by rw [ev]; exact hD
    clear ev
    obtain ⟨v7, ev, hf⟩ := bne hf
    refine lv_iinc (v := v7) (lv' := [(9, .int v7), (0, .ref o), (2, .int x2), (3, .int x3), (4, .int x4), (5, .int x5), (6, .int x6)]) hx hb d_M_isRoot_264 hl (k := 6) rfl (by rw [ev]; rfl) (by decide) rfl (fun ls hl => ?_)
    clear ev
    refine lv_goto (tgt := 234) hx hb d_M_isRoot_267 (by decide) ?_
    exact hk_234 _ _ _ _ _ _ _ _ _ _ _ _ _ hf _ _ _ (hP.sub (ws' := [(o, .inr (12, mo q z)), ((q 1), .inl (cy 0, 103000, .inl g_store)), ((q 14), .inl (cy 1, 17600, .inl g_tId)), ((q 34), .inl (cy 1, 8, .inl u0)), ((q 35), .inl (cy 1, 64, .inl u1)), ((q 36), .inl (cy 0, 32, .inl u2)), ((q 37), .inl (cy 0, 100200, .inl u3)), ((q 74), .inl (cy 1, 17600, .inl f6)), ((q 75), .inl (cy 0, 64, .inl u5))]) [0, 1, 2, 3, 4, 8, 5, 6, 7] rfl) (hD.sub (ws' := [(o, .inr (12, mo q z)), ((q 1), .inl (cy 0, 103000, .inl g_store)), ((q 14), .inl (cy 1, 17600, .inl g_tId)), ((q 34), .inl (cy 1, 8, .inl u0)), ((q 35), .inl (cy 1, 64, .inl u1)), ((q 36), .inl (cy 0, 32, .inl u2)), ((q 37), .inl (cy 0, 100200, .inl u3)), ((q 74), .inl (cy 1, 17600, .inl f6)), ((q 75), .inl (cy 0, 64, .inl u5))]) [0, 1, 2, 3, 4, 8, 5, 6, 7] (by decide) rfl) hS (lv_sub hl [1, 2, 3, 4, 5, 6, 0] rfl)
theorem w_M_isRoot_234 {p : Program} {l : Launch} {e : Env} {s : State} {m : MethodId} {args : Array Value} {below : List Frame} {meth : Method} {c : Code} {D : va_G} {cy : Nat → ClassId} {A : Nat → Prop} {ad : Nat → Nat} {o : Nat} {q : Nat → Nat} {z : Nat → Int32} {g_store : Nat → Int32} {g_tId : Nat → Int32} {fu : Nat} {k_26 : Int32 → Int32 → Int32 → Int32 → (Nat → Int32) → (Nat → Int32) → (Nat → Int32) → (Nat → Int32) → (Nat → Int32) → (Nat → Int32) → Option (Int32 × (Nat → Int32) × (Nat → Int32) × (Nat → Int32) × (Nat → Int32) × (Nat → Int32) × (Nat → Int32))} {k_35 : Int32 → Int32 → Int32 → Int32 → Int32 → (Nat → Int32) → (Nat → Int32) → (Nat → Int32) → (Nat → Int32) → (Nat → Int32) → (Nat → Int32) → Option (Int32 × (Nat → Int32) × (Nat → Int32) × (Nat → Int32) × (Nat → Int32) × (Nat → Int32) × (Nat → Int32))} (F : Fx p s m args meth c b_M_isRoot 10 "CoinKeeperModel" "isRoot" (some .boolean) D cy ad A) (hk_26 : I_M_isRoot_26 p l e s m args below meth c D cy A ad o q z g_store g_tId k_26) (hk_35 : I_M_isRoot_35 p l e s m args below meth c D cy A ad o q z g_store g_tId k_35) : ∀ n : Nat, I_M_isRoot_234 p l e s m args below meth c D cy A ad o q z g_store g_tId (x_M_isRoot_234 fu z g_store g_tId k_26 k_35 n)
  | 0 => fun _ _ _ _ _ _ _ _ _ _ _ _ _ hf => nomatch (show (none : Option (Int32 × (Nat → Int32) × (Nat → Int32) × (Nat → Int32) × (Nat → Int32) × (Nat → Int32) × (Nat → Int32))) = some _ from hf)
  | n + 1 => wb_M_isRoot_234 F hk_26 hk_35 (w_M_isRoot_234 F hk_26 hk_35 n)
set_option maxHeartbeats 8000000 in
set_option maxRecDepth 100000 in
theorem wb_M_isRoot_142 {p : Program} {l : Launch} {e : Env} {s : State} {m : MethodId} {args : Array Value} {below : List Frame} {meth : Method} {c : Code} {D : va_G} {cy : Nat → ClassId} {A : Nat → Prop} {ad : Nat → Nat} {o : Nat} {q : Nat → Nat} {z : Nat → Int32} {g_store : Nat → Int32} {g_tId : Nat → Int32} {fu : Nat} {k_26 : Int32 → Int32 → Int32 → Int32 → (Nat → Int32) → (Nat → Int32) → (Nat → Int32) → (Nat → Int32) → (Nat → Int32) → (Nat → Int32) → Option (Int32 × (Nat → Int32) × (Nat → Int32) × (Nat → Int32) × (Nat → Int32) × (Nat → Int32) × (Nat → Int32))} {k_35 : Int32 → Int32 → Int32 → Int32 → Int32 → (Nat → Int32) → (Nat → Int32) → (Nat → Int32) → (Nat → Int32) → (Nat → Int32) → (Nat → Int32) → Option (Int32 × (Nat → Int32) × (Nat → Int32) × (Nat → Int32) × (Nat → Int32) × (Nat → Int32) × (Nat → Int32))} {k_142 : Int32 → Int32 → Int32 → Int32 → Int32 → Int32 → Int32 → (Nat → Int32) → (Nat → Int32) → (Nat → Int32) → (Nat → Int32) → (Nat → Int32) → (Nat → Int32) → Option (Int32 × (Nat → Int32) × (Nat → Int32) × (Nat → Int32) × (Nat → Int32) × (Nat → Int32) × (Nat → Int32))} (F : Fx p s m args meth c b_M_isRoot 10 "CoinKeeperModel" "isRoot" (some .boolean) D cy ad A) (hk_26 : I_M_isRoot_26 p l e s m args below meth c D cy A ad o q z g_store g_tId k_26) (hk_35 : I_M_isRoot_35 p l e s m args below meth c D cy A ad o q z g_store g_tId k_35) (hk_142 : I_M_isRoot_142 p l e s m args below meth c D cy A ad o q z g_store g_tId k_142) : I_M_isRoot_142 p l e s m args below meth c D cy A ad o q z g_store g_tId (xb_M_isRoot_142 fu z g_store g_tId k_26 k_35 k_142) := by
  obtain ⟨hx, hb, hr, hml, hown, hts, hlocks, hK, hA, hSt, hnm, hex⟩ := id F
  intro x2 x3 x4 x5 x6 x7 x9 u0 u1 u2 u3 u4 u5 res hf H locs ls hP hD hS hl
  unfold xb_M_isRoot_142 at hf
  refine lv_iload hx hb d_M_isRoot_142 (lv_at hl 7 rfl) ?_
  refine lv_bipush (v := 32) hx hb d_M_isRoot_144 (by decide) ?_
  refine lv_icmp_ge (tgt := 220) hx hb d_M_isRoot_146 (by decide) (fun cx => ?_) (fun cx => ?_)
  · have hf := ifp cx hf
    refine lv_aload_n hx hb d_M_isRoot_220 rfl (lv_at hl 0 rfl) ?_
    refine lv_aload_n hx hb d_M_isRoot_221 rfl (lv_at hl 0 rfl) ?_
    refine va_get (D := D) (ci := 12) (v := .ref (q 75)) (C := "CoinKeeperModel") (T := F_12) (N := 98) hx hb hts i_12 hown hK hP 0 rfl rfl 94 (by decide) (hts _ gw_1513) (fun _ h9 => h9) rfl d_M_isRoot_222 ?_
    refine lv_iconst (v := 0) hx hb d_M_isRoot_225 (by decide) ?_
    refine lv_bipush (v := 64) hx hb d_M_isRoot_226 (by decide) ?_
    obtain ⟨f1, f2, f3, f4, hc, hf⟩ := bdp4 hf
    refine q_av (wr := [((q 1), .inl (cy 0, 103000, .inl g_store)), ((q 14), .inl (cy 1, 17600, .inl g_tId)), ((q 74), .inl (cy 1, 17600, .inl u4))]) (va_runV (C := "CoinKeeperModel") (As := [.ref (q 75), .int (0 : Int32), .int (64 : Int32)]) (rest := []) ⟨hx, hb, hml, hown, hts⟩ (c_M_twice l D cy ad fu o q (q 75) z 64 u5 (0 : Int32) (64 : Int32) u0 u1 u2 u3 _ hc H.size) ⟨q_cB hts gw_1761 gw_18 gw_1758 hdm_3 ⟨by decide, by decide⟩, hts _ gw_1760, hts _ gs_72⟩ (q_preV (q_pre (hP.sub [0, 3, 4, 5, 6, 8] rfl) (hD.sub [0, 3, 4, 5, 6, 8] (by decide) rfl) hK hSt hS (va_free hD hS hA [0, 3, 4, 5, 6, 8] rfl) _) (va_recv hK (hP.sub [0, 3, 4, 5, 6, 8] rfl) (ci := 12) (q0 := 0) rfl rfl)) rfl rfl hl.1 rfl (lv_room (Nat.le_of_ble_eq_true rfl)) d_M_isRoot_228 ⟨Nat.le_of_ble_eq_true rfl, Nat.le_of_ble_eq_true rfl⟩) hP hD hS hA [0, 3, 4, 5, 6, 8] [1, 2, 7] rfl rfl (by decide) (by decide) (fun H locs hP hD hS => ?_)
    clear hc
    have hP : va_P D classes [((q 1), .inl (cy 0, 103000, .inl g_store)), ((q 14), .inl (cy 1, 17600, .inl g_tId)), ((q 74), .inl (cy 1, 17600, .inl u4)), (o, .inr (12, mo q z)), ((q 34), .inl (cy 1, 8, .inl f1)), ((q 35), .inl (cy 1, 64, .inl f2)), ((q 36), .inl (cy 0, 32, .inl f3)), ((q 37), .inl (cy 0, 100200, .inl f4)), ((q 75), .inl (cy 0, 64, .inl u5))] H := hP
    have hD : va_D A [((q 1), .inl (cy 0, 103000, .inl g_store)), ((q 14), .inl (cy 1, 17600, .inl g_tId)), ((q 74), .inl (cy 1, 17600, .inl u4)), (o, .inr (12, mo q z)), ((q 34), .inl (cy 1, 8, .inl f1)), ((q 35), .inl (cy 1, 64, .inl f2)), ((q 36), .inl (cy 0, 32, .inl f3)), ((q 37), .inl (cy 0, 100200, .inl f4)), ((q 75), .inl (cy 0, 64, .inl u5))] := hD
    refine lv_iconst (v := 0) hx hb d_M_isRoot_231 (by decide) ?_
    refine lv_istore (lv' := [(9, .int (0 : Int32)), (0, .ref o), (2, .int x2), (3, .int x3), (4, .int x4), (5, .int x5), (6, .int x6), (7, .int x7)]) hx hb d_M_isRoot_232 hl (by decide) rfl (fun ls hl => ?_)
    exact w_M_isRoot_234 F hk_26 hk_35 fu _ _ _ _ _ _ _ _ _ _ _ _ _ hf _ _ _ (hP.sub (ws' := [(o, .inr (12, mo q z)), ((q 1), .inl (cy 0, 103000, .inl g_store)), ((q 14), .inl (cy 1, 17600, .inl g_tId)), ((q 34), .inl (cy 1, 8, .inl f1)), ((q 35), .inl (cy 1, 64, .inl f2)), ((q 36), .inl (cy 0, 32, .inl f3)), ((q 37), .inl (cy 0, 100200, .inl f4)), ((q 74), .inl (cy 1, 17600, .inl u4)), ((q 75), .inl (cy 0, 64, .inl u5))]) [3, 0, 1, 4, 5, 6, 7, 2, 8] rfl) (hD.sub (ws' := [(o, .inr (12, mo q z)), ((q 1), .inl (cy 0, 103000, .inl g_store)), ((q 14), .inl (cy 1, 17600, .inl g_tId)), ((q 34), .inl (cy 1, 8, .inl f1)), ((q 35), .inl (cy 1, 64, .inl f2)), ((q 36), .inl (cy 0, 32, .inl f3)), ((q 37), .inl (cy 0, 100200, .inl f4)), ((q 74), .inl (cy 1, 17600, .inl u4)), ((q 75), .inl (cy 0, 64, .inl u5))]) [3, 0, 1, 4, 5, 6, 7, 2, 8] (by decide) rfl) hS (lv_sub hl [1, 2, 3, 4, 5, 6, 0] rfl)
  · have hf := ifn cx hf
    refine lv_aload_n hx hb d_M_isRoot_149 rfl (lv_at hl 0 rfl) ?_
    refine va_get (D := D) (ci := 12) (v := .ref (q 75)) (C := "CoinKeeperModel") (T := F_12) (N := 98) hx hb hts i_12 hown hK hP 0 rfl rfl 94 (by decide) (hts _ gw_1513) (fun _ h9 => h9) rfl d_M_isRoot_150 ?_
    refine lv_iload hx hb d_M_isRoot_153 (lv_at hl 7 rfl) ?_
    refine lv_aload_n hx hb d_M_isRoot_155 rfl (lv_at hl 0 rfl) ?_
    refine va_get (D := D) (ci := 12) (v := .ref (q 74)) (C := "CoinKeeperModel") (T := F_12) (N := 98) hx hb hts i_12 hown hK hP 0 rfl rfl 93 (by decide) (hts _ gw_1512) (fun _ h9 => h9) rfl d_M_isRoot_156 ?_
    refine lv_bipush (v := 8) hx hb d_M_isRoot_159 (by decide) ?_
    refine lv_iload hx hb d_M_isRoot_161 (lv_at hl 5 rfl) ?_
    refine lv_imul hx hb d_M_isRoot_163 ?_
    refine lv_topi (fun v5 ev => ?_)
    have hf := bn ev hf
    clear ev
    refine lv_iload hx hb d_M_isRoot_164 (lv_at hl 7 rfl) ?_
    refine lv_iconst (v := 4) hx hb d_M_isRoot_166 (by decide) ?_
    refine lv_idiv hx hb d_M_isRoot_167 (by decide) ?_
    refine lv_iadd hx hb d_M_isRoot_168 ?_
    refine lv_topi (fun v6 ev => ?_)
    have hf := bn ev hf
    clear ev
    obtain ⟨hg, hf⟩ := gdp hf
    refine va_iald hx hb hK hP 7 1 rfl rfl (inb_in hg) d_M_isRoot_169 ?_
    refine lv_topi (fun v7 ev => ?_)
    have hf := bn ev hf
    clear ev
    refine lv_bipush (v := 8) hx hb d_M_isRoot_170 (by decide) ?_
    refine lv_iload hx hb d_M_isRoot_172 (lv_at hl 7 rfl) ?_
    refine lv_iconst (v := 4) hx hb d_M_isRoot_174 (by decide) ?_
    refine lv_irem hx hb d_M_isRoot_175 (by decide) ?_
    refine lv_imul hx hb d_M_isRoot_176 ?_
    refine lv_ishr hx hb d_M_isRoot_177 ?_
    refine lv_i2b hx hb d_M_isRoot_178 rfl ?_
    refine lv_topi (fun v8 ev => ?_)
    have hf := bn ev hf
    clear ev
    obtain ⟨hg, hf⟩ := gdp hf
    refine va_bast hx hb hK hP hD hS 8 0 rfl rfl (inb_in hg) d_M_isRoot_179 (fun H locs hP hD hS => ?_)
    obtain ⟨f9, ev, hf⟩ := bne hf
    have hP : va_P D classes [(o, .inr (12, mo q z)), ((q 1), .inl (cy 0, 103000, .inl g_store)), ((q 14), .inl (cy 1, 17600, .inl g_tId)), ((q 34), .inl (cy 1, 8, .inl u0)), ((q 35), .inl (cy 1, 64, .inl u1)), ((q 36), .inl (cy 0, 32, .inl u2)), ((q 37), .inl (cy 0, 100200, .inl u3)), ((q 74), .inl (cy 1, 17600, .inl u4)), ((q 75), .inl (cy 0, 64, .inl f9))] H := by rw [ev]; exact hP
    have hD : va_D A [(o, .inr (12, mo q z)), ((q 1), .inl (cy 0, 103000, .inl g_store)), ((q 14), .inl (cy 1, 17600, .inl g_tId)), ((q 34), .inl (cy 1, 8, .inl u0)), ((q 35), .inl (cy 1, 64, .inl u1)), ((q 36), .inl (cy 0, 32, .inl u2)), ((q 37), .inl (cy 0, 100200, .inl u3)), ((q 74), .inl (cy 1, 17600, .inl u4)), ((q 75), .inl (cy 0, 64, .inl f9))] := by rw [ev]; exact hD
    clear ev
    refine lv_aload_n hx hb d_M_isRoot_180 rfl (lv_at hl 0 rfl) ?_
    refine va_get (D := D) (ci := 12) (v := .ref (q 75)) (C := "CoinKeeperModel") (T := F_12) (N := 98) hx hb hts i_12 hown hK hP 0 rfl rfl 94 (by decide) (hts _ gw_1513) (fun _ h9 => h9) rfl d_M_isRoot_181 ?_
    refine lv_bipush (v := 32) hx hb d_M_isRoot_184 (by decide) ?_
    refine lv_iload hx hb d_M_isRoot_186 (lv_at hl 7 rfl) ?_
    refine lv_iadd hx hb d_M_isRoot_188 ?_
    refine lv_topi (fun v10 ev => ?_)
    have hf := bn ev hf
    clear ev
    refine lv_aload_n hx hb d_M_isRoot_189 rfl (lv_at hl 0 rfl) ?_
    refine va_get (D := D) (ci := 12) (v := .ref (q 74)) (C := "CoinKeeperModel") (T := F_12) (N := 98) hx hb hts i_12 hown hK hP 0 rfl rfl 93 (by decide) (hts _ gw_1512) (fun _ h9 => h9) rfl d_M_isRoot_190 ?_
    refine lv_bipush (v := 8) hx hb d_M_isRoot_193 (by decide) ?_
    refine lv_iload hx hb d_M_isRoot_195 (lv_at hl 6 rfl) ?_
    refine lv_imul hx hb d_M_isRoot_197 ?_
    refine lv_topi (fun v11 ev => ?_)
    have hf := bn ev hf
    clear ev
    refine lv_iload hx hb d_M_isRoot_198 (lv_at hl 7 rfl) ?_
    refine lv_iconst (v := 4) hx hb d_M_isRoot_200 (by decide) ?_
    refine lv_idiv hx hb d_M_isRoot_201 (by decide) ?_
    refine lv_iadd hx hb d_M_isRoot_202 ?_
    refine lv_topi (fun v12 ev => ?_)
    have hf := bn ev hf
    clear ev
    obtain ⟨hg, hf⟩ := gdp hf
    refine va_iald hx hb hK hP 7 1 rfl rfl (inb_in hg) d_M_isRoot_203 ?_
    refine lv_topi (fun v13 ev => ?_)
    have hf := bn ev hf
    clear ev
    refine lv_bipush (v := 8) hx hb d_M_isRoot_204 (by decide) ?_
    refine lv_iload hx hb d_M_isRoot_206 (lv_at hl 7 rfl) ?_
    refine lv_iconst (v := 4) hx hb d_M_isRoot_208 (by decide) ?_
    refine lv_irem hx hb d_M_isRoot_209 (by decide) ?_
    refine lv_imul hx hb d_M_isRoot_210 ?_
    refine lv_ishr hx hb d_M_isRoot_211 ?_
    refine lv_i2b hx hb d_M_isRoot_212 rfl ?_
    refine lv_topi (fun v14 ev => ?_)
    have hf := bn ev hf
    clear ev
    obtain ⟨hg, hf⟩ := gdp hf
    refine va_bast hx hb hK hP hD hS 8 0 rfl rfl (inb_in hg) d_M_isRoot_213 (fun H locs hP hD hS => ?_)
    obtain ⟨f15, ev, hf⟩ := bne hf
    have hP : va_P D classes [(o, .inr (12, mo q z)), ((q 1), .inl (cy 0, 103000, .inl g_store)), ((q 14), .inl (cy 1, 17600, .inl g_tId)), ((q 34), .inl (cy 1, 8, .inl u0)), ((q 35), .inl (cy 1, 64, .inl u1)), ((q 36), .inl (cy 0, 32, .inl u2)), ((q 37), .inl (cy 0, 100200, .inl u3)), ((q 74), .inl (cy 1, 17600, .inl u4)), ((q 75), .inl (cy 0, 64, .inl f15))] H := by rw [ev]; exact hP
    have hD : va_D A [(o, .inr (12, mo q z)), ((q 1), .inl (cy 0, 103000, .inl g_store)), ((q 14), .inl (cy 1, 17600, .inl g_tId)), ((q 34), .inl (cy 1, 8, .inl u0)), ((q 35), .inl (cy 1, 64, .inl u1)), ((q 36), .inl (cy 0, 32, .inl u2)), ((q 37), .inl (cy 0, 100200, .inl u3)), ((q 74), .inl (cy 1, 17600, .inl u4)), ((q 75), .inl (cy 0, 64, .inl f15))] := by rw [ev]; exact hD
    clear ev
    obtain ⟨v16, ev, hf⟩ := bne hf
    refine lv_iinc (v := v16) (lv' := [(9, .int v16), (0, .ref o), (2, .int x2), (3, .int x3), (4, .int x4), (5, .int x5), (6, .int x6), (7, .int x7)]) hx hb d_M_isRoot_214 hl (k := 7) rfl (by rw [ev]; rfl) (by decide) rfl (fun ls hl => ?_)
    clear ev
    refine lv_goto (tgt := 142) hx hb d_M_isRoot_217 (by decide) ?_
    exact hk_142 _ _ _ _ _ _ _ _ _ _ _ _ _ _ hf _ _ _ hP hD hS (lv_sub hl [1, 2, 3, 4, 5, 6, 7, 0] rfl)
theorem w_M_isRoot_142 {p : Program} {l : Launch} {e : Env} {s : State} {m : MethodId} {args : Array Value} {below : List Frame} {meth : Method} {c : Code} {D : va_G} {cy : Nat → ClassId} {A : Nat → Prop} {ad : Nat → Nat} {o : Nat} {q : Nat → Nat} {z : Nat → Int32} {g_store : Nat → Int32} {g_tId : Nat → Int32} {fu : Nat} {k_26 : Int32 → Int32 → Int32 → Int32 → (Nat → Int32) → (Nat → Int32) → (Nat → Int32) → (Nat → Int32) → (Nat → Int32) → (Nat → Int32) → Option (Int32 × (Nat → Int32) × (Nat → Int32) × (Nat → Int32) × (Nat → Int32) × (Nat → Int32) × (Nat → Int32))} {k_35 : Int32 → Int32 → Int32 → Int32 → Int32 → (Nat → Int32) → (Nat → Int32) → (Nat → Int32) → (Nat → Int32) → (Nat → Int32) → (Nat → Int32) → Option (Int32 × (Nat → Int32) × (Nat → Int32) × (Nat → Int32) × (Nat → Int32) × (Nat → Int32) × (Nat → Int32))} (F : Fx p s m args meth c b_M_isRoot 10 "CoinKeeperModel" "isRoot" (some .boolean) D cy ad A) (hk_26 : I_M_isRoot_26 p l e s m args below meth c D cy A ad o q z g_store g_tId k_26) (hk_35 : I_M_isRoot_35 p l e s m args below meth c D cy A ad o q z g_store g_tId k_35) : ∀ n : Nat, I_M_isRoot_142 p l e s m args below meth c D cy A ad o q z g_store g_tId (x_M_isRoot_142 fu z g_store g_tId k_26 k_35 n)
  | 0 => fun _ _ _ _ _ _ _ _ _ _ _ _ _ _ hf => nomatch (show (none : Option (Int32 × (Nat → Int32) × (Nat → Int32) × (Nat → Int32) × (Nat → Int32) × (Nat → Int32) × (Nat → Int32))) = some _ from hf)
  | n + 1 => wb_M_isRoot_142 F hk_26 hk_35 (w_M_isRoot_142 F hk_26 hk_35 n)
set_option maxHeartbeats 8000000 in
set_option maxRecDepth 100000 in
theorem wb_M_isRoot_139 {p : Program} {l : Launch} {e : Env} {s : State} {m : MethodId} {args : Array Value} {below : List Frame} {meth : Method} {c : Code} {D : va_G} {cy : Nat → ClassId} {A : Nat → Prop} {ad : Nat → Nat} {o : Nat} {q : Nat → Nat} {z : Nat → Int32} {g_store : Nat → Int32} {g_tId : Nat → Int32} {fu : Nat} {k_26 : Int32 → Int32 → Int32 → Int32 → (Nat → Int32) → (Nat → Int32) → (Nat → Int32) → (Nat → Int32) → (Nat → Int32) → (Nat → Int32) → Option (Int32 × (Nat → Int32) × (Nat → Int32) × (Nat → Int32) × (Nat → Int32) × (Nat → Int32) × (Nat → Int32))} {k_35 : Int32 → Int32 → Int32 → Int32 → Int32 → (Nat → Int32) → (Nat → Int32) → (Nat → Int32) → (Nat → Int32) → (Nat → Int32) → (Nat → Int32) → Option (Int32 × (Nat → Int32) × (Nat → Int32) × (Nat → Int32) × (Nat → Int32) × (Nat → Int32) × (Nat → Int32))} (F : Fx p s m args meth c b_M_isRoot 10 "CoinKeeperModel" "isRoot" (some .boolean) D cy ad A) (hk_26 : I_M_isRoot_26 p l e s m args below meth c D cy A ad o q z g_store g_tId k_26) (hk_35 : I_M_isRoot_35 p l e s m args below meth c D cy A ad o q z g_store g_tId k_35) : I_M_isRoot_139 p l e s m args below meth c D cy A ad o q z g_store g_tId (xb_M_isRoot_139 fu z g_store g_tId k_26 k_35) := by
  obtain ⟨hx, hb, hr, hml, hown, hts, hlocks, hK, hA, hSt, hnm, hex⟩ := id F
  intro x2 x3 x4 x5 x6 x7 u0 u1 u2 u3 u4 u5 res hf H locs ls hP hD hS hl
  unfold xb_M_isRoot_139 at hf
  refine lv_iconst (v := 0) hx hb d_M_isRoot_139 (by decide) ?_
  refine lv_istore (lv' := [(9, .int (0 : Int32)), (0, .ref o), (2, .int x2), (3, .int x3), (4, .int x4), (5, .int x5), (6, .int x6), (7, .int x7)]) hx hb d_M_isRoot_140 hl (by decide) rfl (fun ls hl => ?_)
  exact w_M_isRoot_142 F hk_26 hk_35 fu _ _ _ _ _ _ _ _ _ _ _ _ _ _ hf _ _ _ hP hD hS (lv_sub hl [1, 2, 3, 4, 5, 6, 7, 0] rfl)
set_option maxHeartbeats 8000000 in
set_option maxRecDepth 100000 in
theorem wb_M_isRoot_122 {p : Program} {l : Launch} {e : Env} {s : State} {m : MethodId} {args : Array Value} {below : List Frame} {meth : Method} {c : Code} {D : va_G} {cy : Nat → ClassId} {A : Nat → Prop} {ad : Nat → Nat} {o : Nat} {q : Nat → Nat} {z : Nat → Int32} {g_store : Nat → Int32} {g_tId : Nat → Int32} {fu : Nat} {k_26 : Int32 → Int32 → Int32 → Int32 → (Nat → Int32) → (Nat → Int32) → (Nat → Int32) → (Nat → Int32) → (Nat → Int32) → (Nat → Int32) → Option (Int32 × (Nat → Int32) × (Nat → Int32) × (Nat → Int32) × (Nat → Int32) × (Nat → Int32) × (Nat → Int32))} {k_35 : Int32 → Int32 → Int32 → Int32 → Int32 → (Nat → Int32) → (Nat → Int32) → (Nat → Int32) → (Nat → Int32) → (Nat → Int32) → (Nat → Int32) → Option (Int32 × (Nat → Int32) × (Nat → Int32) × (Nat → Int32) × (Nat → Int32) × (Nat → Int32) × (Nat → Int32))} {k_79 : Int32 → Int32 → Int32 → Int32 → Int32 → Int32 → Int32 → Int32 → (Nat → Int32) → (Nat → Int32) → (Nat → Int32) → (Nat → Int32) → (Nat → Int32) → (Nat → Int32) → Option (Int32 × (Nat → Int32) × (Nat → Int32) × (Nat → Int32) × (Nat → Int32) × (Nat → Int32) × (Nat → Int32))} (F : Fx p s m args meth c b_M_isRoot 10 "CoinKeeperModel" "isRoot" (some .boolean) D cy ad A) (hk_26 : I_M_isRoot_26 p l e s m args below meth c D cy A ad o q z g_store g_tId k_26) (hk_35 : I_M_isRoot_35 p l e s m args below meth c D cy A ad o q z g_store g_tId k_35) (hk_79 : I_M_isRoot_79 p l e s m args below meth c D cy A ad o q z g_store g_tId k_79) : I_M_isRoot_122 p l e s m args below meth c D cy A ad o q z g_store g_tId (xb_M_isRoot_122 fu z g_store g_tId k_26 k_35 k_79) := by
  obtain ⟨hx, hb, hr, hml, hown, hts, hlocks, hK, hA, hSt, hnm, hex⟩ := id F
  intro x2 x3 x4 x5 x6 x7 x9 y0 y1 u0 u1 u2 u3 u4 u5 res hf H locs ls hP hD hS hl
  unfold xb_M_isRoot_122 at hf
  refine lv_iand hx hb d_M_isRoot_122 ?_
  refine lv_topi (fun v1 ev => ?_)
  have hf := bn ev hf
  clear ev
  refine lv_istore (lv' := [(8, .int v1), (0, .ref o), (2, .int x2), (3, .int x3), (4, .int x4), (5, .int x5), (6, .int x6), (7, .int x7), (9, .int x9)]) hx hb d_M_isRoot_123 hl (by decide) rfl (fun ls hl => ?_)
  obtain ⟨v2, ev, hf⟩ := bne hf
  refine lv_iinc (v := v2) (lv' := [(9, .int v2), (8, .int v1), (0, .ref o), (2, .int x2), (3, .int x3), (4, .int x4), (5, .int x5), (6, .int x6), (7, .int x7)]) hx hb d_M_isRoot_125 hl (k := 8) rfl (by rw [ev]; rfl) (by decide) rfl (fun ls hl => ?_)
  clear ev
  refine lv_goto (tgt := 79) hx hb d_M_isRoot_128 (by decide) ?_
  exact hk_79 _ _ _ _ _ _ _ _ _ _ _ _ _ _ _ hf _ _ _ hP hD hS (lv_sub hl [2, 3, 4, 5, 6, 7, 8, 1, 0] rfl)
set_option maxHeartbeats 8000000 in
set_option maxRecDepth 100000 in
theorem wb_M_isRoot_79 {p : Program} {l : Launch} {e : Env} {s : State} {m : MethodId} {args : Array Value} {below : List Frame} {meth : Method} {c : Code} {D : va_G} {cy : Nat → ClassId} {A : Nat → Prop} {ad : Nat → Nat} {o : Nat} {q : Nat → Nat} {z : Nat → Int32} {g_store : Nat → Int32} {g_tId : Nat → Int32} {fu : Nat} {k_26 : Int32 → Int32 → Int32 → Int32 → (Nat → Int32) → (Nat → Int32) → (Nat → Int32) → (Nat → Int32) → (Nat → Int32) → (Nat → Int32) → Option (Int32 × (Nat → Int32) × (Nat → Int32) × (Nat → Int32) × (Nat → Int32) × (Nat → Int32) × (Nat → Int32))} {k_35 : Int32 → Int32 → Int32 → Int32 → Int32 → (Nat → Int32) → (Nat → Int32) → (Nat → Int32) → (Nat → Int32) → (Nat → Int32) → (Nat → Int32) → Option (Int32 × (Nat → Int32) × (Nat → Int32) × (Nat → Int32) × (Nat → Int32) × (Nat → Int32) × (Nat → Int32))} {k_79 : Int32 → Int32 → Int32 → Int32 → Int32 → Int32 → Int32 → Int32 → (Nat → Int32) → (Nat → Int32) → (Nat → Int32) → (Nat → Int32) → (Nat → Int32) → (Nat → Int32) → Option (Int32 × (Nat → Int32) × (Nat → Int32) × (Nat → Int32) × (Nat → Int32) × (Nat → Int32) × (Nat → Int32))} (F : Fx p s m args meth c b_M_isRoot 10 "CoinKeeperModel" "isRoot" (some .boolean) D cy ad A) (hk_26 : I_M_isRoot_26 p l e s m args below meth c D cy A ad o q z g_store g_tId k_26) (hk_35 : I_M_isRoot_35 p l e s m args below meth c D cy A ad o q z g_store g_tId k_35) (hk_79 : I_M_isRoot_79 p l e s m args below meth c D cy A ad o q z g_store g_tId k_79) : I_M_isRoot_79 p l e s m args below meth c D cy A ad o q z g_store g_tId (xb_M_isRoot_79 fu z g_store g_tId k_26 k_35 k_79) := by
  obtain ⟨hx, hb, hr, hml, hown, hts, hlocks, hK, hA, hSt, hnm, hex⟩ := id F
  intro x2 x3 x4 x5 x6 x7 x8 x9 u0 u1 u2 u3 u4 u5 res hf H locs ls hP hD hS hl
  unfold xb_M_isRoot_79 at hf
  refine lv_iload hx hb d_M_isRoot_79 (lv_at hl 8 rfl) ?_
  refine lv_bipush (v := 8) hx hb d_M_isRoot_81 (by decide) ?_
  refine lv_icmp_ge (tgt := 131) hx hb d_M_isRoot_83 (by decide) (fun cx => ?_) (fun cx => ?_)
  · have hf := ifp cx hf
    refine lv_iload hx hb d_M_isRoot_131 (lv_at hl 7 rfl) ?_
    refine lv_if_eq (tgt := 139) hx hb d_M_isRoot_133 (by decide) (fun cx => ?_) (fun cx => ?_)
    · have hf := ifp cx hf
      exact wb_M_isRoot_139 (fu := fu) F hk_26 hk_35 _ _ _ _ _ _ _ _ _ _ _ _ _ hf _ _ _ hP hD hS (lv_sub hl [0, 1, 2, 3, 4, 5, 6] rfl)
    · have hf := ifn cx hf
      refine lv_iconst (v := 0) hx hb d_M_isRoot_136 (by decide) ?_
      refine lv_istore (lv' := [(4, .int (0 : Int32)), (0, .ref o), (2, .int x2), (3, .int x3), (5, .int x5), (6, .int x6), (7, .int x7), (8, .int x8), (9, .int x9)]) hx hb d_M_isRoot_137 hl (by decide) rfl (fun ls hl => ?_)
      exact wb_M_isRoot_139 (fu := fu) F hk_26 hk_35 _ _ _ _ _ _ _ _ _ _ _ _ _ hf _ _ _ hP hD hS (lv_sub hl [1, 2, 3, 0, 4, 5, 6] rfl)
  · have hf := ifn cx hf
    refine lv_iload hx hb d_M_isRoot_86 (lv_at hl 7 rfl) ?_
    refine lv_aload_n hx hb d_M_isRoot_88 rfl (lv_at hl 0 rfl) ?_
    refine va_get (D := D) (ci := 12) (v := .ref (q 74)) (C := "CoinKeeperModel") (T := F_12) (N := 98) hx hb hts i_12 hown hK hP 0 rfl rfl 93 (by decide) (hts _ gw_1512) (fun _ h9 => h9) rfl d_M_isRoot_89 ?_
    refine lv_bipush (v := 8) hx hb d_M_isRoot_92 (by decide) ?_
    refine lv_iload hx hb d_M_isRoot_94 (lv_at hl 5 rfl) ?_
    refine lv_imul hx hb d_M_isRoot_96 ?_
    refine lv_topi (fun v1 ev => ?_)
    have hf := bn ev hf
    clear ev
    refine lv_iload hx hb d_M_isRoot_97 (lv_at hl 8 rfl) ?_
    refine lv_iadd hx hb d_M_isRoot_99 ?_
    refine lv_topi (fun v2 ev => ?_)
    have hf := bn ev hf
    clear ev
    obtain ⟨hg, hf⟩ := gdp hf
    refine va_iald hx hb hK hP 7 1 rfl rfl (inb_in hg) d_M_isRoot_100 ?_
    refine lv_topi (fun v3 ev => ?_)
    have hf := bn ev hf
    clear ev
    refine lv_aload_n hx hb d_M_isRoot_101 rfl (lv_at hl 0 rfl) ?_
    refine va_get (D := D) (ci := 12) (v := .ref (q 74)) (C := "CoinKeeperModel") (T := F_12) (N := 98) hx hb hts i_12 hown hK hP 0 rfl rfl 93 (by decide) (hts _ gw_1512) (fun _ h9 => h9) rfl d_M_isRoot_102 ?_
    refine lv_bipush (v := 8) hx hb d_M_isRoot_105 (by decide) ?_
    refine lv_iload hx hb d_M_isRoot_107 (lv_at hl 6 rfl) ?_
    refine lv_imul hx hb d_M_isRoot_109 ?_
    refine lv_topi (fun v4 ev => ?_)
    have hf := bn ev hf
    clear ev
    refine lv_iload hx hb d_M_isRoot_110 (lv_at hl 8 rfl) ?_
    refine lv_iadd hx hb d_M_isRoot_112 ?_
    refine lv_topi (fun v5 ev => ?_)
    have hf := bn ev hf
    clear ev
    obtain ⟨hg, hf⟩ := gdp hf
    refine va_iald hx hb hK hP 7 1 rfl rfl (inb_in hg) d_M_isRoot_113 ?_
    refine lv_topi (fun v6 ev => ?_)
    have hf := bn ev hf
    clear ev
    refine lv_icmp_ne (tgt := 121) hx hb d_M_isRoot_114 (by decide) (fun cx => ?_) (fun cx => ?_)
    · have hf := ifn cx hf
      refine lv_iconst (v := 0) hx hb d_M_isRoot_121 (by decide) ?_
      exact wb_M_isRoot_122 (fu := fu) F hk_26 hk_35 hk_79 _ _ _ _ _ _ _ _ _ _ _ _ _ _ _ _ hf _ _ _ hP hD hS (lv_sub hl [0, 1, 2, 3, 4, 5, 6, 8] rfl)
    · have hf := ifp cx hf
      refine lv_iconst (v := 1) hx hb d_M_isRoot_117 (by decide) ?_
      refine lv_goto (tgt := 122) hx hb d_M_isRoot_118 (by decide) ?_
      exact wb_M_isRoot_122 (fu := fu) F hk_26 hk_35 hk_79 _ _ _ _ _ _ _ _ _ _ _ _ _ _ _ _ hf _ _ _ hP hD hS (lv_sub hl [0, 1, 2, 3, 4, 5, 6, 8] rfl)
theorem w_M_isRoot_79 {p : Program} {l : Launch} {e : Env} {s : State} {m : MethodId} {args : Array Value} {below : List Frame} {meth : Method} {c : Code} {D : va_G} {cy : Nat → ClassId} {A : Nat → Prop} {ad : Nat → Nat} {o : Nat} {q : Nat → Nat} {z : Nat → Int32} {g_store : Nat → Int32} {g_tId : Nat → Int32} {fu : Nat} {k_26 : Int32 → Int32 → Int32 → Int32 → (Nat → Int32) → (Nat → Int32) → (Nat → Int32) → (Nat → Int32) → (Nat → Int32) → (Nat → Int32) → Option (Int32 × (Nat → Int32) × (Nat → Int32) × (Nat → Int32) × (Nat → Int32) × (Nat → Int32) × (Nat → Int32))} {k_35 : Int32 → Int32 → Int32 → Int32 → Int32 → (Nat → Int32) → (Nat → Int32) → (Nat → Int32) → (Nat → Int32) → (Nat → Int32) → (Nat → Int32) → Option (Int32 × (Nat → Int32) × (Nat → Int32) × (Nat → Int32) × (Nat → Int32) × (Nat → Int32) × (Nat → Int32))} (F : Fx p s m args meth c b_M_isRoot 10 "CoinKeeperModel" "isRoot" (some .boolean) D cy ad A) (hk_26 : I_M_isRoot_26 p l e s m args below meth c D cy A ad o q z g_store g_tId k_26) (hk_35 : I_M_isRoot_35 p l e s m args below meth c D cy A ad o q z g_store g_tId k_35) : ∀ n : Nat, I_M_isRoot_79 p l e s m args below meth c D cy A ad o q z g_store g_tId (x_M_isRoot_79 fu z g_store g_tId k_26 k_35 n)
  | 0 => fun _ _ _ _ _ _ _ _ _ _ _ _ _ _ _ hf => nomatch (show (none : Option (Int32 × (Nat → Int32) × (Nat → Int32) × (Nat → Int32) × (Nat → Int32) × (Nat → Int32) × (Nat → Int32))) = some _ from hf)
  | n + 1 => wb_M_isRoot_79 F hk_26 hk_35 (w_M_isRoot_79 F hk_26 hk_35 n)
set_option maxHeartbeats 8000000 in
set_option maxRecDepth 100000 in
theorem wb_M_isRoot_74 {p : Program} {l : Launch} {e : Env} {s : State} {m : MethodId} {args : Array Value} {below : List Frame} {meth : Method} {c : Code} {D : va_G} {cy : Nat → ClassId} {A : Nat → Prop} {ad : Nat → Nat} {o : Nat} {q : Nat → Nat} {z : Nat → Int32} {g_store : Nat → Int32} {g_tId : Nat → Int32} {fu : Nat} {k_26 : Int32 → Int32 → Int32 → Int32 → (Nat → Int32) → (Nat → Int32) → (Nat → Int32) → (Nat → Int32) → (Nat → Int32) → (Nat → Int32) → Option (Int32 × (Nat → Int32) × (Nat → Int32) × (Nat → Int32) × (Nat → Int32) × (Nat → Int32) × (Nat → Int32))} {k_35 : Int32 → Int32 → Int32 → Int32 → Int32 → (Nat → Int32) → (Nat → Int32) → (Nat → Int32) → (Nat → Int32) → (Nat → Int32) → (Nat → Int32) → Option (Int32 × (Nat → Int32) × (Nat → Int32) × (Nat → Int32) × (Nat → Int32) × (Nat → Int32) × (Nat → Int32))} (F : Fx p s m args meth c b_M_isRoot 10 "CoinKeeperModel" "isRoot" (some .boolean) D cy ad A) (hk_26 : I_M_isRoot_26 p l e s m args below meth c D cy A ad o q z g_store g_tId k_26) (hk_35 : I_M_isRoot_35 p l e s m args below meth c D cy A ad o q z g_store g_tId k_35) : I_M_isRoot_74 p l e s m args below meth c D cy A ad o q z g_store g_tId (xb_M_isRoot_74 fu z g_store g_tId k_26 k_35) := by
  obtain ⟨hx, hb, hr, hml, hown, hts, hlocks, hK, hA, hSt, hnm, hex⟩ := id F
  intro x2 x3 x4 x5 x6 x7 y0 u0 u1 u2 u3 u4 u5 res hf H locs ls hP hD hS hl
  unfold xb_M_isRoot_74 at hf
  refine lv_istore (lv' := [(8, .int y0), (0, .ref o), (2, .int x2), (3, .int x3), (4, .int x4), (5, .int x5), (6, .int x6), (7, .int x7)]) hx hb d_M_isRoot_74 hl (by decide) rfl (fun ls hl => ?_)
  refine lv_iconst (v := 0) hx hb d_M_isRoot_76 (by decide) ?_
  refine lv_istore (lv' := [(9, .int (0 : Int32)), (8, .int y0), (0, .ref o), (2, .int x2), (3, .int x3), (4, .int x4), (5, .int x5), (6, .int x6), (7, .int x7)]) hx hb d_M_isRoot_77 hl (by decide) rfl (fun ls hl => ?_)
  exact w_M_isRoot_79 F hk_26 hk_35 fu _ _ _ _ _ _ _ _ _ _ _ _ _ _ _ hf _ _ _ hP hD hS (lv_sub hl [2, 3, 4, 5, 6, 7, 8, 1, 0] rfl)
set_option maxHeartbeats 8000000 in
set_option maxRecDepth 100000 in
theorem wb_M_isRoot_60 {p : Program} {l : Launch} {e : Env} {s : State} {m : MethodId} {args : Array Value} {below : List Frame} {meth : Method} {c : Code} {D : va_G} {cy : Nat → ClassId} {A : Nat → Prop} {ad : Nat → Nat} {o : Nat} {q : Nat → Nat} {z : Nat → Int32} {g_store : Nat → Int32} {g_tId : Nat → Int32} {fu : Nat} {k_26 : Int32 → Int32 → Int32 → Int32 → (Nat → Int32) → (Nat → Int32) → (Nat → Int32) → (Nat → Int32) → (Nat → Int32) → (Nat → Int32) → Option (Int32 × (Nat → Int32) × (Nat → Int32) × (Nat → Int32) × (Nat → Int32) × (Nat → Int32) × (Nat → Int32))} {k_35 : Int32 → Int32 → Int32 → Int32 → Int32 → (Nat → Int32) → (Nat → Int32) → (Nat → Int32) → (Nat → Int32) → (Nat → Int32) → (Nat → Int32) → Option (Int32 × (Nat → Int32) × (Nat → Int32) × (Nat → Int32) × (Nat → Int32) × (Nat → Int32) × (Nat → Int32))} (F : Fx p s m args meth c b_M_isRoot 10 "CoinKeeperModel" "isRoot" (some .boolean) D cy ad A) (hk_26 : I_M_isRoot_26 p l e s m args below meth c D cy A ad o q z g_store g_tId k_26) (hk_35 : I_M_isRoot_35 p l e s m args below meth c D cy A ad o q z g_store g_tId k_35) : I_M_isRoot_60 p l e s m args below meth c D cy A ad o q z g_store g_tId (xb_M_isRoot_60 fu z g_store g_tId k_26 k_35) := by
  obtain ⟨hx, hb, hr, hml, hown, hts, hlocks, hK, hA, hSt, hnm, hex⟩ := id F
  intro x2 x3 x4 x5 x6 y0 u0 u1 u2 u3 u4 u5 res hf H locs ls hP hD hS hl
  unfold xb_M_isRoot_60 at hf
  refine lv_istore (lv' := [(7, .int y0), (0, .ref o), (2, .int x2), (3, .int x3), (4, .int x4), (5, .int x5), (6, .int x6)]) hx hb d_M_isRoot_60 hl (by decide) rfl (fun ls hl => ?_)
  refine lv_iload hx hb d_M_isRoot_62 (lv_at hl 0 rfl) ?_
  refine lv_iload hx hb d_M_isRoot_64 (lv_at hl 6 rfl) ?_
  refine lv_icmp_eq (tgt := 73) hx hb d_M_isRoot_66 (by decide) (fun cx => ?_) (fun cx => ?_)
  · have hf := ifp cx hf
    refine lv_iconst (v := 0) hx hb d_M_isRoot_73 (by decide) ?_
    exact wb_M_isRoot_74 (fu := fu) F hk_26 hk_35 _ _ _ _ _ _ _ _ _ _ _ _ _ _ hf _ _ _ hP hD hS (lv_sub hl [1, 2, 3, 4, 5, 6, 0] rfl)
  · have hf := ifn cx hf
    refine lv_iconst (v := 1) hx hb d_M_isRoot_69 (by decide) ?_
    refine lv_goto (tgt := 74) hx hb d_M_isRoot_70 (by decide) ?_
    exact wb_M_isRoot_74 (fu := fu) F hk_26 hk_35 _ _ _ _ _ _ _ _ _ _ _ _ _ _ hf _ _ _ hP hD hS (lv_sub hl [1, 2, 3, 4, 5, 6, 0] rfl)
set_option maxHeartbeats 8000000 in
set_option maxRecDepth 100000 in
theorem wb_M_isRoot_35 {p : Program} {l : Launch} {e : Env} {s : State} {m : MethodId} {args : Array Value} {below : List Frame} {meth : Method} {c : Code} {D : va_G} {cy : Nat → ClassId} {A : Nat → Prop} {ad : Nat → Nat} {o : Nat} {q : Nat → Nat} {z : Nat → Int32} {g_store : Nat → Int32} {g_tId : Nat → Int32} {fu : Nat} {k_26 : Int32 → Int32 → Int32 → Int32 → (Nat → Int32) → (Nat → Int32) → (Nat → Int32) → (Nat → Int32) → (Nat → Int32) → (Nat → Int32) → Option (Int32 × (Nat → Int32) × (Nat → Int32) × (Nat → Int32) × (Nat → Int32) × (Nat → Int32) × (Nat → Int32))} {k_35 : Int32 → Int32 → Int32 → Int32 → Int32 → (Nat → Int32) → (Nat → Int32) → (Nat → Int32) → (Nat → Int32) → (Nat → Int32) → (Nat → Int32) → Option (Int32 × (Nat → Int32) × (Nat → Int32) × (Nat → Int32) × (Nat → Int32) × (Nat → Int32) × (Nat → Int32))} (F : Fx p s m args meth c b_M_isRoot 10 "CoinKeeperModel" "isRoot" (some .boolean) D cy ad A) (hk_26 : I_M_isRoot_26 p l e s m args below meth c D cy A ad o q z g_store g_tId k_26) (hk_35 : I_M_isRoot_35 p l e s m args below meth c D cy A ad o q z g_store g_tId k_35) : I_M_isRoot_35 p l e s m args below meth c D cy A ad o q z g_store g_tId (xb_M_isRoot_35 fu z g_store g_tId k_26 k_35) := by
  obtain ⟨hx, hb, hr, hml, hown, hts, hlocks, hK, hA, hSt, hnm, hex⟩ := id F
  intro x2 x3 x4 x5 x6 u0 u1 u2 u3 u4 u5 res hf H locs ls hP hD hS hl
  unfold xb_M_isRoot_35 at hf
  refine lv_iload hx hb d_M_isRoot_35 (lv_at hl 5 rfl) ?_
  refine lv_iload hx hb d_M_isRoot_37 (lv_at hl 4 rfl) ?_
  refine lv_icmp_ge (tgt := 276) hx hb d_M_isRoot_39 (by decide) (fun cx => ?_) (fun cx => ?_)
  · have hf := ifp cx hf
    refine lv_iload hx hb d_M_isRoot_276 (lv_at hl 4 rfl) ?_
    refine lv_iconst (v := 1) hx hb d_M_isRoot_278 (by decide) ?_
    refine lv_iadd hx hb d_M_isRoot_279 ?_
    refine lv_topi (fun v1 ev => ?_)
    have hf := bn ev hf
    clear ev
    refine lv_iconst (v := 2) hx hb d_M_isRoot_280 (by decide) ?_
    refine lv_idiv hx hb d_M_isRoot_281 (by decide) ?_
    refine lv_topi (fun v2 ev => ?_)
    have hf := bn ev hf
    clear ev
    refine lv_istore (lv' := [(5, .int v2), (0, .ref o), (2, .int x2), (3, .int x3), (4, .int x4), (6, .int x6)]) hx hb d_M_isRoot_282 hl (by decide) rfl (fun ls hl => ?_)
    refine lv_goto (tgt := 26) hx hb d_M_isRoot_284 (by decide) ?_
    exact hk_26 _ _ _ _ _ _ _ _ _ _ _ hf _ _ _ hP hD hS (lv_sub hl [1, 2, 3, 4, 0] rfl)
  · have hf := ifn cx hf
    refine lv_iload hx hb d_M_isRoot_42 (lv_at hl 5 rfl) ?_
    refine lv_iconst (v := 1) hx hb d_M_isRoot_44 (by decide) ?_
    refine lv_iadd hx hb d_M_isRoot_45 ?_
    refine lv_topi (fun v3 ev => ?_)
    have hf := bn ev hf
    clear ev
    refine lv_iload hx hb d_M_isRoot_46 (lv_at hl 4 rfl) ?_
    refine lv_icmp_ge (tgt := 58) hx hb d_M_isRoot_48 (by decide) (fun cx => ?_) (fun cx => ?_)
    · have hf := ifp cx hf
      refine lv_iload hx hb d_M_isRoot_58 (lv_at hl 5 rfl) ?_
      exact wb_M_isRoot_60 (fu := fu) F hk_26 hk_35 _ _ _ _ _ _ _ _ _ _ _ _ _ hf _ _ _ hP hD hS (lv_sub hl [0, 1, 2, 3, 4, 5] rfl)
    · have hf := ifn cx hf
      refine lv_iload hx hb d_M_isRoot_51 (lv_at hl 5 rfl) ?_
      refine lv_iconst (v := 1) hx hb d_M_isRoot_53 (by decide) ?_
      refine lv_iadd hx hb d_M_isRoot_54 ?_
      refine lv_goto (tgt := 60) hx hb d_M_isRoot_55 (by decide) ?_
      exact wb_M_isRoot_60 (fu := fu) F hk_26 hk_35 _ _ _ _ _ _ _ _ _ _ _ _ _ hf _ _ _ hP hD hS (lv_sub hl [0, 1, 2, 3, 4, 5] rfl)
theorem w_M_isRoot_35 {p : Program} {l : Launch} {e : Env} {s : State} {m : MethodId} {args : Array Value} {below : List Frame} {meth : Method} {c : Code} {D : va_G} {cy : Nat → ClassId} {A : Nat → Prop} {ad : Nat → Nat} {o : Nat} {q : Nat → Nat} {z : Nat → Int32} {g_store : Nat → Int32} {g_tId : Nat → Int32} {fu : Nat} {k_26 : Int32 → Int32 → Int32 → Int32 → (Nat → Int32) → (Nat → Int32) → (Nat → Int32) → (Nat → Int32) → (Nat → Int32) → (Nat → Int32) → Option (Int32 × (Nat → Int32) × (Nat → Int32) × (Nat → Int32) × (Nat → Int32) × (Nat → Int32) × (Nat → Int32))} (F : Fx p s m args meth c b_M_isRoot 10 "CoinKeeperModel" "isRoot" (some .boolean) D cy ad A) (hk_26 : I_M_isRoot_26 p l e s m args below meth c D cy A ad o q z g_store g_tId k_26) : ∀ n : Nat, I_M_isRoot_35 p l e s m args below meth c D cy A ad o q z g_store g_tId (x_M_isRoot_35 fu z g_store g_tId k_26 n)
  | 0 => fun _ _ _ _ _ _ _ _ _ _ _ _ hf => nomatch (show (none : Option (Int32 × (Nat → Int32) × (Nat → Int32) × (Nat → Int32) × (Nat → Int32) × (Nat → Int32) × (Nat → Int32))) = some _ from hf)
  | n + 1 => wb_M_isRoot_35 F hk_26 (w_M_isRoot_35 F hk_26 n)
set_option maxHeartbeats 8000000 in
set_option maxRecDepth 100000 in
theorem wb_M_isRoot_26 {p : Program} {l : Launch} {e : Env} {s : State} {m : MethodId} {args : Array Value} {below : List Frame} {meth : Method} {c : Code} {D : va_G} {cy : Nat → ClassId} {A : Nat → Prop} {ad : Nat → Nat} {o : Nat} {q : Nat → Nat} {z : Nat → Int32} {g_store : Nat → Int32} {g_tId : Nat → Int32} {fu : Nat} {k_26 : Int32 → Int32 → Int32 → Int32 → (Nat → Int32) → (Nat → Int32) → (Nat → Int32) → (Nat → Int32) → (Nat → Int32) → (Nat → Int32) → Option (Int32 × (Nat → Int32) × (Nat → Int32) × (Nat → Int32) × (Nat → Int32) × (Nat → Int32) × (Nat → Int32))} (F : Fx p s m args meth c b_M_isRoot 10 "CoinKeeperModel" "isRoot" (some .boolean) D cy ad A) (hk_26 : I_M_isRoot_26 p l e s m args below meth c D cy A ad o q z g_store g_tId k_26) : I_M_isRoot_26 p l e s m args below meth c D cy A ad o q z g_store g_tId (xb_M_isRoot_26 fu z g_store g_tId k_26) := by
  obtain ⟨hx, hb, hr, hml, hown, hts, hlocks, hK, hA, hSt, hnm, hex⟩ := id F
  intro x2 x3 x4 x5 u0 u1 u2 u3 u4 u5 res hf H locs ls hP hD hS hl
  unfold xb_M_isRoot_26 at hf
  refine lv_iload hx hb d_M_isRoot_26 (lv_at hl 4 rfl) ?_
  refine lv_iconst (v := 1) hx hb d_M_isRoot_28 (by decide) ?_
  refine lv_icmp_le (tgt := 287) hx hb d_M_isRoot_29 (by decide) (fun cx => ?_) (fun cx => ?_)
  · have hf := ifp cx hf
    refine lv_iconst (v := 0) hx hb d_M_isRoot_287 (by decide) ?_
    refine lv_istore (lv' := [(5, .int (0 : Int32)), (0, .ref o), (2, .int x2), (3, .int x3), (4, .int x4)]) hx hb d_M_isRoot_288 hl (by decide) rfl (fun ls hl => ?_)
    exact w_M_isRoot_290 F fu _ _ _ _ _ _ _ _ _ _ _ hf _ _ _ hP hD hS (lv_sub hl [1, 2, 3, 4, 0] rfl)
  · have hf := ifn cx hf
    refine lv_iconst (v := 0) hx hb d_M_isRoot_32 (by decide) ?_
    refine lv_istore (lv' := [(6, .int (0 : Int32)), (0, .ref o), (2, .int x2), (3, .int x3), (4, .int x4), (5, .int x5)]) hx hb d_M_isRoot_33 hl (by decide) rfl (fun ls hl => ?_)
    exact w_M_isRoot_35 F hk_26 fu _ _ _ _ _ _ _ _ _ _ _ _ hf _ _ _ hP hD hS (lv_sub hl [1, 2, 3, 4, 5, 0] rfl)
theorem w_M_isRoot_26 {p : Program} {l : Launch} {e : Env} {s : State} {m : MethodId} {args : Array Value} {below : List Frame} {meth : Method} {c : Code} {D : va_G} {cy : Nat → ClassId} {A : Nat → Prop} {ad : Nat → Nat} {o : Nat} {q : Nat → Nat} {z : Nat → Int32} {g_store : Nat → Int32} {g_tId : Nat → Int32} {fu : Nat} (F : Fx p s m args meth c b_M_isRoot 10 "CoinKeeperModel" "isRoot" (some .boolean) D cy ad A) : ∀ n : Nat, I_M_isRoot_26 p l e s m args below meth c D cy A ad o q z g_store g_tId (x_M_isRoot_26 fu z g_store g_tId n)
  | 0 => fun _ _ _ _ _ _ _ _ _ _ _ hf => nomatch (show (none : Option (Int32 × (Nat → Int32) × (Nat → Int32) × (Nat → Int32) × (Nat → Int32) × (Nat → Int32) × (Nat → Int32))) = some _ from hf)
  | n + 1 => wb_M_isRoot_26 F (w_M_isRoot_26 F n)
set_option maxHeartbeats 8000000 in
set_option maxRecDepth 100000 in
theorem we_M_isRoot {p : Program} {l : Launch} {e : Env} {s : State} {m : MethodId} {args : Array Value} {below : List Frame} {meth : Method} {c : Code} {D : va_G} {cy : Nat → ClassId} {A : Nat → Prop} {ad : Nat → Nat} {o : Nat} {q : Nat → Nat} {z : Nat → Int32} {g_store : Nat → Int32} {g_tId : Nat → Int32} {fu : Nat} (F : Fx p s m args meth c b_M_isRoot 10 "CoinKeeperModel" "isRoot" (some .boolean) D cy ad A) : I_M_isRoot_e p l e s m args below meth c D cy A ad o q z g_store g_tId (x_M_isRoot fu z g_store g_tId) := by
  obtain ⟨hx, hb, hr, hml, hown, hts, hlocks, hK, hA, hSt, hnm, hex⟩ := id F
  intro a1 a2 a3 u0 u1 u2 u3 u4 u5 res hf H locs ls hP hD hS hl
  unfold x_M_isRoot at hf
  refine lv_aload_n hx hb d_M_isRoot_0 rfl (lv_at hl 0 rfl) ?_
  refine va_get (D := D) (ci := 12) (v := .ref (q 14)) (C := "CoinKeeperModel") (T := F_12) (N := 98) hx hb hts i_12 hown hK hP 0 rfl rfl 19 (by decide) (hts _ gw_1438) (fun _ h9 => h9) rfl d_M_isRoot_1 ?_
  refine lv_bipush (v := 8) hx hb d_M_isRoot_4 (by decide) ?_
  refine lv_iload_n hx hb d_M_isRoot_6 rfl (lv_at hl 1 rfl) ?_
  refine lv_imul hx hb d_M_isRoot_7 ?_
  refine lv_topi (fun v1 ev => ?_)
  have hf := bn ev hf
  clear ev
  refine lv_aload_n hx hb d_M_isRoot_8 rfl (lv_at hl 0 rfl) ?_
  refine va_get (D := D) (ci := 12) (v := .ref (q 74)) (C := "CoinKeeperModel") (T := F_12) (N := 98) hx hb hts i_12 hown hK hP 0 rfl rfl 93 (by decide) (hts _ gw_1512) (fun _ h9 => h9) rfl d_M_isRoot_9 ?_
  refine lv_iconst (v := 0) hx hb d_M_isRoot_12 (by decide) ?_
  refine lv_bipush (v := 8) hx hb d_M_isRoot_13 (by decide) ?_
  refine lv_iload_n hx hb d_M_isRoot_15 rfl (lv_at hl 2 rfl) ?_
  refine lv_imul hx hb d_M_isRoot_16 ?_
  refine lv_topi (fun v2 ev => ?_)
  have hf := bn ev hf
  clear ev
  obtain ⟨hg, hf⟩ := gdp hf
  refine va_copyi (rest := []) hx hb (hml.trans hl.1.symm) hown (hts _ gw_1398) (hts _ gw_497) (hts _ gw_496) (hts _ gw_17) hK hP hD hS 2 7 1 1 rfl rfl rfl rfl rfl (cpk_p hg).1 (cpk_p hg).2.1 (cpk_p hg).2.2.1 (cpk_p hg).2.2.2.1 (cpk_p hg).2.2.2.2 (fun _ _ => rfl) (by decide) (by decide) d_M_isRoot_17 (fun H locs hP hD hS => ?_)
  obtain ⟨f3, ev, hf⟩ := bne hf
  have hP : va_P D classes [(o, .inr (12, mo q z)), ((q 1), .inl (cy 0, 103000, .inl g_store)), ((q 14), .inl (cy 1, 17600, .inl g_tId)), ((q 34), .inl (cy 1, 8, .inl u0)), ((q 35), .inl (cy 1, 64, .inl u1)), ((q 36), .inl (cy 0, 32, .inl u2)), ((q 37), .inl (cy 0, 100200, .inl u3)), ((q 74), .inl (cy 1, 17600, .inl f3)), ((q 75), .inl (cy 0, 64, .inl u5))] H := by rw [ev]; exact hP
  have hD : va_D A [(o, .inr (12, mo q z)), ((q 1), .inl (cy 0, 103000, .inl g_store)), ((q 14), .inl (cy 1, 17600, .inl g_tId)), ((q 34), .inl (cy 1, 8, .inl u0)), ((q 35), .inl (cy 1, 64, .inl u1)), ((q 36), .inl (cy 0, 32, .inl u2)), ((q 37), .inl (cy 0, 100200, .inl u3)), ((q 74), .inl (cy 1, 17600, .inl f3)), ((q 75), .inl (cy 0, 64, .inl u5))] := by rw [ev]; exact hD
  clear ev
  refine lv_iconst (v := 1) hx hb d_M_isRoot_20 (by decide) ?_
  refine lv_istore (lv' := [(4, .int (1 : Int32)), (0, .ref o), (1, .int a1), (2, .int a2), (3, .int a3)]) hx hb d_M_isRoot_21 hl (by decide) rfl (fun ls hl => ?_)
  refine lv_iload_n hx hb d_M_isRoot_23 rfl (lv_at hl 3 rfl) ?_
  refine lv_istore (lv' := [(5, .int a2), (4, .int (1 : Int32)), (0, .ref o), (1, .int a1), (2, .int a2), (3, .int a3)]) hx hb d_M_isRoot_24 hl (by decide) rfl (fun ls hl => ?_)
  exact w_M_isRoot_26 F fu _ _ _ _ _ _ _ _ _ _ _ hf _ _ _ hP hD hS (lv_sub hl [2, 4, 5, 1, 0] rfl)
theorem c_M_isRoot (l : Launch) (D : va_G) (cy : Nat → ClassId) (ad : Nat → Nat) (fu : Nat) (o : Nat) (q : Nat → Nat) (z : Nat → Int32) (g_store : Nat → Int32) (g_tId : Nat → Int32) (a1 : Int32) (a2 : Int32) (a3 : Int32) (u0 : Nat → Int32) (u1 : Nat → Int32) (u2 : Nat → Int32) (u3 : Nat → Int32) (u4 : Nat → Int32) (u5 : Nat → Int32) (res : Int32 × (Nat → Int32) × (Nat → Int32) × (Nat → Int32) × (Nat → Int32) × (Nat → Int32) × (Nat → Int32)) (hf : x_M_isRoot fu z g_store g_tId a1 a2 a3 u0 u1 u2 u3 u4 u5 = some res) (sz : Nat) : Met l ({ cls := "CoinKeeperModel", name := "isRoot", desc := "(III)Z" } : Jvm.MethodName) (.code ({ cls := "CoinKeeperModel", name := "isRoot", desc := "(III)Z" } : Jvm.MethodName) b_M_isRoot 10 (some .boolean) :: gw) rm_M_isRoot (va_Pc [.ref o, .int a1, .int a2, .int a3] (Pr D cy ad [(o, .inr (12, mo q z)), ((q 1), .inl (cy 0, 103000, .inl g_store)), ((q 14), .inl (cy 1, 17600, .inl g_tId)), ((q 34), .inl (cy 1, 8, .inl u0)), ((q 35), .inl (cy 1, 64, .inl u1)), ((q 36), .inl (cy 0, 32, .inl u2)), ((q 37), .inl (cy 0, 100200, .inl u3)), ((q 74), .inl (cy 1, 17600, .inl u4)), ((q 75), .inl (cy 0, 64, .inl u5))] sz)) (q_M_isRoot D cy (va_A [(o, .inr (12, mo q z)), ((q 1), .inl (cy 0, 103000, .inl g_store)), ((q 14), .inl (cy 1, 17600, .inl g_tId)), ((q 34), .inl (cy 1, 8, .inl u0)), ((q 35), .inl (cy 1, 64, .inl u1)), ((q 36), .inl (cy 0, 32, .inl u2)), ((q 37), .inl (cy 0, 100200, .inl u3)), ((q 74), .inl (cy 1, 17600, .inl u4)), ((q 75), .inl (cy 0, 64, .inl u5))] sz) o q z g_store g_tId res) 0 0 (va_A [(o, .inr (12, mo q z)), ((q 1), .inl (cy 0, 103000, .inl g_store)), ((q 14), .inl (cy 1, 17600, .inl g_tId)), ((q 34), .inl (cy 1, 8, .inl u0)), ((q 35), .inl (cy 1, 64, .inl u1)), ((q 36), .inl (cy 0, 32, .inl u2)), ((q 37), .inl (cy 0, 100200, .inl u3)), ((q 74), .inl (cy 1, 17600, .inl u4)), ((q 75), .inl (cy 0, 64, .inl u5))] sz) :=
  q_met (Qc := fun A => q_M_isRoot D cy A o q z g_store g_tId res) (by decide) rfl rfl (Nat.le_of_ble_eq_true rfl) (fun p e s m below meth c ls F hP hD hS hl => we_M_isRoot (fu := fu) F a1 a2 a3 u0 u1 u2 u3 u4 u5 res hf _ _ _ hP hD hS hl) sz
abbrev b_M_sigsOf : ByteArray := prog_14_method_66_code
theorem d_M_sigsOf_0 : decode b_M_sigsOf 0 = .ok (.iconst 0, 1) := by decide +kernel
theorem d_M_sigsOf_1 : decode b_M_sigsOf 1 = .ok (.istore_n 3, 1) := by decide +kernel
theorem d_M_sigsOf_2 : decode b_M_sigsOf 2 = .ok (.iload_n 1, 1) := by decide +kernel
theorem d_M_sigsOf_3 : decode b_M_sigsOf 3 = .ok (.istore 4, 2) := by decide +kernel
theorem d_M_sigsOf_5 : decode b_M_sigsOf 5 = .ok (.iload 4, 2) := by decide +kernel
theorem d_M_sigsOf_7 : decode b_M_sigsOf 7 = .ok (.iload_n 1, 1) := by decide +kernel
theorem d_M_sigsOf_8 : decode b_M_sigsOf 8 = .ok (.iload_n 2, 1) := by decide +kernel
theorem d_M_sigsOf_9 : decode b_M_sigsOf 9 = .ok (.iadd, 1) := by decide +kernel
theorem d_M_sigsOf_10 : decode b_M_sigsOf 10 = .ok (.if_icmp .ge 136, 3) := by decide +kernel
theorem d_M_sigsOf_13 : decode b_M_sigsOf 13 = .ok (.aload_n 0, 1) := by decide +kernel
theorem d_M_sigsOf_14 : decode b_M_sigsOf 14 = .ok (.getfield 14, 3) := by decide +kernel
theorem d_M_sigsOf_17 : decode b_M_sigsOf 17 = .ok (.iload 4, 2) := by decide +kernel
theorem d_M_sigsOf_19 : decode b_M_sigsOf 19 = .ok (.baload, 1) := by decide +kernel
theorem d_M_sigsOf_20 : decode b_M_sigsOf 20 = .ok (.sipush 255, 3) := by decide +kernel
theorem d_M_sigsOf_23 : decode b_M_sigsOf 23 = .ok (.iand, 1) := by decide +kernel
theorem d_M_sigsOf_24 : decode b_M_sigsOf 24 = .ok (.istore 5, 2) := by decide +kernel
theorem d_M_sigsOf_26 : decode b_M_sigsOf 26 = .ok (.iconst 0, 1) := by decide +kernel
theorem d_M_sigsOf_27 : decode b_M_sigsOf 27 = .ok (.istore 6, 2) := by decide +kernel
theorem d_M_sigsOf_29 : decode b_M_sigsOf 29 = .ok (.iinc 4 1, 3) := by decide +kernel
theorem d_M_sigsOf_32 : decode b_M_sigsOf 32 = .ok (.iload 5, 2) := by decide +kernel
theorem d_M_sigsOf_34 : decode b_M_sigsOf 34 = .ok (.bipush 76, 2) := by decide +kernel
theorem d_M_sigsOf_36 : decode b_M_sigsOf 36 = .ok (.if_icmp .ge 10, 3) := by decide +kernel
theorem d_M_sigsOf_39 : decode b_M_sigsOf 39 = .ok (.iload 5, 2) := by decide +kernel
theorem d_M_sigsOf_41 : decode b_M_sigsOf 41 = .ok (.istore 6, 2) := by decide +kernel
theorem d_M_sigsOf_43 : decode b_M_sigsOf 43 = .ok (.goto 80, 3) := by decide +kernel
theorem d_M_sigsOf_46 : decode b_M_sigsOf 46 = .ok (.iload 5, 2) := by decide +kernel
theorem d_M_sigsOf_48 : decode b_M_sigsOf 48 = .ok (.bipush 76, 2) := by decide +kernel
theorem d_M_sigsOf_50 : decode b_M_sigsOf 50 = .ok (.if_icmp .ne 32, 3) := by decide +kernel
theorem d_M_sigsOf_53 : decode b_M_sigsOf 53 = .ok (.iload 4, 2) := by decide +kernel
theorem d_M_sigsOf_55 : decode b_M_sigsOf 55 = .ok (.iload_n 1, 1) := by decide +kernel
theorem d_M_sigsOf_56 : decode b_M_sigsOf 56 = .ok (.iload_n 2, 1) := by decide +kernel
theorem d_M_sigsOf_57 : decode b_M_sigsOf 57 = .ok (.iadd, 1) := by decide +kernel
theorem d_M_sigsOf_58 : decode b_M_sigsOf 58 = .ok (.if_icmp .ne 5, 3) := by decide +kernel
theorem d_M_sigsOf_61 : decode b_M_sigsOf 61 = .ok (.iload_n 3, 1) := by decide +kernel
theorem d_M_sigsOf_62 : decode b_M_sigsOf 62 = .ok (.ireturn, 1) := by decide +kernel
theorem d_M_sigsOf_63 : decode b_M_sigsOf 63 = .ok (.aload_n 0, 1) := by decide +kernel
theorem d_M_sigsOf_64 : decode b_M_sigsOf 64 = .ok (.getfield 14, 3) := by decide +kernel
theorem d_M_sigsOf_67 : decode b_M_sigsOf 67 = .ok (.iload 4, 2) := by decide +kernel
theorem d_M_sigsOf_69 : decode b_M_sigsOf 69 = .ok (.baload, 1) := by decide +kernel
theorem d_M_sigsOf_70 : decode b_M_sigsOf 70 = .ok (.sipush 255, 3) := by decide +kernel
theorem d_M_sigsOf_73 : decode b_M_sigsOf 73 = .ok (.iand, 1) := by decide +kernel
theorem d_M_sigsOf_74 : decode b_M_sigsOf 74 = .ok (.istore 6, 2) := by decide +kernel
theorem d_M_sigsOf_76 : decode b_M_sigsOf 76 = .ok (.iinc 4 1, 3) := by decide +kernel
theorem d_M_sigsOf_79 : decode b_M_sigsOf 79 = .ok (.goto 44, 3) := by decide +kernel
theorem d_M_sigsOf_82 : decode b_M_sigsOf 82 = .ok (.iload 5, 2) := by decide +kernel
theorem d_M_sigsOf_84 : decode b_M_sigsOf 84 = .ok (.sipush 172, 3) := by decide +kernel
theorem d_M_sigsOf_87 : decode b_M_sigsOf 87 = .ok (.if_icmp .eq 11, 3) := by decide +kernel
theorem d_M_sigsOf_90 : decode b_M_sigsOf 90 = .ok (.iload 5, 2) := by decide +kernel
theorem d_M_sigsOf_92 : decode b_M_sigsOf 92 = .ok (.sipush 173, 3) := by decide +kernel
theorem d_M_sigsOf_95 : decode b_M_sigsOf 95 = .ok (.if_icmp .ne 9, 3) := by decide +kernel
theorem d_M_sigsOf_98 : decode b_M_sigsOf 98 = .ok (.iinc 3 1, 3) := by decide +kernel
theorem d_M_sigsOf_101 : decode b_M_sigsOf 101 = .ok (.goto 22, 3) := by decide +kernel
theorem d_M_sigsOf_104 : decode b_M_sigsOf 104 = .ok (.iload 5, 2) := by decide +kernel
theorem d_M_sigsOf_106 : decode b_M_sigsOf 106 = .ok (.sipush 174, 3) := by decide +kernel
theorem d_M_sigsOf_109 : decode b_M_sigsOf 109 = .ok (.if_icmp .eq 11, 3) := by decide +kernel
theorem d_M_sigsOf_112 : decode b_M_sigsOf 112 = .ok (.iload 5, 2) := by decide +kernel
theorem d_M_sigsOf_114 : decode b_M_sigsOf 114 = .ok (.sipush 175, 3) := by decide +kernel
theorem d_M_sigsOf_117 : decode b_M_sigsOf 117 = .ok (.if_icmp .ne 6, 3) := by decide +kernel
theorem d_M_sigsOf_120 : decode b_M_sigsOf 120 = .ok (.iinc 3 20, 3) := by decide +kernel
theorem d_M_sigsOf_123 : decode b_M_sigsOf 123 = .ok (.iload 6, 2) := by decide +kernel
theorem d_M_sigsOf_125 : decode b_M_sigsOf 125 = .ok (.iload_n 1, 1) := by decide +kernel
theorem d_M_sigsOf_126 : decode b_M_sigsOf 126 = .ok (.iload_n 2, 1) := by decide +kernel
theorem d_M_sigsOf_127 : decode b_M_sigsOf 127 = .ok (.iadd, 1) := by decide +kernel
theorem d_M_sigsOf_128 : decode b_M_sigsOf 128 = .ok (.iload 4, 2) := by decide +kernel
theorem d_M_sigsOf_130 : decode b_M_sigsOf 130 = .ok (.isub, 1) := by decide +kernel
theorem d_M_sigsOf_131 : decode b_M_sigsOf 131 = .ok (.if_icmp .le 5, 3) := by decide +kernel
theorem d_M_sigsOf_134 : decode b_M_sigsOf 134 = .ok (.iload_n 3, 1) := by decide +kernel
theorem d_M_sigsOf_135 : decode b_M_sigsOf 135 = .ok (.ireturn, 1) := by decide +kernel
theorem d_M_sigsOf_136 : decode b_M_sigsOf 136 = .ok (.iload 4, 2) := by decide +kernel
theorem d_M_sigsOf_138 : decode b_M_sigsOf 138 = .ok (.iload 6, 2) := by decide +kernel
theorem d_M_sigsOf_140 : decode b_M_sigsOf 140 = .ok (.iadd, 1) := by decide +kernel
theorem d_M_sigsOf_141 : decode b_M_sigsOf 141 = .ok (.istore 4, 2) := by decide +kernel
theorem d_M_sigsOf_143 : decode b_M_sigsOf 143 = .ok (.goto (-138), 3) := by decide +kernel
theorem d_M_sigsOf_146 : decode b_M_sigsOf 146 = .ok (.iload_n 3, 1) := by decide +kernel
theorem d_M_sigsOf_147 : decode b_M_sigsOf 147 = .ok (.ireturn, 1) := by decide +kernel
abbrev rm_M_sigsOf : Room := { frames := 0, cells := 0, slots := 0, locals := 0 }
abbrev q_M_sigsOf (D : va_G) (cy : Nat → ClassId) (A : Nat → Prop) (o : Nat) (q : Nat → Nat) (z : Nat → Int32) (g_store : Nat → Int32) (res : Int32) : Array Value → State → Outcome → State → Prop := va_Qi (fun r' (_ : Unit) => r' = res) (fun _ t => Po D cy A [(o, .inr (12, mo q z)), ((q 1), .inl (cy 0, 103000, .inl g_store))] t) A
def I_M_sigsOf_123 (p : Program) (l : Launch) (e : Env) (s : State) (m : MethodId) (args : Array Value) (below : List Frame) (meth : Method) (c : Code) (D : va_G) (cy : Nat → ClassId) (A : Nat → Prop) (ad : Nat → Nat) (o : Nat) (q : Nat → Nat) (z : Nat → Int32) (g_store : Nat → Int32) (k : Int32 → Int32 → Int32 → Int32 → Int32 → Option (Int32)) : Prop :=
  ∀ (x1 : Int32) (x2 : Int32) (x3 : Int32) (x4 : Int32) (x6 : Int32) (res : Int32), k x1 x2 x3 x4 x6 = some res → ∀ (H : Heap) (locs : List Loc) (ls : Array Slot), va_P D classes [(o, .inr (12, mo q z)), ((q 1), .inl (cy 0, 103000, .inl g_store))] H → va_D A [(o, .inr (12, mo q z)), ((q 1), .inl (cy 0, 103000, .inl g_store))] → va_S A s.heap H locs → lv_has ls 7 [(0, .ref o), (1, .int x1), (2, .int x2), (3, .int x3), (4, .int x4), (6, .int x6)] → W p l e rm_M_sigsOf s m args below meth c H locs 0 0 (MQ below (q_M_sigsOf D cy A o q z g_store res) args s 0 0 A) (F0 m 123 ls [])
def I_M_sigsOf_98 (p : Program) (l : Launch) (e : Env) (s : State) (m : MethodId) (args : Array Value) (below : List Frame) (meth : Method) (c : Code) (D : va_G) (cy : Nat → ClassId) (A : Nat → Prop) (ad : Nat → Nat) (o : Nat) (q : Nat → Nat) (z : Nat → Int32) (g_store : Nat → Int32) (k : Int32 → Int32 → Int32 → Int32 → Int32 → Option (Int32)) : Prop :=
  ∀ (x1 : Int32) (x2 : Int32) (x3 : Int32) (x4 : Int32) (x6 : Int32) (res : Int32), k x1 x2 x3 x4 x6 = some res → ∀ (H : Heap) (locs : List Loc) (ls : Array Slot), va_P D classes [(o, .inr (12, mo q z)), ((q 1), .inl (cy 0, 103000, .inl g_store))] H → va_D A [(o, .inr (12, mo q z)), ((q 1), .inl (cy 0, 103000, .inl g_store))] → va_S A s.heap H locs → lv_has ls 7 [(0, .ref o), (1, .int x1), (2, .int x2), (3, .int x3), (4, .int x4), (6, .int x6)] → W p l e rm_M_sigsOf s m args below meth c H locs 0 0 (MQ below (q_M_sigsOf D cy A o q z g_store res) args s 0 0 A) (F0 m 98 ls [])
def I_M_sigsOf_120 (p : Program) (l : Launch) (e : Env) (s : State) (m : MethodId) (args : Array Value) (below : List Frame) (meth : Method) (c : Code) (D : va_G) (cy : Nat → ClassId) (A : Nat → Prop) (ad : Nat → Nat) (o : Nat) (q : Nat → Nat) (z : Nat → Int32) (g_store : Nat → Int32) (k : Int32 → Int32 → Int32 → Int32 → Int32 → Option (Int32)) : Prop :=
  ∀ (x1 : Int32) (x2 : Int32) (x3 : Int32) (x4 : Int32) (x6 : Int32) (res : Int32), k x1 x2 x3 x4 x6 = some res → ∀ (H : Heap) (locs : List Loc) (ls : Array Slot), va_P D classes [(o, .inr (12, mo q z)), ((q 1), .inl (cy 0, 103000, .inl g_store))] H → va_D A [(o, .inr (12, mo q z)), ((q 1), .inl (cy 0, 103000, .inl g_store))] → va_S A s.heap H locs → lv_has ls 7 [(0, .ref o), (1, .int x1), (2, .int x2), (3, .int x3), (4, .int x4), (6, .int x6)] → W p l e rm_M_sigsOf s m args below meth c H locs 0 0 (MQ below (q_M_sigsOf D cy A o q z g_store res) args s 0 0 A) (F0 m 120 ls [])
def I_M_sigsOf_5 (p : Program) (l : Launch) (e : Env) (s : State) (m : MethodId) (args : Array Value) (below : List Frame) (meth : Method) (c : Code) (D : va_G) (cy : Nat → ClassId) (A : Nat → Prop) (ad : Nat → Nat) (o : Nat) (q : Nat → Nat) (z : Nat → Int32) (g_store : Nat → Int32) (k : Int32 → Int32 → Int32 → Int32 → Option (Int32)) : Prop :=
  ∀ (x1 : Int32) (x2 : Int32) (x3 : Int32) (x4 : Int32) (res : Int32), k x1 x2 x3 x4 = some res → ∀ (H : Heap) (locs : List Loc) (ls : Array Slot), va_P D classes [(o, .inr (12, mo q z)), ((q 1), .inl (cy 0, 103000, .inl g_store))] H → va_D A [(o, .inr (12, mo q z)), ((q 1), .inl (cy 0, 103000, .inl g_store))] → va_S A s.heap H locs → lv_has ls 7 [(0, .ref o), (1, .int x1), (2, .int x2), (3, .int x3), (4, .int x4)] → W p l e rm_M_sigsOf s m args below meth c H locs 0 0 (MQ below (q_M_sigsOf D cy A o q z g_store res) args s 0 0 A) (F0 m 5 ls [])
def I_M_sigsOf_e (p : Program) (l : Launch) (e : Env) (s : State) (m : MethodId) (args : Array Value) (below : List Frame) (meth : Method) (c : Code) (D : va_G) (cy : Nat → ClassId) (A : Nat → Prop) (ad : Nat → Nat) (o : Nat) (q : Nat → Nat) (z : Nat → Int32) (g_store : Nat → Int32) (k : Int32 → Int32 → Option (Int32)) : Prop :=
  ∀ (a1 : Int32) (a2 : Int32) (res : Int32), k a1 a2 = some res → ∀ (H : Heap) (locs : List Loc) (ls : Array Slot), va_P D classes [(o, .inr (12, mo q z)), ((q 1), .inl (cy 0, 103000, .inl g_store))] H → va_D A [(o, .inr (12, mo q z)), ((q 1), .inl (cy 0, 103000, .inl g_store))] → va_S A s.heap H locs → lv_has ls 7 [(0, .ref o), (1, .int a1), (2, .int a2)] → W p l e rm_M_sigsOf s m args below meth c H locs 0 0 (MQ below (q_M_sigsOf D cy A o q z g_store res) args s 0 0 A) (F0 m 0 ls [])
set_option maxHeartbeats 8000000 in
set_option maxRecDepth 100000 in
theorem wb_M_sigsOf_123 {p : Program} {l : Launch} {e : Env} {s : State} {m : MethodId} {args : Array Value} {below : List Frame} {meth : Method} {c : Code} {D : va_G} {cy : Nat → ClassId} {A : Nat → Prop} {ad : Nat → Nat} {o : Nat} {q : Nat → Nat} {z : Nat → Int32} {g_store : Nat → Int32} {fu : Nat} {k_5 : Int32 → Int32 → Int32 → Int32 → Option (Int32)} (F : Fx p s m args meth c b_M_sigsOf 7 "CoinKeeperModel" "sigsOf" (some .int) D cy ad A) (hk_5 : I_M_sigsOf_5 p l e s m args below meth c D cy A ad o q z g_store k_5) : I_M_sigsOf_123 p l e s m args below meth c D cy A ad o q z g_store (xb_M_sigsOf_123 fu z g_store k_5) := by
  obtain ⟨hx, hb, hr, hml, hown, hts, hlocks, hK, hA, hSt, hnm, hex⟩ := id F
  intro x1 x2 x3 x4 x6 res hf H locs ls hP hD hS hl
  unfold xb_M_sigsOf_123 at hf
  refine lv_iload hx hb d_M_sigsOf_123 (lv_at hl 5 rfl) ?_
  refine lv_iload_n hx hb d_M_sigsOf_125 rfl (lv_at hl 1 rfl) ?_
  refine lv_iload_n hx hb d_M_sigsOf_126 rfl (lv_at hl 2 rfl) ?_
  refine lv_iadd hx hb d_M_sigsOf_127 ?_
  refine lv_topi (fun v1 ev => ?_)
  have hf := bn ev hf
  clear ev
  refine lv_iload hx hb d_M_sigsOf_128 (lv_at hl 4 rfl) ?_
  refine lv_isub hx hb d_M_sigsOf_130 ?_
  refine lv_icmp_le (tgt := 136) hx hb d_M_sigsOf_131 (by decide) (fun cx => ?_) (fun cx => ?_)
  · have hf := ifp cx hf
    refine lv_iload hx hb d_M_sigsOf_136 (lv_at hl 4 rfl) ?_
    refine lv_iload hx hb d_M_sigsOf_138 (lv_at hl 5 rfl) ?_
    refine lv_iadd hx hb d_M_sigsOf_140 ?_
    refine lv_topi (fun v2 ev => ?_)
    have hf := bn ev hf
    clear ev
    refine lv_istore (lv' := [(4, .int v2), (0, .ref o), (1, .int x1), (2, .int x2), (3, .int x3), (6, .int x6)]) hx hb d_M_sigsOf_141 hl (by decide) rfl (fun ls hl => ?_)
    refine lv_goto (tgt := 5) hx hb d_M_sigsOf_143 (by decide) ?_
    exact hk_5 _ _ _ _ _ hf _ _ _ hP hD hS (lv_sub hl [1, 2, 3, 4, 0] rfl)
  · have hf := ifn cx hf
    refine lv_iload_n hx hb d_M_sigsOf_134 rfl (lv_at hl 3 rfl) ?_
    obtain rfl := Option.some.inj hf
    exact q_ri hx hb hr hlocks hK hP hD hS d_M_sigsOf_135
set_option maxHeartbeats 8000000 in
set_option maxRecDepth 100000 in
theorem wb_M_sigsOf_98 {p : Program} {l : Launch} {e : Env} {s : State} {m : MethodId} {args : Array Value} {below : List Frame} {meth : Method} {c : Code} {D : va_G} {cy : Nat → ClassId} {A : Nat → Prop} {ad : Nat → Nat} {o : Nat} {q : Nat → Nat} {z : Nat → Int32} {g_store : Nat → Int32} {fu : Nat} {k_5 : Int32 → Int32 → Int32 → Int32 → Option (Int32)} (F : Fx p s m args meth c b_M_sigsOf 7 "CoinKeeperModel" "sigsOf" (some .int) D cy ad A) (hk_5 : I_M_sigsOf_5 p l e s m args below meth c D cy A ad o q z g_store k_5) : I_M_sigsOf_98 p l e s m args below meth c D cy A ad o q z g_store (xb_M_sigsOf_98 fu z g_store k_5) := by
  obtain ⟨hx, hb, hr, hml, hown, hts, hlocks, hK, hA, hSt, hnm, hex⟩ := id F
  intro x1 x2 x3 x4 x6 res hf H locs ls hP hD hS hl
  unfold xb_M_sigsOf_98 at hf
  obtain ⟨v1, ev, hf⟩ := bne hf
  refine lv_iinc (v := v1) (lv' := [(3, .int v1), (0, .ref o), (1, .int x1), (2, .int x2), (4, .int x4), (6, .int x6)]) hx hb d_M_sigsOf_98 hl (k := 3) rfl (by rw [ev]; rfl) (by decide) rfl (fun ls hl => ?_)
  clear ev
  refine lv_goto (tgt := 123) hx hb d_M_sigsOf_101 (by decide) ?_
  exact wb_M_sigsOf_123 (fu := fu) F hk_5 _ _ _ _ _ _ hf _ _ _ hP hD hS (lv_sub hl [1, 2, 3, 0, 4, 5] rfl)
set_option maxHeartbeats 8000000 in
set_option maxRecDepth 100000 in
theorem wb_M_sigsOf_120 {p : Program} {l : Launch} {e : Env} {s : State} {m : MethodId} {args : Array Value} {below : List Frame} {meth : Method} {c : Code} {D : va_G} {cy : Nat → ClassId} {A : Nat → Prop} {ad : Nat → Nat} {o : Nat} {q : Nat → Nat} {z : Nat → Int32} {g_store : Nat → Int32} {fu : Nat} {k_5 : Int32 → Int32 → Int32 → Int32 → Option (Int32)} (F : Fx p s m args meth c b_M_sigsOf 7 "CoinKeeperModel" "sigsOf" (some .int) D cy ad A) (hk_5 : I_M_sigsOf_5 p l e s m args below meth c D cy A ad o q z g_store k_5) : I_M_sigsOf_120 p l e s m args below meth c D cy A ad o q z g_store (xb_M_sigsOf_120 fu z g_store k_5) := by
  obtain ⟨hx, hb, hr, hml, hown, hts, hlocks, hK, hA, hSt, hnm, hex⟩ := id F
  intro x1 x2 x3 x4 x6 res hf H locs ls hP hD hS hl
  unfold xb_M_sigsOf_120 at hf
  obtain ⟨v1, ev, hf⟩ := bne hf
  refine lv_iinc (v := v1) (lv' := [(3, .int v1), (0, .ref o), (1, .int x1), (2, .int x2), (4, .int x4), (6, .int x6)]) hx hb d_M_sigsOf_120 hl (k := 3) rfl (by rw [ev]; rfl) (by decide) rfl (fun ls hl => ?_)
  clear ev
  exact wb_M_sigsOf_123 (fu := fu) F hk_5 _ _ _ _ _ _ hf _ _ _ hP hD hS (lv_sub hl [1, 2, 3, 0, 4, 5] rfl)
set_option maxHeartbeats 8000000 in
set_option maxRecDepth 100000 in
theorem wb_M_sigsOf_5 {p : Program} {l : Launch} {e : Env} {s : State} {m : MethodId} {args : Array Value} {below : List Frame} {meth : Method} {c : Code} {D : va_G} {cy : Nat → ClassId} {A : Nat → Prop} {ad : Nat → Nat} {o : Nat} {q : Nat → Nat} {z : Nat → Int32} {g_store : Nat → Int32} {fu : Nat} {k_5 : Int32 → Int32 → Int32 → Int32 → Option (Int32)} (F : Fx p s m args meth c b_M_sigsOf 7 "CoinKeeperModel" "sigsOf" (some .int) D cy ad A) (hk_5 : I_M_sigsOf_5 p l e s m args below meth c D cy A ad o q z g_store k_5) : I_M_sigsOf_5 p l e s m args below meth c D cy A ad o q z g_store (xb_M_sigsOf_5 fu z g_store k_5) := by
  obtain ⟨hx, hb, hr, hml, hown, hts, hlocks, hK, hA, hSt, hnm, hex⟩ := id F
  intro x1 x2 x3 x4 res hf H locs ls hP hD hS hl
  unfold xb_M_sigsOf_5 at hf
  refine lv_iload hx hb d_M_sigsOf_5 (lv_at hl 4 rfl) ?_
  refine lv_iload_n hx hb d_M_sigsOf_7 rfl (lv_at hl 1 rfl) ?_
  refine lv_iload_n hx hb d_M_sigsOf_8 rfl (lv_at hl 2 rfl) ?_
  refine lv_iadd hx hb d_M_sigsOf_9 ?_
  refine lv_icmp_ge (tgt := 146) hx hb d_M_sigsOf_10 (by decide) (fun cx => ?_) (fun cx => ?_)
  · have hf := ifp cx hf
    refine lv_iload_n hx hb d_M_sigsOf_146 rfl (lv_at hl 3 rfl) ?_
    obtain rfl := Option.some.inj hf
    exact q_ri hx hb hr hlocks hK hP hD hS d_M_sigsOf_147
  · have hf := ifn cx hf
    refine lv_aload_n hx hb d_M_sigsOf_13 rfl (lv_at hl 0 rfl) ?_
    refine va_get (D := D) (ci := 12) (v := .ref (q 1)) (C := "CoinKeeperModel") (T := F_12) (N := 98) hx hb hts i_12 hown hK hP 0 rfl rfl 1 (by decide) (hts _ gw_1420) (fun _ h9 => h9) rfl d_M_sigsOf_14 ?_
    refine lv_iload hx hb d_M_sigsOf_17 (lv_at hl 4 rfl) ?_
    obtain ⟨hg, hf⟩ := gdp hf
    refine va_bald hx hb hK hP 1 0 rfl rfl (inb_in hg) d_M_sigsOf_19 ?_
    refine lv_topi (fun v1 ev => ?_)
    have hf := bn ev hf
    clear ev
    refine lv_sipush (v := 255) hx hb d_M_sigsOf_20 (by decide) ?_
    refine lv_iand hx hb d_M_sigsOf_23 ?_
    refine lv_topi (fun v2 ev => ?_)
    have hf := bn ev hf
    clear ev
    refine lv_istore (lv' := [(5, .int v2), (0, .ref o), (1, .int x1), (2, .int x2), (3, .int x3), (4, .int x4)]) hx hb d_M_sigsOf_24 hl (by decide) rfl (fun ls hl => ?_)
    refine lv_iconst (v := 0) hx hb d_M_sigsOf_26 (by decide) ?_
    refine lv_istore (lv' := [(6, .int (0 : Int32)), (5, .int v2), (0, .ref o), (1, .int x1), (2, .int x2), (3, .int x3), (4, .int x4)]) hx hb d_M_sigsOf_27 hl (by decide) rfl (fun ls hl => ?_)
    obtain ⟨v3, ev, hf⟩ := bne hf
    refine lv_iinc (v := v3) (lv' := [(4, .int v3), (6, .int (0 : Int32)), (5, .int v2), (0, .ref o), (1, .int x1), (2, .int x2), (3, .int x3)]) hx hb d_M_sigsOf_29 hl (k := 6) rfl (by rw [ev]; rfl) (by decide) rfl (fun ls hl => ?_)
    clear ev
    refine lv_iload hx hb d_M_sigsOf_32 (lv_at hl 2 rfl) ?_
    refine lv_bipush (v := 76) hx hb d_M_sigsOf_34 (by decide) ?_
    refine lv_icmp_ge (tgt := 46) hx hb d_M_sigsOf_36 (by decide) (fun cx => ?_) (fun cx => ?_)
    · have hf := ifp cx hf
      refine lv_iload hx hb d_M_sigsOf_46 (lv_at hl 2 rfl) ?_
      refine lv_bipush (v := 76) hx hb d_M_sigsOf_48 (by decide) ?_
      refine lv_icmp_ne (tgt := 82) hx hb d_M_sigsOf_50 (by decide) (fun cx => ?_) (fun cx => ?_)
      · have hf := ifn cx hf
        refine lv_iload hx hb d_M_sigsOf_82 (lv_at hl 2 rfl) ?_
        refine lv_sipush (v := 172) hx hb d_M_sigsOf_84 (by decide) ?_
        refine lv_icmp_eq (tgt := 98) hx hb d_M_sigsOf_87 (by decide) (fun cx => ?_) (fun cx => ?_)
        · have hf := ifp cx hf
          exact wb_M_sigsOf_98 (fu := fu) F hk_5 _ _ _ _ _ _ hf _ _ _ hP hD hS (lv_sub hl [3, 4, 5, 6, 0, 1] rfl)
        · have hf := ifn cx hf
          refine lv_iload hx hb d_M_sigsOf_90 (lv_at hl 2 rfl) ?_
          refine lv_sipush (v := 173) hx hb d_M_sigsOf_92 (by decide) ?_
          refine lv_icmp_ne (tgt := 104) hx hb d_M_sigsOf_95 (by decide) (fun cx => ?_) (fun cx => ?_)
          · have hf := ifn cx hf
            refine lv_iload hx hb d_M_sigsOf_104 (lv_at hl 2 rfl) ?_
            refine lv_sipush (v := 174) hx hb d_M_sigsOf_106 (by decide) ?_
            refine lv_icmp_eq (tgt := 120) hx hb d_M_sigsOf_109 (by decide) (fun cx => ?_) (fun cx => ?_)
            · have hf := ifp cx hf
              exact wb_M_sigsOf_120 (fu := fu) F hk_5 _ _ _ _ _ _ hf _ _ _ hP hD hS (lv_sub hl [3, 4, 5, 6, 0, 1] rfl)
            · have hf := ifn cx hf
              refine lv_iload hx hb d_M_sigsOf_112 (lv_at hl 2 rfl) ?_
              refine lv_sipush (v := 175) hx hb d_M_sigsOf_114 (by decide) ?_
              refine lv_icmp_ne (tgt := 123) hx hb d_M_sigsOf_117 (by decide) (fun cx => ?_) (fun cx => ?_)
              · have hf := ifn cx hf
                exact wb_M_sigsOf_123 (fu := fu) F hk_5 _ _ _ _ _ _ hf _ _ _ hP hD hS (lv_sub hl [3, 4, 5, 6, 0, 1] rfl)
              · have hf := ifp cx hf
                exact wb_M_sigsOf_120 (fu := fu) F hk_5 _ _ _ _ _ _ hf _ _ _ hP hD hS (lv_sub hl [3, 4, 5, 6, 0, 1] rfl)
          · have hf := ifp cx hf
            exact wb_M_sigsOf_98 (fu := fu) F hk_5 _ _ _ _ _ _ hf _ _ _ hP hD hS (lv_sub hl [3, 4, 5, 6, 0, 1] rfl)
      · have hf := ifp cx hf
        refine lv_iload hx hb d_M_sigsOf_53 (lv_at hl 0 rfl) ?_
        refine lv_iload_n hx hb d_M_sigsOf_55 rfl (lv_at hl 4 rfl) ?_
        refine lv_iload_n hx hb d_M_sigsOf_56 rfl (lv_at hl 5 rfl) ?_
        refine lv_iadd hx hb d_M_sigsOf_57 ?_
        refine lv_icmp_ne (tgt := 63) hx hb d_M_sigsOf_58 (by decide) (fun cx => ?_) (fun cx => ?_)
        · have hf := ifn cx hf
          refine lv_aload_n hx hb d_M_sigsOf_63 rfl (lv_at hl 3 rfl) ?_
          refine va_get (D := D) (ci := 12) (v := .ref (q 1)) (C := "CoinKeeperModel") (T := F_12) (N := 98) hx hb hts i_12 hown hK hP 0 rfl rfl 1 (by decide) (hts _ gw_1420) (fun _ h9 => h9) rfl d_M_sigsOf_64 ?_
          refine lv_iload hx hb d_M_sigsOf_67 (lv_at hl 0 rfl) ?_
          obtain ⟨hg, hf⟩ := gdp hf
          refine va_bald hx hb hK hP 1 0 rfl rfl (inb_in hg) d_M_sigsOf_69 ?_
          refine lv_topi (fun v4 ev => ?_)
          have hf := bn ev hf
          clear ev
          refine lv_sipush (v := 255) hx hb d_M_sigsOf_70 (by decide) ?_
          refine lv_iand hx hb d_M_sigsOf_73 ?_
          refine lv_topi (fun v5 ev => ?_)
          have hf := bn ev hf
          clear ev
          refine lv_istore (lv' := [(6, .int v5), (4, .int v3), (5, .int v2), (0, .ref o), (1, .int x1), (2, .int x2), (3, .int x3)]) hx hb d_M_sigsOf_74 hl (by decide) rfl (fun ls hl => ?_)
          obtain ⟨v6, ev, hf⟩ := bne hf
          refine lv_iinc (v := v6) (lv' := [(4, .int v6), (6, .int v5), (5, .int v2), (0, .ref o), (1, .int x1), (2, .int x2), (3, .int x3)]) hx hb d_M_sigsOf_76 hl (k := 1) rfl (by rw [ev]; rfl) (by decide) rfl (fun ls hl => ?_)
          clear ev
          refine lv_goto (tgt := 123) hx hb d_M_sigsOf_79 (by decide) ?_
          exact wb_M_sigsOf_123 (fu := fu) F hk_5 _ _ _ _ _ _ hf _ _ _ hP hD hS (lv_sub hl [3, 4, 5, 6, 0, 1] rfl)
        · have hf := ifp cx hf
          refine lv_iload_n hx hb d_M_sigsOf_61 rfl (lv_at hl 6 rfl) ?_
          obtain rfl := Option.some.inj hf
          exact q_ri hx hb hr hlocks hK hP hD hS d_M_sigsOf_62
    · have hf := ifn cx hf
      refine lv_iload hx hb d_M_sigsOf_39 (lv_at hl 2 rfl) ?_
      refine lv_istore (lv' := [(6, .int v2), (4, .int v3), (5, .int v2), (0, .ref o), (1, .int x1), (2, .int x2), (3, .int x3)]) hx hb d_M_sigsOf_41 hl (by decide) rfl (fun ls hl => ?_)
      refine lv_goto (tgt := 123) hx hb d_M_sigsOf_43 (by decide) ?_
      exact wb_M_sigsOf_123 (fu := fu) F hk_5 _ _ _ _ _ _ hf _ _ _ hP hD hS (lv_sub hl [3, 4, 5, 6, 1, 0] rfl)
theorem w_M_sigsOf_5 {p : Program} {l : Launch} {e : Env} {s : State} {m : MethodId} {args : Array Value} {below : List Frame} {meth : Method} {c : Code} {D : va_G} {cy : Nat → ClassId} {A : Nat → Prop} {ad : Nat → Nat} {o : Nat} {q : Nat → Nat} {z : Nat → Int32} {g_store : Nat → Int32} {fu : Nat} (F : Fx p s m args meth c b_M_sigsOf 7 "CoinKeeperModel" "sigsOf" (some .int) D cy ad A) : ∀ n : Nat, I_M_sigsOf_5 p l e s m args below meth c D cy A ad o q z g_store (x_M_sigsOf_5 fu z g_store n)
  | 0 => fun _ _ _ _ _ hf => nomatch (show (none : Option (Int32)) = some _ from hf)
  | n + 1 => wb_M_sigsOf_5 F (w_M_sigsOf_5 F n)
set_option maxHeartbeats 8000000 in
set_option maxRecDepth 100000 in
theorem we_M_sigsOf {p : Program} {l : Launch} {e : Env} {s : State} {m : MethodId} {args : Array Value} {below : List Frame} {meth : Method} {c : Code} {D : va_G} {cy : Nat → ClassId} {A : Nat → Prop} {ad : Nat → Nat} {o : Nat} {q : Nat → Nat} {z : Nat → Int32} {g_store : Nat → Int32} {fu : Nat} (F : Fx p s m args meth c b_M_sigsOf 7 "CoinKeeperModel" "sigsOf" (some .int) D cy ad A) : I_M_sigsOf_e p l e s m args below meth c D cy A ad o q z g_store (x_M_sigsOf fu z g_store) := by
  obtain ⟨hx, hb, hr, hml, hown, hts, hlocks, hK, hA, hSt, hnm, hex⟩ := id F
  intro a1 a2 res hf H locs ls hP hD hS hl
  unfold x_M_sigsOf at hf
  refine lv_iconst (v := 0) hx hb d_M_sigsOf_0 (by decide) ?_
  refine lv_istore_n (lv' := [(3, .int (0 : Int32)), (0, .ref o), (1, .int a1), (2, .int a2)]) hx hb d_M_sigsOf_1 rfl hl (by decide) rfl (fun ls hl => ?_)
  refine lv_iload_n hx hb d_M_sigsOf_2 rfl (lv_at hl 2 rfl) ?_
  refine lv_istore (lv' := [(4, .int a1), (3, .int (0 : Int32)), (0, .ref o), (1, .int a1), (2, .int a2)]) hx hb d_M_sigsOf_3 hl (by decide) rfl (fun ls hl => ?_)
  exact w_M_sigsOf_5 F fu _ _ _ _ _ hf _ _ _ hP hD hS (lv_sub hl [2, 3, 4, 1, 0] rfl)
theorem c_M_sigsOf (l : Launch) (D : va_G) (cy : Nat → ClassId) (ad : Nat → Nat) (fu : Nat) (o : Nat) (q : Nat → Nat) (z : Nat → Int32) (g_store : Nat → Int32) (a1 : Int32) (a2 : Int32) (res : Int32) (hf : x_M_sigsOf fu z g_store a1 a2 = some res) (sz : Nat) : Met l ({ cls := "CoinKeeperModel", name := "sigsOf", desc := "(II)I" } : Jvm.MethodName) (.code ({ cls := "CoinKeeperModel", name := "sigsOf", desc := "(II)I" } : Jvm.MethodName) b_M_sigsOf 7 (some .int) :: gw) rm_M_sigsOf (va_Pc [.ref o, .int a1, .int a2] (Pr D cy ad [(o, .inr (12, mo q z)), ((q 1), .inl (cy 0, 103000, .inl g_store))] sz)) (q_M_sigsOf D cy (va_A [(o, .inr (12, mo q z)), ((q 1), .inl (cy 0, 103000, .inl g_store))] sz) o q z g_store res) 0 0 (va_A [(o, .inr (12, mo q z)), ((q 1), .inl (cy 0, 103000, .inl g_store))] sz) :=
  q_met (Qc := fun A => q_M_sigsOf D cy A o q z g_store res) (by decide) rfl rfl (Nat.le_of_ble_eq_true rfl) (fun p e s m below meth c ls F hP hD hS hl => we_M_sigsOf (fu := fu) F a1 a2 res hf _ _ _ hP hD hS hl) sz
abbrev b_M_isHeight : ByteArray := prog_14_method_68_code
theorem d_M_isHeight_0 : decode b_M_isHeight 0 = .ok (.aload_n 0, 1) := by decide +kernel
theorem d_M_isHeight_1 : decode b_M_isHeight 1 = .ok (.getfield 76, 3) := by decide +kernel
theorem d_M_isHeight_4 : decode b_M_isHeight 4 = .ok (.iload_n 1, 1) := by decide +kernel
theorem d_M_isHeight_5 : decode b_M_isHeight 5 = .ok (.iaload, 1) := by decide +kernel
theorem d_M_isHeight_6 : decode b_M_isHeight 6 = .ok (.istore_n 3, 1) := by decide +kernel
theorem d_M_isHeight_7 : decode b_M_isHeight 7 = .ok (.aload_n 0, 1) := by decide +kernel
theorem d_M_isHeight_8 : decode b_M_isHeight 8 = .ok (.getfield 79, 3) := by decide +kernel
theorem d_M_isHeight_11 : decode b_M_isHeight 11 = .ok (.iload_n 1, 1) := by decide +kernel
theorem d_M_isHeight_12 : decode b_M_isHeight 12 = .ok (.iaload, 1) := by decide +kernel
theorem d_M_isHeight_13 : decode b_M_isHeight 13 = .ok (.istore 4, 2) := by decide +kernel
theorem d_M_isHeight_15 : decode b_M_isHeight 15 = .ok (.iload 4, 2) := by decide +kernel
theorem d_M_isHeight_17 : decode b_M_isHeight 17 = .ok (.iconst 2, 1) := by decide +kernel
theorem d_M_isHeight_18 : decode b_M_isHeight 18 = .ok (.if_icmp .lt 10, 3) := by decide +kernel
theorem d_M_isHeight_21 : decode b_M_isHeight 21 = .ok (.iload 4, 2) := by decide +kernel
theorem d_M_isHeight_23 : decode b_M_isHeight 23 = .ok (.bipush 100, 2) := by decide +kernel
theorem d_M_isHeight_25 : decode b_M_isHeight 25 = .ok (.if_icmp .le 5, 3) := by decide +kernel
theorem d_M_isHeight_28 : decode b_M_isHeight 28 = .ok (.iconst 0, 1) := by decide +kernel
theorem d_M_isHeight_29 : decode b_M_isHeight 29 = .ok (.ireturn, 1) := by decide +kernel
theorem d_M_isHeight_30 : decode b_M_isHeight 30 = .ok (.iload_n 2, 1) := by decide +kernel
theorem d_M_isHeight_31 : decode b_M_isHeight 31 = .ok (.bipush 16, 2) := by decide +kernel
theorem d_M_isHeight_33 : decode b_M_isHeight 33 = .ok (.if_icmp .gt 26, 3) := by decide +kernel
theorem d_M_isHeight_36 : decode b_M_isHeight 36 = .ok (.aload_n 0, 1) := by decide +kernel
theorem d_M_isHeight_37 : decode b_M_isHeight 37 = .ok (.getfield 14, 3) := by decide +kernel
theorem d_M_isHeight_40 : decode b_M_isHeight 40 = .ok (.iload_n 3, 1) := by decide +kernel
theorem d_M_isHeight_41 : decode b_M_isHeight 41 = .ok (.baload, 1) := by decide +kernel
theorem d_M_isHeight_42 : decode b_M_isHeight 42 = .ok (.sipush 255, 3) := by decide +kernel
theorem d_M_isHeight_45 : decode b_M_isHeight 45 = .ok (.iand, 1) := by decide +kernel
theorem d_M_isHeight_46 : decode b_M_isHeight 46 = .ok (.bipush 80, 2) := by decide +kernel
theorem d_M_isHeight_48 : decode b_M_isHeight 48 = .ok (.iload_n 2, 1) := by decide +kernel
theorem d_M_isHeight_49 : decode b_M_isHeight 49 = .ok (.iadd, 1) := by decide +kernel
theorem d_M_isHeight_50 : decode b_M_isHeight 50 = .ok (.if_icmp .ne 7, 3) := by decide +kernel
theorem d_M_isHeight_53 : decode b_M_isHeight 53 = .ok (.iconst 1, 1) := by decide +kernel
theorem d_M_isHeight_54 : decode b_M_isHeight 54 = .ok (.goto 4, 3) := by decide +kernel
theorem d_M_isHeight_57 : decode b_M_isHeight 57 = .ok (.iconst 0, 1) := by decide +kernel
theorem d_M_isHeight_58 : decode b_M_isHeight 58 = .ok (.ireturn, 1) := by decide +kernel
theorem d_M_isHeight_59 : decode b_M_isHeight 59 = .ok (.aload_n 0, 1) := by decide +kernel
theorem d_M_isHeight_60 : decode b_M_isHeight 60 = .ok (.iconst 0, 1) := by decide +kernel
theorem d_M_isHeight_61 : decode b_M_isHeight 61 = .ok (.putfield 439, 3) := by decide +kernel
theorem d_M_isHeight_64 : decode b_M_isHeight 64 = .ok (.aload_n 0, 1) := by decide +kernel
theorem d_M_isHeight_65 : decode b_M_isHeight 65 = .ok (.iload_n 2, 1) := by decide +kernel
theorem d_M_isHeight_66 : decode b_M_isHeight 66 = .ok (.i2l, 1) := by decide +kernel
theorem d_M_isHeight_67 : decode b_M_isHeight 67 = .ok (.invokevirtual 442, 3) := by decide +kernel
theorem d_M_isHeight_70 : decode b_M_isHeight 70 = .ok (.aload_n 0, 1) := by decide +kernel
theorem d_M_isHeight_71 : decode b_M_isHeight 71 = .ok (.getfield 14, 3) := by decide +kernel
theorem d_M_isHeight_74 : decode b_M_isHeight 74 = .ok (.iload_n 3, 1) := by decide +kernel
theorem d_M_isHeight_75 : decode b_M_isHeight 75 = .ok (.baload, 1) := by decide +kernel
theorem d_M_isHeight_76 : decode b_M_isHeight 76 = .ok (.aload_n 0, 1) := by decide +kernel
theorem d_M_isHeight_77 : decode b_M_isHeight 77 = .ok (.getfield 224, 3) := by decide +kernel
theorem d_M_isHeight_80 : decode b_M_isHeight 80 = .ok (.iconst 0, 1) := by decide +kernel
theorem d_M_isHeight_81 : decode b_M_isHeight 81 = .ok (.iaload, 1) := by decide +kernel
theorem d_M_isHeight_82 : decode b_M_isHeight 82 = .ok (.if_icmp .ne 16, 3) := by decide +kernel
theorem d_M_isHeight_85 : decode b_M_isHeight 85 = .ok (.aload_n 0, 1) := by decide +kernel
theorem d_M_isHeight_86 : decode b_M_isHeight 86 = .ok (.getfield 224, 3) := by decide +kernel
theorem d_M_isHeight_89 : decode b_M_isHeight 89 = .ok (.iconst 0, 1) := by decide +kernel
theorem d_M_isHeight_90 : decode b_M_isHeight 90 = .ok (.iaload, 1) := by decide +kernel
theorem d_M_isHeight_91 : decode b_M_isHeight 91 = .ok (.iconst 1, 1) := by decide +kernel
theorem d_M_isHeight_92 : decode b_M_isHeight 92 = .ok (.iadd, 1) := by decide +kernel
theorem d_M_isHeight_93 : decode b_M_isHeight 93 = .ok (.iload 4, 2) := by decide +kernel
theorem d_M_isHeight_95 : decode b_M_isHeight 95 = .ok (.if_icmp .le 5, 3) := by decide +kernel
theorem d_M_isHeight_98 : decode b_M_isHeight 98 = .ok (.iconst 0, 1) := by decide +kernel
theorem d_M_isHeight_99 : decode b_M_isHeight 99 = .ok (.ireturn, 1) := by decide +kernel
theorem d_M_isHeight_100 : decode b_M_isHeight 100 = .ok (.iconst 0, 1) := by decide +kernel
theorem d_M_isHeight_101 : decode b_M_isHeight 101 = .ok (.istore 5, 2) := by decide +kernel
theorem d_M_isHeight_103 : decode b_M_isHeight 103 = .ok (.iload 5, 2) := by decide +kernel
theorem d_M_isHeight_105 : decode b_M_isHeight 105 = .ok (.aload_n 0, 1) := by decide +kernel
theorem d_M_isHeight_106 : decode b_M_isHeight 106 = .ok (.getfield 224, 3) := by decide +kernel
theorem d_M_isHeight_109 : decode b_M_isHeight 109 = .ok (.iconst 0, 1) := by decide +kernel
theorem d_M_isHeight_110 : decode b_M_isHeight 110 = .ok (.iaload, 1) := by decide +kernel
theorem d_M_isHeight_111 : decode b_M_isHeight 111 = .ok (.if_icmp .ge 32, 3) := by decide +kernel
theorem d_M_isHeight_114 : decode b_M_isHeight 114 = .ok (.aload_n 0, 1) := by decide +kernel
theorem d_M_isHeight_115 : decode b_M_isHeight 115 = .ok (.getfield 14, 3) := by decide +kernel
theorem d_M_isHeight_118 : decode b_M_isHeight 118 = .ok (.iload_n 3, 1) := by decide +kernel
theorem d_M_isHeight_119 : decode b_M_isHeight 119 = .ok (.iconst 1, 1) := by decide +kernel
theorem d_M_isHeight_120 : decode b_M_isHeight 120 = .ok (.iadd, 1) := by decide +kernel
theorem d_M_isHeight_121 : decode b_M_isHeight 121 = .ok (.iload 5, 2) := by decide +kernel
theorem d_M_isHeight_123 : decode b_M_isHeight 123 = .ok (.iadd, 1) := by decide +kernel
theorem d_M_isHeight_124 : decode b_M_isHeight 124 = .ok (.baload, 1) := by decide +kernel
theorem d_M_isHeight_125 : decode b_M_isHeight 125 = .ok (.aload_n 0, 1) := by decide +kernel
theorem d_M_isHeight_126 : decode b_M_isHeight 126 = .ok (.getfield 221, 3) := by decide +kernel
theorem d_M_isHeight_129 : decode b_M_isHeight 129 = .ok (.iload 5, 2) := by decide +kernel
theorem d_M_isHeight_131 : decode b_M_isHeight 131 = .ok (.baload, 1) := by decide +kernel
theorem d_M_isHeight_132 : decode b_M_isHeight 132 = .ok (.if_icmp .eq 5, 3) := by decide +kernel
theorem d_M_isHeight_135 : decode b_M_isHeight 135 = .ok (.iconst 0, 1) := by decide +kernel
theorem d_M_isHeight_136 : decode b_M_isHeight 136 = .ok (.ireturn, 1) := by decide +kernel
theorem d_M_isHeight_137 : decode b_M_isHeight 137 = .ok (.iinc 5 1, 3) := by decide +kernel
theorem d_M_isHeight_140 : decode b_M_isHeight 140 = .ok (.goto (-37), 3) := by decide +kernel
theorem d_M_isHeight_143 : decode b_M_isHeight 143 = .ok (.iconst 1, 1) := by decide +kernel
theorem d_M_isHeight_144 : decode b_M_isHeight 144 = .ok (.ireturn, 1) := by decide +kernel
abbrev rm_M_isHeight : Room := { frames := 1, cells := 0, slots := 0, locals := 26 }
abbrev q_M_isHeight (D : va_G) (cy : Nat → ClassId) (A : Nat → Prop) (o : Nat) (q : Nat → Nat) (g_store : Nat → Int32) (g_iScript : Nat → Int32) (g_iLong : Nat → Int32) (res : Int32 × (Nat → Int32) × (Nat → Int32) × (Nat → Int32)) : Array Value → State → Outcome → State → Prop := va_Qi (fun r' (_ : Unit) => r' = res.1) (fun _ t => Po D cy A [(o, .inr (12, mo q res.2.1)), ((q 1), .inl (cy 0, 103000, .inl g_store)), ((q 21), .inl (cy 1, 2600, .inl g_iScript)), ((q 22), .inl (cy 1, 2600, .inl g_iLong)), ((q 68), .inl (cy 0, 104448, .inl res.2.2.1)), ((q 69), .inl (cy 1, 408, .inl res.2.2.2))] t) A
def I_M_isHeight_103 (p : Program) (l : Launch) (e : Env) (s : State) (m : MethodId) (args : Array Value) (below : List Frame) (meth : Method) (c : Code) (D : va_G) (cy : Nat → ClassId) (A : Nat → Prop) (ad : Nat → Nat) (o : Nat) (q : Nat → Nat) (g_store : Nat → Int32) (g_iScript : Nat → Int32) (g_iLong : Nat → Int32) (k : Int32 → Int32 → (Nat → Int32) → (Nat → Int32) → (Nat → Int32) → Option (Int32 × (Nat → Int32) × (Nat → Int32) × (Nat → Int32))) : Prop :=
  ∀ (x3 : Int32) (x5 : Int32) (u0 : Nat → Int32) (u1 : Nat → Int32) (u2 : Nat → Int32) (res : Int32 × (Nat → Int32) × (Nat → Int32) × (Nat → Int32)), k x3 x5 u0 u1 u2 = some res → ∀ (H : Heap) (locs : List Loc) (ls : Array Slot), va_P D classes [(o, .inr (12, mo q u0)), ((q 1), .inl (cy 0, 103000, .inl g_store)), ((q 21), .inl (cy 1, 2600, .inl g_iScript)), ((q 22), .inl (cy 1, 2600, .inl g_iLong)), ((q 68), .inl (cy 0, 104448, .inl u1)), ((q 69), .inl (cy 1, 408, .inl u2))] H → va_D A [(o, .inr (12, mo q u0)), ((q 1), .inl (cy 0, 103000, .inl g_store)), ((q 21), .inl (cy 1, 2600, .inl g_iScript)), ((q 22), .inl (cy 1, 2600, .inl g_iLong)), ((q 68), .inl (cy 0, 104448, .inl u1)), ((q 69), .inl (cy 1, 408, .inl u2))] → va_S A s.heap H locs → lv_has ls 6 [(0, .ref o), (3, .int x3), (5, .int x5)] → W p l e rm_M_isHeight s m args below meth c H locs 0 0 (MQ below (q_M_isHeight D cy A o q g_store g_iScript g_iLong res) args s 0 0 A) (F0 m 103 ls [])
def I_M_isHeight_e (p : Program) (l : Launch) (e : Env) (s : State) (m : MethodId) (args : Array Value) (below : List Frame) (meth : Method) (c : Code) (D : va_G) (cy : Nat → ClassId) (A : Nat → Prop) (ad : Nat → Nat) (o : Nat) (q : Nat → Nat) (g_store : Nat → Int32) (g_iScript : Nat → Int32) (g_iLong : Nat → Int32) (k : Int32 → Int32 → (Nat → Int32) → (Nat → Int32) → (Nat → Int32) → Option (Int32 × (Nat → Int32) × (Nat → Int32) × (Nat → Int32))) : Prop :=
  ∀ (a1 : Int32) (a2 : Int32) (u0 : Nat → Int32) (u1 : Nat → Int32) (u2 : Nat → Int32) (res : Int32 × (Nat → Int32) × (Nat → Int32) × (Nat → Int32)), k a1 a2 u0 u1 u2 = some res → ∀ (H : Heap) (locs : List Loc) (ls : Array Slot), va_P D classes [(o, .inr (12, mo q u0)), ((q 1), .inl (cy 0, 103000, .inl g_store)), ((q 21), .inl (cy 1, 2600, .inl g_iScript)), ((q 22), .inl (cy 1, 2600, .inl g_iLong)), ((q 68), .inl (cy 0, 104448, .inl u1)), ((q 69), .inl (cy 1, 408, .inl u2))] H → va_D A [(o, .inr (12, mo q u0)), ((q 1), .inl (cy 0, 103000, .inl g_store)), ((q 21), .inl (cy 1, 2600, .inl g_iScript)), ((q 22), .inl (cy 1, 2600, .inl g_iLong)), ((q 68), .inl (cy 0, 104448, .inl u1)), ((q 69), .inl (cy 1, 408, .inl u2))] → va_S A s.heap H locs → lv_has ls 6 [(0, .ref o), (1, .int a1), (2, .int a2)] → W p l e rm_M_isHeight s m args below meth c H locs 0 0 (MQ below (q_M_isHeight D cy A o q g_store g_iScript g_iLong res) args s 0 0 A) (F0 m 0 ls [])
set_option maxHeartbeats 8000000 in
set_option maxRecDepth 100000 in
theorem wb_M_isHeight_103 {p : Program} {l : Launch} {e : Env} {s : State} {m : MethodId} {args : Array Value} {below : List Frame} {meth : Method} {c : Code} {D : va_G} {cy : Nat → ClassId} {A : Nat → Prop} {ad : Nat → Nat} {o : Nat} {q : Nat → Nat} {g_store : Nat → Int32} {g_iScript : Nat → Int32} {g_iLong : Nat → Int32} {fu : Nat} {k_103 : Int32 → Int32 → (Nat → Int32) → (Nat → Int32) → (Nat → Int32) → Option (Int32 × (Nat → Int32) × (Nat → Int32) × (Nat → Int32))} (F : Fx p s m args meth c b_M_isHeight 6 "CoinKeeperModel" "isHeight" (some .boolean) D cy ad A) (hk_103 : I_M_isHeight_103 p l e s m args below meth c D cy A ad o q g_store g_iScript g_iLong k_103) : I_M_isHeight_103 p l e s m args below meth c D cy A ad o q g_store g_iScript g_iLong (xb_M_isHeight_103 fu g_store g_iScript g_iLong k_103) := by
  obtain ⟨hx, hb, hr, hml, hown, hts, hlocks, hK, hA, hSt, hnm, hex⟩ := id F
  intro x3 x5 u0 u1 u2 res hf H locs ls hP hD hS hl
  unfold xb_M_isHeight_103 at hf
  refine lv_iload hx hb d_M_isHeight_103 (lv_at hl 2 rfl) ?_
  refine lv_aload_n hx hb d_M_isHeight_105 rfl (lv_at hl 0 rfl) ?_
  refine va_get (D := D) (ci := 12) (v := .ref (q 69)) (C := "CoinKeeperModel") (T := F_12) (N := 98) hx hb hts i_12 hown hK hP 0 rfl rfl 78 (by decide) (hts _ gw_1497) (fun _ h9 => h9) rfl d_M_isHeight_106 ?_
  refine lv_iconst (v := 0) hx hb d_M_isHeight_109 (by decide) ?_
  refine va_iald hx hb hK hP 5 1 rfl rfl (inb_in (by decide)) d_M_isHeight_110 ?_
  refine lv_topi (fun v1 ev => ?_)
  have hf := bn ev hf
  clear ev
  refine lv_icmp_ge (tgt := 143) hx hb d_M_isHeight_111 (by decide) (fun cx => ?_) (fun cx => ?_)
  · have hf := ifp cx hf
    refine lv_iconst (v := 1) hx hb d_M_isHeight_143 (by decide) ?_
    obtain rfl := Option.some.inj hf
    exact q_rz hx hb hr hlocks hK hP hD hS (isb_n (v := 1) (by decide)) d_M_isHeight_144
  · have hf := ifn cx hf
    refine lv_aload_n hx hb d_M_isHeight_114 rfl (lv_at hl 0 rfl) ?_
    refine va_get (D := D) (ci := 12) (v := .ref (q 1)) (C := "CoinKeeperModel") (T := F_12) (N := 98) hx hb hts i_12 hown hK hP 0 rfl rfl 1 (by decide) (hts _ gw_1420) (fun _ h9 => h9) rfl d_M_isHeight_115 ?_
    refine lv_iload_n hx hb d_M_isHeight_118 rfl (lv_at hl 1 rfl) ?_
    refine lv_iconst (v := 1) hx hb d_M_isHeight_119 (by decide) ?_
    refine lv_iadd hx hb d_M_isHeight_120 ?_
    refine lv_topi (fun v2 ev => ?_)
    have hf := bn ev hf
    clear ev
    refine lv_iload hx hb d_M_isHeight_121 (lv_at hl 2 rfl) ?_
    refine lv_iadd hx hb d_M_isHeight_123 ?_
    refine lv_topi (fun v3 ev => ?_)
    have hf := bn ev hf
    clear ev
    obtain ⟨hg, hf⟩ := gdp hf
    refine va_bald hx hb hK hP 1 0 rfl rfl (inb_in hg) d_M_isHeight_124 ?_
    refine lv_topi (fun v4 ev => ?_)
    have hf := bn ev hf
    clear ev
    refine lv_aload_n hx hb d_M_isHeight_125 rfl (lv_at hl 0 rfl) ?_
    refine va_get (D := D) (ci := 12) (v := .ref (q 68)) (C := "CoinKeeperModel") (T := F_12) (N := 98) hx hb hts i_12 hown hK hP 0 rfl rfl 77 (by decide) (hts _ gw_1496) (fun _ h9 => h9) rfl d_M_isHeight_126 ?_
    refine lv_iload hx hb d_M_isHeight_129 (lv_at hl 2 rfl) ?_
    obtain ⟨hg, hf⟩ := gdp hf
    refine va_bald hx hb hK hP 4 0 rfl rfl (inb_in hg) d_M_isHeight_131 ?_
    refine lv_topi (fun v5 ev => ?_)
    have hf := bn ev hf
    clear ev
    refine lv_icmp_eq (tgt := 137) hx hb d_M_isHeight_132 (by decide) (fun cx => ?_) (fun cx => ?_)
    · have hf := ifp cx hf
      obtain ⟨v6, ev, hf⟩ := bne hf
      refine lv_iinc (v := v6) (lv' := [(5, .int v6), (0, .ref o), (3, .int x3)]) hx hb d_M_isHeight_137 hl (k := 2) rfl (by rw [ev]; rfl) (by decide) rfl (fun ls hl => ?_)
      clear ev
      refine lv_goto (tgt := 103) hx hb d_M_isHeight_140 (by decide) ?_
      exact hk_103 _ _ _ _ _ _ hf _ _ _ hP hD hS (lv_sub hl [1, 2, 0] rfl)
    · have hf := ifn cx hf
      refine lv_iconst (v := 0) hx hb d_M_isHeight_135 (by decide) ?_
      obtain rfl := Option.some.inj hf
      exact q_rz hx hb hr hlocks hK hP hD hS (isb_n (v := 0) (by decide)) d_M_isHeight_136
theorem w_M_isHeight_103 {p : Program} {l : Launch} {e : Env} {s : State} {m : MethodId} {args : Array Value} {below : List Frame} {meth : Method} {c : Code} {D : va_G} {cy : Nat → ClassId} {A : Nat → Prop} {ad : Nat → Nat} {o : Nat} {q : Nat → Nat} {g_store : Nat → Int32} {g_iScript : Nat → Int32} {g_iLong : Nat → Int32} {fu : Nat} (F : Fx p s m args meth c b_M_isHeight 6 "CoinKeeperModel" "isHeight" (some .boolean) D cy ad A) : ∀ n : Nat, I_M_isHeight_103 p l e s m args below meth c D cy A ad o q g_store g_iScript g_iLong (x_M_isHeight_103 fu g_store g_iScript g_iLong n)
  | 0 => fun _ _ _ _ _ _ hf => nomatch (show (none : Option (Int32 × (Nat → Int32) × (Nat → Int32) × (Nat → Int32))) = some _ from hf)
  | n + 1 => wb_M_isHeight_103 F (w_M_isHeight_103 F n)
set_option maxHeartbeats 8000000 in
set_option maxRecDepth 100000 in
theorem we_M_isHeight {p : Program} {l : Launch} {e : Env} {s : State} {m : MethodId} {args : Array Value} {below : List Frame} {meth : Method} {c : Code} {D : va_G} {cy : Nat → ClassId} {A : Nat → Prop} {ad : Nat → Nat} {o : Nat} {q : Nat → Nat} {g_store : Nat → Int32} {g_iScript : Nat → Int32} {g_iLong : Nat → Int32} {fu : Nat} (F : Fx p s m args meth c b_M_isHeight 6 "CoinKeeperModel" "isHeight" (some .boolean) D cy ad A) : I_M_isHeight_e p l e s m args below meth c D cy A ad o q g_store g_iScript g_iLong (x_M_isHeight fu g_store g_iScript g_iLong) := by
  obtain ⟨hx, hb, hr, hml, hown, hts, hlocks, hK, hA, hSt, hnm, hex⟩ := id F
  intro a1 a2 u0 u1 u2 res hf H locs ls hP hD hS hl
  unfold x_M_isHeight at hf
  refine lv_aload_n hx hb d_M_isHeight_0 rfl (lv_at hl 0 rfl) ?_
  refine va_get (D := D) (ci := 12) (v := .ref (q 21)) (C := "CoinKeeperModel") (T := F_12) (N := 98) hx hb hts i_12 hown hK hP 0 rfl rfl 27 (by decide) (hts _ gw_1446) (fun _ h9 => h9) rfl d_M_isHeight_1 ?_
  refine lv_iload_n hx hb d_M_isHeight_4 rfl (lv_at hl 1 rfl) ?_
  obtain ⟨hg, hf⟩ := gdp hf
  refine va_iald hx hb hK hP 2 1 rfl rfl (inb_in hg) d_M_isHeight_5 ?_
  refine lv_topi (fun v1 ev => ?_)
  have hf := bn ev hf
  clear ev
  refine lv_istore_n (lv' := [(3, .int v1), (0, .ref o), (1, .int a1), (2, .int a2)]) hx hb d_M_isHeight_6 rfl hl (by decide) rfl (fun ls hl => ?_)
  refine lv_aload_n hx hb d_M_isHeight_7 rfl (lv_at hl 1 rfl) ?_
  refine va_get (D := D) (ci := 12) (v := .ref (q 22)) (C := "CoinKeeperModel") (T := F_12) (N := 98) hx hb hts i_12 hown hK hP 0 rfl rfl 28 (by decide) (hts _ gw_1447) (fun _ h9 => h9) rfl d_M_isHeight_8 ?_
  refine lv_iload_n hx hb d_M_isHeight_11 rfl (lv_at hl 2 rfl) ?_
  obtain ⟨hg, hf⟩ := gdp hf
  refine va_iald hx hb hK hP 3 1 rfl rfl (inb_in hg) d_M_isHeight_12 ?_
  refine lv_topi (fun v2 ev => ?_)
  have hf := bn ev hf
  clear ev
  refine lv_istore (lv' := [(4, .int v2), (3, .int v1), (0, .ref o), (1, .int a1), (2, .int a2)]) hx hb d_M_isHeight_13 hl (by decide) rfl (fun ls hl => ?_)
  refine lv_iload hx hb d_M_isHeight_15 (lv_at hl 0 rfl) ?_
  refine lv_iconst (v := 2) hx hb d_M_isHeight_17 (by decide) ?_
  refine lv_icmp_lt (tgt := 28) hx hb d_M_isHeight_18 (by decide) (fun cx => ?_) (fun cx => ?_)
  · have hf := ifp cx hf
    refine lv_iconst (v := 0) hx hb d_M_isHeight_28 (by decide) ?_
    obtain rfl := Option.some.inj hf
    exact q_rz hx hb hr hlocks hK hP hD hS (isb_n (v := 0) (by decide)) d_M_isHeight_29
  · have hf := ifn cx hf
    refine lv_iload hx hb d_M_isHeight_21 (lv_at hl 0 rfl) ?_
    refine lv_bipush (v := 100) hx hb d_M_isHeight_23 (by decide) ?_
    refine lv_icmp_le (tgt := 30) hx hb d_M_isHeight_25 (by decide) (fun cx => ?_) (fun cx => ?_)
    · have hf := ifp cx hf
      refine lv_iload_n hx hb d_M_isHeight_30 rfl (lv_at hl 4 rfl) ?_
      refine lv_bipush (v := 16) hx hb d_M_isHeight_31 (by decide) ?_
      refine lv_icmp_gt (tgt := 59) hx hb d_M_isHeight_33 (by decide) (fun cx => ?_) (fun cx => ?_)
      · have hf := ifp cx hf
        refine lv_aload_n hx hb d_M_isHeight_59 rfl (lv_at hl 2 rfl) ?_
        refine lv_iconst (v := 0) hx hb d_M_isHeight_60 (by decide) ?_
        refine va_put (D := D) (ci := 12) (v := .int (0 : Int32)) (ty := .int) (C := "CoinKeeperModel") (T := F_12) (N := 98) hx hb hts i_12 t_12 t_12_ok n_12 hown hK hP hD hS 0 rfl rfl 79 (by decide) (hts _ gw_1498) (fun _ h9 => h9) rfl (by decide +kernel) rfl rfl (Nat.le_of_ble_eq_true rfl) d_M_isHeight_61 (fun H locs hP hD hS => ?_)
        obtain ⟨z3, ev, hf⟩ := bne hf
        have hP : va_P D classes [(o, .inr (12, mo q z3)), ((q 1), .inl (cy 0, 103000, .inl g_store)), ((q 21), .inl (cy 1, 2600, .inl g_iScript)), ((q 22), .inl (cy 1, 2600, .inl g_iLong)), ((q 68), .inl (cy 0, 104448, .inl u1)), ((q 69), .inl (cy 1, 408, .inl u2))] H := by rw [ev]; exact hP
        have hD : va_D A [(o, .inr (12, mo q z3)), ((q 1), .inl (cy 0, 103000, .inl g_store)), ((q 21), .inl (cy 1, 2600, .inl g_iScript)), ((q 22), .inl (cy 1, 2600, .inl g_iLong)), ((q 68), .inl (cy 0, 104448, .inl u1)), ((q 69), .inl (cy 1, 408, .inl u2))] := by rw [ev]; exact hD
        clear ev
        refine lv_aload_n hx hb d_M_isHeight_64 rfl (lv_at hl 2 rfl) ?_
        refine lv_iload_n hx hb d_M_isHeight_65 rfl (lv_at hl 4 rfl) ?_
        refine lv_i2l hx hb d_M_isHeight_66 rfl ?_
        refine lv_topl (fun v4 ev => ?_)
        have hf := bn ev hf
        clear ev
        obtain ⟨f5, f6, f7, hc, hf⟩ := bdp3 hf
        refine q_av (wr := [((q 1), .inl (cy 0, 103000, .inl g_store)), ((q 21), .inl (cy 1, 2600, .inl g_iScript)), ((q 22), .inl (cy 1, 2600, .inl g_iLong))]) (va_runV (C := "CoinKeeperModel") (As := [.long v4]) (rest := []) ⟨hx, hb, hml, hown, hts⟩ (c_M_pushNumber l D cy ad fu o q v4 z3 u1 u2 _ hc H.size) ⟨q_cB hts gw_1831 gw_18 gw_1828 hdm_37 ⟨by decide, by decide⟩, hts _ gw_1830, hts _ gs_83⟩ (q_preV (q_pre (hP.sub [0, 4, 5] rfl) (hD.sub [0, 4, 5] (by decide) rfl) hK hSt hS (va_free hD hS hA [0, 4, 5] rfl) _) (va_recv hK (hP.sub [0, 4, 5] rfl) (ci := 12) (q0 := 0) rfl rfl)) rfl rfl hl.1 rfl (lv_room (Nat.le_of_ble_eq_true rfl)) d_M_isHeight_67 ⟨Nat.le_of_ble_eq_true rfl, Nat.le_of_ble_eq_true rfl⟩) hP hD hS hA [0, 4, 5] [1, 2, 3] rfl rfl (by decide) (by decide) (fun H locs hP hD hS => ?_)
        clear hc
        have hP : va_P D classes [((q 1), .inl (cy 0, 103000, .inl g_store)), ((q 21), .inl (cy 1, 2600, .inl g_iScript)), ((q 22), .inl (cy 1, 2600, .inl g_iLong)), (o, .inr (12, mo q f5)), ((q 68), .inl (cy 0, 104448, .inl f6)), ((q 69), .inl (cy 1, 408, .inl f7))] H := hP
        have hD : va_D A [((q 1), .inl (cy 0, 103000, .inl g_store)), ((q 21), .inl (cy 1, 2600, .inl g_iScript)), ((q 22), .inl (cy 1, 2600, .inl g_iLong)), (o, .inr (12, mo q f5)), ((q 68), .inl (cy 0, 104448, .inl f6)), ((q 69), .inl (cy 1, 408, .inl f7))] := hD
        refine lv_aload_n hx hb d_M_isHeight_70 rfl (lv_at hl 2 rfl) ?_
        refine va_get (D := D) (ci := 12) (v := .ref (q 1)) (C := "CoinKeeperModel") (T := F_12) (N := 98) hx hb hts i_12 hown hK hP 3 rfl rfl 1 (by decide) (hts _ gw_1420) (fun _ h9 => h9) rfl d_M_isHeight_71 ?_
        refine lv_iload_n hx hb d_M_isHeight_74 rfl (lv_at hl 1 rfl) ?_
        obtain ⟨hg, hf⟩ := gdp hf
        refine va_bald hx hb hK hP 0 0 rfl rfl (inb_in hg) d_M_isHeight_75 ?_
        refine lv_topi (fun v8 ev => ?_)
        have hf := bn ev hf
        clear ev
        refine lv_aload_n hx hb d_M_isHeight_76 rfl (lv_at hl 2 rfl) ?_
        refine va_get (D := D) (ci := 12) (v := .ref (q 69)) (C := "CoinKeeperModel") (T := F_12) (N := 98) hx hb hts i_12 hown hK hP 3 rfl rfl 78 (by decide) (hts _ gw_1497) (fun _ h9 => h9) rfl d_M_isHeight_77 ?_
        refine lv_iconst (v := 0) hx hb d_M_isHeight_80 (by decide) ?_
        refine va_iald hx hb hK hP 5 1 rfl rfl (inb_in (by decide)) d_M_isHeight_81 ?_
        refine lv_topi (fun v9 ev => ?_)
        have hf := bn ev hf
        clear ev
        refine lv_icmp_ne (tgt := 98) hx hb d_M_isHeight_82 (by decide) (fun cx => ?_) (fun cx => ?_)
        · have hf := ifn cx hf
          refine lv_iconst (v := 0) hx hb d_M_isHeight_98 (by decide) ?_
          obtain rfl := Option.some.inj hf
          exact q_rz hx hb hr hlocks hK (hP.sub [3, 0, 1, 2, 4, 5] rfl) (hD.sub [3, 0, 1, 2, 4, 5] (by decide) rfl) hS (isb_n (v := 0) (by decide)) d_M_isHeight_99
        · have hf := ifp cx hf
          refine lv_aload_n hx hb d_M_isHeight_85 rfl (lv_at hl 2 rfl) ?_
          refine va_get (D := D) (ci := 12) (v := .ref (q 69)) (C := "CoinKeeperModel") (T := F_12) (N := 98) hx hb hts i_12 hown hK hP 3 rfl rfl 78 (by decide) (hts _ gw_1497) (fun _ h9 => h9) rfl d_M_isHeight_86 ?_
          refine lv_iconst (v := 0) hx hb d_M_isHeight_89 (by decide) ?_
          refine va_iald hx hb hK hP 5 1 rfl rfl (inb_in (by decide)) d_M_isHeight_90 ?_
          refine lv_topi (fun v10 ev => ?_)
          have hf := bn ev hf
          clear ev
          refine lv_iconst (v := 1) hx hb d_M_isHeight_91 (by decide) ?_
          refine lv_iadd hx hb d_M_isHeight_92 ?_
          refine lv_topi (fun v11 ev => ?_)
          have hf := bn ev hf
          clear ev
          refine lv_iload hx hb d_M_isHeight_93 (lv_at hl 0 rfl) ?_
          refine lv_icmp_le (tgt := 100) hx hb d_M_isHeight_95 (by decide) (fun cx => ?_) (fun cx => ?_)
          · have hf := ifp cx hf
            refine lv_iconst (v := 0) hx hb d_M_isHeight_100 (by decide) ?_
            refine lv_istore (lv' := [(5, .int (0 : Int32)), (4, .int v2), (3, .int v1), (0, .ref o), (1, .int a1), (2, .int a2)]) hx hb d_M_isHeight_101 hl (by decide) rfl (fun ls hl => ?_)
            exact w_M_isHeight_103 F fu _ _ _ _ _ _ hf _ _ _ (hP.sub (ws' := [(o, .inr (12, mo q f5)), ((q 1), .inl (cy 0, 103000, .inl g_store)), ((q 21), .inl (cy 1, 2600, .inl g_iScript)), ((q 22), .inl (cy 1, 2600, .inl g_iLong)), ((q 68), .inl (cy 0, 104448, .inl f6)), ((q 69), .inl (cy 1, 408, .inl f7))]) [3, 0, 1, 2, 4, 5] rfl) (hD.sub (ws' := [(o, .inr (12, mo q f5)), ((q 1), .inl (cy 0, 103000, .inl g_store)), ((q 21), .inl (cy 1, 2600, .inl g_iScript)), ((q 22), .inl (cy 1, 2600, .inl g_iLong)), ((q 68), .inl (cy 0, 104448, .inl f6)), ((q 69), .inl (cy 1, 408, .inl f7))]) [3, 0, 1, 2, 4, 5] (by decide) rfl) hS (lv_sub hl [3, 2, 0] rfl)
          · have hf := ifn cx hf
            refine lv_iconst (v := 0) hx hb d_M_isHeight_98 (by decide) ?_
            obtain rfl := Option.some.inj hf
            exact q_rz hx hb hr hlocks hK (hP.sub [3, 0, 1, 2, 4, 5] rfl) (hD.sub [3, 0, 1, 2, 4, 5] (by decide) rfl) hS (isb_n (v := 0) (by decide)) d_M_isHeight_99
      · have hf := ifn cx hf
        refine lv_aload_n hx hb d_M_isHeight_36 rfl (lv_at hl 2 rfl) ?_
        refine va_get (D := D) (ci := 12) (v := .ref (q 1)) (C := "CoinKeeperModel") (T := F_12) (N := 98) hx hb hts i_12 hown hK hP 0 rfl rfl 1 (by decide) (hts _ gw_1420) (fun _ h9 => h9) rfl d_M_isHeight_37 ?_
        refine lv_iload_n hx hb d_M_isHeight_40 rfl (lv_at hl 1 rfl) ?_
        obtain ⟨hg, hf⟩ := gdp hf
        refine va_bald hx hb hK hP 1 0 rfl rfl (inb_in hg) d_M_isHeight_41 ?_
        refine lv_topi (fun v12 ev => ?_)
        have hf := bn ev hf
        clear ev
        refine lv_sipush (v := 255) hx hb d_M_isHeight_42 (by decide) ?_
        refine lv_iand hx hb d_M_isHeight_45 ?_
        refine lv_topi (fun v13 ev => ?_)
        have hf := bn ev hf
        clear ev
        refine lv_bipush (v := 80) hx hb d_M_isHeight_46 (by decide) ?_
        refine lv_iload_n hx hb d_M_isHeight_48 rfl (lv_at hl 4 rfl) ?_
        refine lv_iadd hx hb d_M_isHeight_49 ?_
        refine lv_icmp_ne (tgt := 57) hx hb d_M_isHeight_50 (by decide) (fun cx => ?_) (fun cx => ?_)
        · have hf := ifn cx hf
          refine lv_iconst (v := 0) hx hb d_M_isHeight_57 (by decide) ?_
          obtain rfl := Option.some.inj hf
          exact q_rz hx hb hr hlocks hK hP hD hS (isb_n (v := 0) (by decide)) d_M_isHeight_58
        · have hf := ifp cx hf
          refine lv_iconst (v := 1) hx hb d_M_isHeight_53 (by decide) ?_
          refine lv_goto (tgt := 58) hx hb d_M_isHeight_54 (by decide) ?_
          obtain rfl := Option.some.inj hf
          exact q_rz hx hb hr hlocks hK hP hD hS (isb_n (v := 1) (by decide)) d_M_isHeight_58
    · have hf := ifn cx hf
      refine lv_iconst (v := 0) hx hb d_M_isHeight_28 (by decide) ?_
      obtain rfl := Option.some.inj hf
      exact q_rz hx hb hr hlocks hK hP hD hS (isb_n (v := 0) (by decide)) d_M_isHeight_29
theorem c_M_isHeight (l : Launch) (D : va_G) (cy : Nat → ClassId) (ad : Nat → Nat) (fu : Nat) (o : Nat) (q : Nat → Nat) (g_store : Nat → Int32) (g_iScript : Nat → Int32) (g_iLong : Nat → Int32) (a1 : Int32) (a2 : Int32) (u0 : Nat → Int32) (u1 : Nat → Int32) (u2 : Nat → Int32) (res : Int32 × (Nat → Int32) × (Nat → Int32) × (Nat → Int32)) (hf : x_M_isHeight fu g_store g_iScript g_iLong a1 a2 u0 u1 u2 = some res) (sz : Nat) : Met l ({ cls := "CoinKeeperModel", name := "isHeight", desc := "(II)Z" } : Jvm.MethodName) (.code ({ cls := "CoinKeeperModel", name := "isHeight", desc := "(II)Z" } : Jvm.MethodName) b_M_isHeight 6 (some .boolean) :: gw) rm_M_isHeight (va_Pc [.ref o, .int a1, .int a2] (Pr D cy ad [(o, .inr (12, mo q u0)), ((q 1), .inl (cy 0, 103000, .inl g_store)), ((q 21), .inl (cy 1, 2600, .inl g_iScript)), ((q 22), .inl (cy 1, 2600, .inl g_iLong)), ((q 68), .inl (cy 0, 104448, .inl u1)), ((q 69), .inl (cy 1, 408, .inl u2))] sz)) (q_M_isHeight D cy (va_A [(o, .inr (12, mo q u0)), ((q 1), .inl (cy 0, 103000, .inl g_store)), ((q 21), .inl (cy 1, 2600, .inl g_iScript)), ((q 22), .inl (cy 1, 2600, .inl g_iLong)), ((q 68), .inl (cy 0, 104448, .inl u1)), ((q 69), .inl (cy 1, 408, .inl u2))] sz) o q g_store g_iScript g_iLong res) 0 0 (va_A [(o, .inr (12, mo q u0)), ((q 1), .inl (cy 0, 103000, .inl g_store)), ((q 21), .inl (cy 1, 2600, .inl g_iScript)), ((q 22), .inl (cy 1, 2600, .inl g_iLong)), ((q 68), .inl (cy 0, 104448, .inl u1)), ((q 69), .inl (cy 1, 408, .inl u2))] sz) :=
  q_met (Qc := fun A => q_M_isHeight D cy A o q g_store g_iScript g_iLong res) (by decide) rfl rfl (Nat.le_of_ble_eq_true rfl) (fun p e s m below meth c ls F hP hD hS hl => we_M_isHeight (fu := fu) F a1 a2 u0 u1 u2 res hf _ _ _ hP hD hS hl) sz
