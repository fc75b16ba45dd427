abbrev b_La_valueOut : ByteArray := prog_5_method_18_code
theorem d_La_valueOut_0 : decode b_La_valueOut 0 = .ok (.lconst 0, 1) := by decide +kernel
theorem d_La_valueOut_1 : decode b_La_valueOut 1 = .ok (.lstore_n 2, 1) := by decide +kernel
theorem d_La_valueOut_2 : decode b_La_valueOut 2 = .ok (.aload_n 0, 1) := by decide +kernel
theorem d_La_valueOut_3 : decode b_La_valueOut 3 = .ok (.getfield 18, 3) := by decide +kernel
theorem d_La_valueOut_6 : decode b_La_valueOut 6 = .ok (.iload_n 1, 1) := by decide +kernel
theorem d_La_valueOut_7 : decode b_La_valueOut 7 = .ok (.iaload, 1) := by decide +kernel
theorem d_La_valueOut_8 : decode b_La_valueOut 8 = .ok (.istore 4, 2) := by decide +kernel
theorem d_La_valueOut_10 : decode b_La_valueOut 10 = .ok (.iload 4, 2) := by decide +kernel
theorem d_La_valueOut_12 : decode b_La_valueOut 12 = .ok (.aload_n 0, 1) := by decide +kernel
theorem d_La_valueOut_13 : decode b_La_valueOut 13 = .ok (.getfield 18, 3) := by decide +kernel
theorem d_La_valueOut_16 : decode b_La_valueOut 16 = .ok (.iload_n 1, 1) := by decide +kernel
theorem d_La_valueOut_17 : decode b_La_valueOut 17 = .ok (.iconst 1, 1) := by decide +kernel
theorem d_La_valueOut_18 : decode b_La_valueOut 18 = .ok (.iadd, 1) := by decide +kernel
theorem d_La_valueOut_19 : decode b_La_valueOut 19 = .ok (.iaload, 1) := by decide +kernel
theorem d_La_valueOut_20 : decode b_La_valueOut 20 = .ok (.if_icmp .ge 18, 3) := by decide +kernel
theorem d_La_valueOut_23 : decode b_La_valueOut 23 = .ok (.lload_n 2, 1) := by decide +kernel
theorem d_La_valueOut_24 : decode b_La_valueOut 24 = .ok (.aload_n 0, 1) := by decide +kernel
theorem d_La_valueOut_25 : decode b_La_valueOut 25 = .ok (.iload 4, 2) := by decide +kernel
theorem d_La_valueOut_27 : decode b_La_valueOut 27 = .ok (.invokevirtual 119, 3) := by decide +kernel
theorem d_La_valueOut_30 : decode b_La_valueOut 30 = .ok (.ladd, 1) := by decide +kernel
theorem d_La_valueOut_31 : decode b_La_valueOut 31 = .ok (.lstore_n 2, 1) := by decide +kernel
theorem d_La_valueOut_32 : decode b_La_valueOut 32 = .ok (.iinc 4 1, 3) := by decide +kernel
theorem d_La_valueOut_35 : decode b_La_valueOut 35 = .ok (.goto (-25), 3) := by decide +kernel
theorem d_La_valueOut_38 : decode b_La_valueOut 38 = .ok (.lload_n 2, 1) := by decide +kernel
theorem d_La_valueOut_39 : decode b_La_valueOut 39 = .ok (.lreturn, 1) := by decide +kernel
abbrev rm_La_valueOut : Room := { frames := 2, cells := 0, slots := 0, locals := 42 }
abbrev q_La_valueOut (D : va_G) (cy : Nat → ClassId) (A : Nat → Prop) (o : Nat) (v_a_txAt : Value) (v_a_firstIn : Value) (v_a_inAt : Value) (v_a_inScript : Value) (v_a_inEnd : Value) (v_a_outScript : Value) (v_a_outEnd : Value) (a_raw : Nat) (a_firstOut : Nat) (a_outAt : Nat) (i_txs : Int32) (i_end : Int32) (i_at : Int32) (i_ins : Int32) (i_outs : Int32) (n_raw : Nat) (g_raw : Nat → Int32) (g_firstOut : Nat → Int32) (g_outAt : Nat → Int32) (res : Int64) : Array Value → State → Outcome → State → Prop := va_Ql (fun r' (_ : Unit) => r' = res) (fun _ t => Po D cy A [(o, .inr (4, [.ref a_raw, .int i_txs, v_a_txAt, v_a_firstIn, .ref a_firstOut, v_a_inAt, v_a_inScript, v_a_inEnd, .ref a_outAt, v_a_outScript, v_a_outEnd, .int i_end, .int i_at, .int i_ins, .int i_outs])), (a_raw, .inl (cy 0, n_raw, .inl g_raw)), (a_firstOut, .inl (cy 1, 301, .inl g_firstOut)), (a_outAt, .inl (cy 1, 333, .inl g_outAt))] t) A
def I_La_valueOut_10 (p : Program) (l : Launch) (e : Env) (s : State) (m : MethodId) (args : Array Value) (below : List Frame) (meth : Method) (c : Code) (D : va_G) (cy : Nat → ClassId) (A : Nat → Prop) (ad : Nat → Nat) (o : Nat) (v_a_txAt : Value) (v_a_firstIn : Value) (v_a_inAt : Value) (v_a_inScript : Value) (v_a_inEnd : Value) (v_a_outScript : Value) (v_a_outEnd : Value) (a_raw : Nat) (a_firstOut : Nat) (a_outAt : Nat) (i_txs : Int32) (i_end : Int32) (i_at : Int32) (i_ins : Int32) (i_outs : Int32) (n_raw : Nat) (g_raw : Nat → Int32) (g_firstOut : Nat → Int32) (g_outAt : Nat → Int32) (k : Int32 → Int64 → Int32 → Option (Int64)) : Prop :=
  ∀ (x1 : Int32) (x2 : Int64) (x4 : Int32) (res : Int64), k x1 x2 x4 = some res → ∀ (H : Heap) (locs : List Loc) (ls : Array Slot), va_P D classes [(o, .inr (4, [.ref a_raw, .int i_txs, v_a_txAt, v_a_firstIn, .ref a_firstOut, v_a_inAt, v_a_inScript, v_a_inEnd, .ref a_outAt, v_a_outScript, v_a_outEnd, .int i_end, .int i_at, .int i_ins, .int i_outs])), (a_raw, .inl (cy 0, n_raw, .inl g_raw)), (a_firstOut, .inl (cy 1, 301, .inl g_firstOut)), (a_outAt, .inl (cy 1, 333, .inl g_outAt))] H → va_D A [(o, .inr (4, [.ref a_raw, .int i_txs, v_a_txAt, v_a_firstIn, .ref a_firstOut, v_a_inAt, v_a_inScript, v_a_inEnd, .ref a_outAt, v_a_outScript, v_a_outEnd, .int i_end, .int i_at, .int i_ins, .int i_outs])), (a_raw, .inl (cy 0, n_raw, .inl g_raw)), (a_firstOut, .inl (cy 1, 301, .inl g_firstOut)), (a_outAt, .inl (cy 1, 333, .inl g_outAt))] → va_S A s.heap H locs → lv_has ls 5 [(0, .ref o), (1, .int x1), (2, .long x2), (4, .int x4)] → W p l e rm_La_valueOut s m args below meth c H locs 0 0 (MQ below (q_La_valueOut D cy A o v_a_txAt v_a_firstIn v_a_inAt v_a_inScript v_a_inEnd v_a_outScript v_a_outEnd a_raw a_firstOut a_outAt i_txs i_end i_at i_ins i_outs n_raw g_raw g_firstOut g_outAt res) args s 0 0 A) (F0 m 10 ls [])
def I_La_valueOut_e (p : Program) (l : Launch) (e : Env) (s : State) (m : MethodId) (args : Array Value) (below : List Frame) (meth : Method) (c : Code) (D : va_G) (cy : Nat → ClassId) (A : Nat → Prop) (ad : Nat → Nat) (o : Nat) (v_a_txAt : Value) (v_a_firstIn : Value) (v_a_inAt : Value) (v_a_inScript : Value) (v_a_inEnd : Value) (v_a_outScript : Value) (v_a_outEnd : Value) (a_raw : Nat) (a_firstOut : Nat) (a_outAt : Nat) (i_txs : Int32) (i_end : Int32) (i_at : Int32) (i_ins : Int32) (i_outs : Int32) (n_raw : Nat) (g_raw : Nat → Int32) (g_firstOut : Nat → Int32) (g_outAt : Nat → Int32) (k : Int32 → Option (Int64)) : Prop :=
  ∀ (a1 : Int32) (res : Int64), k a1 = some res → ∀ (H : Heap) (locs : List Loc) (ls : Array Slot), va_P D classes [(o, .inr (4, [.ref a_raw, .int i_txs, v_a_txAt, v_a_firstIn, .ref a_firstOut, v_a_inAt, v_a_inScript, v_a_inEnd, .ref a_outAt, v_a_outScript, v_a_outEnd, .int i_end, .int i_at, .int i_ins, .int i_outs])), (a_raw, .inl (cy 0, n_raw, .inl g_raw)), (a_firstOut, .inl (cy 1, 301, .inl g_firstOut)), (a_outAt, .inl (cy 1, 333, .inl g_outAt))] H → va_D A [(o, .inr (4, [.ref a_raw, .int i_txs, v_a_txAt, v_a_firstIn, .ref a_firstOut, v_a_inAt, v_a_inScript, v_a_inEnd, .ref a_outAt, v_a_outScript, v_a_outEnd, .int i_end, .int i_at, .int i_ins, .int i_outs])), (a_raw, .inl (cy 0, n_raw, .inl g_raw)), (a_firstOut, .inl (cy 1, 301, .inl g_firstOut)), (a_outAt, .inl (cy 1, 333, .inl g_outAt))] → va_S A s.heap H locs → lv_has ls 5 [(0, .ref o), (1, .int a1)] → W p l e rm_La_valueOut s m args below meth c H locs 0 0 (MQ below (q_La_valueOut D cy A o v_a_txAt v_a_firstIn v_a_inAt v_a_inScript v_a_inEnd v_a_outScript v_a_outEnd a_raw a_firstOut a_outAt i_txs i_end i_at i_ins i_outs n_raw g_raw g_firstOut g_outAt res) args s 0 0 A) (F0 m 0 ls [])
set_option maxHeartbeats 8000000 in
set_option maxRecDepth 100000 in
theorem wb_La_valueOut_10 {p : Program} {l : Launch} {e : Env} {s : State} {m : MethodId} {args : Array Value} {below : List Frame} {meth : Method} {c : Code} {D : va_G} {cy : Nat → ClassId} {A : Nat → Prop} {ad : Nat → Nat} {o : Nat} {v_a_txAt : Value} {v_a_firstIn : Value} {v_a_inAt : Value} {v_a_inScript : Value} {v_a_inEnd : Value} {v_a_outScript : Value} {v_a_outEnd : Value} {a_raw : Nat} {a_firstOut : Nat} {a_outAt : Nat} {i_txs : Int32} {i_end : Int32} {i_at : Int32} {i_ins : Int32} {i_outs : Int32} {n_raw : Nat} {g_raw : Nat → Int32} {g_firstOut : Nat → Int32} {g_outAt : Nat → Int32} {fu : Nat} {k_10 : Int32 → Int64 → Int32 → Option (Int64)} (F : Fx p s m args meth c b_La_valueOut 5 "CoinKeeper$Layout" "valueOut" (some .long) D cy ad A) (hk_10 : I_La_valueOut_10 p l e s m args below meth c D cy A ad o v_a_txAt v_a_firstIn v_a_inAt v_a_inScript v_a_inEnd v_a_outScript v_a_outEnd a_raw a_firstOut a_outAt i_txs i_end i_at i_ins i_outs n_raw g_raw g_firstOut g_outAt k_10) : I_La_valueOut_10 p l e s m args below meth c D cy A ad o v_a_txAt v_a_firstIn v_a_inAt v_a_inScript v_a_inEnd v_a_outScript v_a_outEnd a_raw a_firstOut a_outAt i_txs i_end i_at i_ins i_outs n_raw g_raw g_firstOut g_outAt (xb_La_valueOut_10 fu i_txs i_end i_at i_ins i_outs n_raw g_raw g_firstOut g_outAt k_10) := by
  obtain ⟨hx, hb, hr, hml, hown, hts, hlocks, hK, hA, hSt, hnm, hex⟩ := id F
  intro x1 x2 x4 res hf H locs ls hP hD hS hl
  unfold xb_La_valueOut_10 at hf
  refine lv_iload hx hb d_La_valueOut_10 (lv_at hl 3 rfl) ?_
  refine lv_aload_n hx hb d_La_valueOut_12 rfl (lv_at hl 0 rfl) ?_
  refine va_get (D := D) (ci := 4) (v := .ref a_firstOut) (C := "CoinKeeper$Layout") (T := F_4) (N := 15) hx hb hts i_4 hown hK hP 0 rfl rfl 4 (by decide) (hts _ gw_279) (fun _ h9 => h9) rfl d_La_valueOut_13 ?_
  refine lv_iload_n hx hb d_La_valueOut_16 rfl (lv_at hl 1 rfl) ?_
  refine lv_iconst (v := 1) hx hb d_La_valueOut_17 (by decide) ?_
  refine lv_iadd hx hb d_La_valueOut_18 ?_
  refine lv_topi (fun v1 ev => ?_)
  have hf := bn ev hf
  clear ev
  obtain ⟨hg, hf⟩ := gdp hf
  refine va_iald hx hb hK hP 2 1 rfl rfl (inb_in hg) d_La_valueOut_19 ?_
  refine lv_topi (fun v2 ev => ?_)
  have hf := bn ev hf
  clear ev
  refine lv_icmp_ge (tgt := 38) hx hb d_La_valueOut_20 (by decide) (fun cx => ?_) (fun cx => ?_)
  · have hf := ifp cx hf
    refine lv_lload_n hx hb d_La_valueOut_38 rfl (lv_at hl 2 rfl) ?_
    obtain rfl := Option.some.inj hf
    exact q_rl hx hb hr hlocks hK hP hD hS d_La_valueOut_39
  · have hf := ifn cx hf
    refine lv_lload_n hx hb d_La_valueOut_23 rfl (lv_at hl 2 rfl) ?_
    refine lv_aload_n hx hb d_La_valueOut_24 rfl (lv_at hl 0 rfl) ?_
    refine lv_iload hx hb d_La_valueOut_25 (lv_at hl 3 rfl) ?_
    obtain ⟨v3, hc, hf⟩ := bdp1 hf
    refine q_al (wr := [(a_firstOut, .inl (cy 1, 301, .inl g_firstOut))]) (va_runV (C := "CoinKeeper$Layout") (As := [.int x4]) (rest := [.long x2]) ⟨hx, hb, hml, hown, hts⟩ (c_La_value l D cy ad fu o v_a_txAt v_a_firstIn (.ref a_firstOut) v_a_inAt v_a_inScript v_a_inEnd v_a_outScript v_a_outEnd a_raw a_outAt i_txs i_end i_at i_ins i_outs n_raw g_raw g_outAt x4 _ hc H.size) ⟨q_cB hts gw_801 gw_8 gw_798 hdc_30 ⟨by decide, by decide⟩, hts _ gw_799, hts _ gw_800⟩ (q_preV (q_pre (hP.sub [0, 1, 3] rfl) (hD.sub [0, 1, 3] (by decide) rfl) hK hSt hS (va_free hD hS hA [0, 1, 3] rfl) _) (va_recv hK (hP.sub [0, 1, 3] rfl) (ci := 4) (q0 := 0) rfl rfl)) rfl rfl hl.1 rfl (lv_room (Nat.le_of_ble_eq_true rfl)) d_La_valueOut_27 ⟨Nat.le_of_ble_eq_true rfl, Nat.le_of_ble_eq_true rfl⟩) hP hD hS hA [0, 1, 3] [2] rfl rfl (by decide) (by decide) (fun H locs hP hD hS => ?_)
    clear hc
    have hP : va_P D classes [(a_firstOut, .inl (cy 1, 301, .inl g_firstOut)), (o, .inr (4, [.ref a_raw, .int i_txs, v_a_txAt, v_a_firstIn, .ref a_firstOut, v_a_inAt, v_a_inScript, v_a_inEnd, .ref a_outAt, v_a_outScript, v_a_outEnd, .int i_end, .int i_at, .int i_ins, .int i_outs])), (a_raw, .inl (cy 0, n_raw, .inl g_raw)), (a_outAt, .inl (cy 1, 333, .inl g_outAt))] H := hP
    have hD : va_D A [(a_firstOut, .inl (cy 1, 301, .inl g_firstOut)), (o, .inr (4, [.ref a_raw, .int i_txs, v_a_txAt, v_a_firstIn, .ref a_firstOut, v_a_inAt, v_a_inScript, v_a_inEnd, .ref a_outAt, v_a_outScript, v_a_outEnd, .int i_end, .int i_at, .int i_ins, .int i_outs])), (a_raw, .inl (cy 0, n_raw, .inl g_raw)), (a_outAt, .inl (cy 1, 333, .inl g_outAt))] := hD
    refine lv_ladd hx hb d_La_valueOut_30 ?_
    refine lv_topl (fun v4 ev => ?_)
    have hf := bn ev hf
    clear ev
    refine lv_lstore_n (lv' := [(2, .long v4), (0, .ref o), (1, .int x1), (4, .int x4)]) hx hb d_La_valueOut_31 rfl hl (by decide) rfl (fun ls hl => ?_)
    obtain ⟨v5, ev, hf⟩ := bne hf
    refine lv_iinc (v := v5) (lv' := [(4, .int v5), (2, .long v4), (0, .ref o), (1, .int x1)]) hx hb d_La_valueOut_32 hl (k := 3) rfl (by rw [ev]; rfl) (by decide) rfl (fun ls hl => ?_)
    clear ev
    refine lv_goto (tgt := 10) hx hb d_La_valueOut_35 (by decide) ?_
    exact hk_10 _ _ _ _ hf _ _ _ (hP.sub (ws' := [(o, .inr (4, [.ref a_raw, .int i_txs, v_a_txAt, v_a_firstIn, .ref a_firstOut, v_a_inAt, v_a_inScript, v_a_inEnd, .ref a_outAt, v_a_outScript, v_a_outEnd, .int i_end, .int i_at, .int i_ins, .int i_outs])), (a_raw, .inl (cy 0, n_raw, .inl g_raw)), (a_firstOut, .inl (cy 1, 301, .inl g_firstOut)), (a_outAt, .inl (cy 1, 333, .inl g_outAt))]) [1, 2, 0, 3] rfl) (hD.sub (ws' := [(o, .inr (4, [.ref a_raw, .int i_txs, v_a_txAt, v_a_firstIn, .ref a_firstOut, v_a_inAt, v_a_inScript, v_a_inEnd, .ref a_outAt, v_a_outScript, v_a_outEnd, .int i_end, .int i_at, .int i_ins, .int i_outs])), (a_raw, .inl (cy 0, n_raw, .inl g_raw)), (a_firstOut, .inl (cy 1, 301, .inl g_firstOut)), (a_outAt, .inl (cy 1, 333, .inl g_outAt))]) [1, 2, 0, 3] (by decide) rfl) hS (lv_sub hl [2, 3, 1, 0] rfl)
theorem w_La_valueOut_10 {p : Program} {l : Launch} {e : Env} {s : State} {m : MethodId} {args : Array Value} {below : List Frame} {meth : Method} {c : Code} {D : va_G} {cy : Nat → ClassId} {A : Nat → Prop} {ad : Nat → Nat} {o : Nat} {v_a_txAt : Value} {v_a_firstIn : Value} {v_a_inAt : Value} {v_a_inScript : Value} {v_a_inEnd : Value} {v_a_outScript : Value} {v_a_outEnd : Value} {a_raw : Nat} {a_firstOut : Nat} {a_outAt : Nat} {i_txs : Int32} {i_end : Int32} {i_at : Int32} {i_ins : Int32} {i_outs : Int32} {n_raw : Nat} {g_raw : Nat → Int32} {g_firstOut : Nat → Int32} {g_outAt : Nat → Int32} {fu : Nat} (F : Fx p s m args meth c b_La_valueOut 5 "CoinKeeper$Layout" "valueOut" (some .long) D cy ad A) : ∀ n : Nat, I_La_valueOut_10 p l e s m args below meth c D cy A ad o v_a_txAt v_a_firstIn v_a_inAt v_a_inScript v_a_inEnd v_a_outScript v_a_outEnd a_raw a_firstOut a_outAt i_txs i_end i_at i_ins i_outs n_raw g_raw g_firstOut g_outAt (x_La_valueOut_10 fu i_txs i_end i_at i_ins i_outs n_raw g_raw g_firstOut g_outAt n)
  | 0 => fun _ _ _ _ hf => nomatch (show (none : Option (Int64)) = some _ from hf)
  | n + 1 => wb_La_valueOut_10 F (w_La_valueOut_10 F n)
set_option maxHeartbeats 8000000 in
set_option maxRecDepth 100000 in
theorem we_La_valueOut {p : Program} {l : Launch} {e : Env} {s : State} {m : MethodId} {args : Array Value} {below : List Frame} {meth : Method} {c : Code} {D : va_G} {cy : Nat → ClassId} {A : Nat → Prop} {ad : Nat → Nat} {o : Nat} {v_a_txAt : Value} {v_a_firstIn : Value} {v_a_inAt : Value} {v_a_inScript : Value} {v_a_inEnd : Value} {v_a_outScript : Value} {v_a_outEnd : Value} {a_raw : Nat} {a_firstOut : Nat} {a_outAt : Nat} {i_txs : Int32} {i_end : Int32} {i_at : Int32} {i_ins : Int32} {i_outs : Int32} {n_raw : Nat} {g_raw : Nat → Int32} {g_firstOut : Nat → Int32} {g_outAt : Nat → Int32} {fu : Nat} (F : Fx p s m args meth c b_La_valueOut 5 "CoinKeeper$Layout" "valueOut" (some .long) D cy ad A) : I_La_valueOut_e p l e s m args below meth c D cy A ad o v_a_txAt v_a_firstIn v_a_inAt v_a_inScript v_a_inEnd v_a_outScript v_a_outEnd a_raw a_firstOut a_outAt i_txs i_end i_at i_ins i_outs n_raw g_raw g_firstOut g_outAt (x_La_valueOut fu i_txs i_end i_at i_ins i_outs n_raw g_raw g_firstOut g_outAt) := by
  obtain ⟨hx, hb, hr, hml, hown, hts, hlocks, hK, hA, hSt, hnm, hex⟩ := id F
  intro a1 res hf H locs ls hP hD hS hl
  unfold x_La_valueOut at hf
  refine lv_lconst (v := 0) hx hb d_La_valueOut_0 (by decide) ?_
  refine lv_lstore_n (lv' := [(2, .long (0 : Int64)), (0, .ref o), (1, .int a1)]) hx hb d_La_valueOut_1 rfl hl (by decide) rfl (fun ls hl => ?_)
  refine lv_aload_n hx hb d_La_valueOut_2 rfl (lv_at hl 1 rfl) ?_
  refine va_get (D := D) (ci := 4) (v := .ref a_firstOut) (C := "CoinKeeper$Layout") (T := F_4) (N := 15) hx hb hts i_4 hown hK hP 0 rfl rfl 4 (by decide) (hts _ gw_279) (fun _ h9 => h9) rfl d_La_valueOut_3 ?_
  refine lv_iload_n hx hb d_La_valueOut_6 rfl (lv_at hl 2 rfl) ?_
  obtain ⟨hg, hf⟩ := gdp hf
  refine va_iald hx hb hK hP 2 1 rfl rfl (inb_in hg) d_La_valueOut_7 ?_
  refine lv_topi (fun v1 ev => ?_)
  have hf := bn ev hf
  clear ev
  refine lv_istore (lv' := [(4, .int v1), (2, .long (0 : Int64)), (0, .ref o), (1, .int a1)]) hx hb d_La_valueOut_8 hl (by decide) rfl (fun ls hl => ?_)
  exact w_La_valueOut_10 F fu _ _ _ _ hf _ _ _ hP hD hS (lv_sub hl [2, 3, 1, 0] rfl)
theorem c_La_valueOut (l : Launch) (D : va_G) (cy : Nat → ClassId) (ad : Nat → Nat) (fu : Nat) (o : Nat) (v_a_txAt : Value) (v_a_firstIn : Value) (v_a_inAt : Value) (v_a_inScript : Value) (v_a_inEnd : Value) (v_a_outScript : Value) (v_a_outEnd : Value) (a_raw : Nat) (a_firstOut : Nat) (a_outAt : Nat) (i_txs : Int32) (i_end : Int32) (i_at : Int32) (i_ins : Int32) (i_outs : Int32) (n_raw : Nat) (g_raw : Nat → Int32) (g_firstOut : Nat → Int32) (g_outAt : Nat → Int32) (a1 : Int32) (res : Int64) (hf : x_La_valueOut fu i_txs i_end i_at i_ins i_outs n_raw g_raw g_firstOut g_outAt a1 = some res) (sz : Nat) : Met l ({ cls := "CoinKeeper$Layout", name := "valueOut", desc := "(I)J" } : Jvm.MethodName) (.code ({ cls := "CoinKeeper$Layout", name := "valueOut", desc := "(I)J" } : Jvm.MethodName) b_La_valueOut 5 (some .long) :: gw) rm_La_valueOut (va_Pc [.ref o, .int a1] (Pr D cy ad [(o, .inr (4, [.ref a_raw, .int i_txs, v_a_txAt, v_a_firstIn, .ref a_firstOut, v_a_inAt, v_a_inScript, v_a_inEnd, .ref a_outAt, v_a_outScript, v_a_outEnd, .int i_end, .int i_at, .int i_ins, .int i_outs])), (a_raw, .inl (cy 0, n_raw, .inl g_raw)), (a_firstOut, .inl (cy 1, 301, .inl g_firstOut)), (a_outAt, .inl (cy 1, 333, .inl g_outAt))] sz)) (q_La_valueOut D cy (va_A [(o, .inr (4, [.ref a_raw, .int i_txs, v_a_txAt, v_a_firstIn, .ref a_firstOut, v_a_inAt, v_a_inScript, v_a_inEnd, .ref a_outAt, v_a_outScript, v_a_outEnd, .int i_end, .int i_at, .int i_ins, .int i_outs])), (a_raw, .inl (cy 0, n_raw, .inl g_raw)), (a_firstOut, .inl (cy 1, 301, .inl g_firstOut)), (a_outAt, .inl (cy 1, 333, .inl g_outAt))] sz) o v_a_txAt v_a_firstIn v_a_inAt v_a_inScript v_a_inEnd v_a_outScript v_a_outEnd a_raw a_firstOut a_outAt i_txs i_end i_at i_ins i_outs n_raw g_raw g_firstOut g_outAt res) 0 0 (va_A [(o, .inr (4, [.ref a_raw, .int i_txs, v_a_txAt, v_a_firstIn, .ref a_firstOut, v_a_inAt, v_a_inScript, v_a_inEnd, .ref a_outAt, v_a_outScript, v_a_outEnd, .int i_end, .int i_at, .int i_ins, .int i_outs])), (a_raw, .inl (cy 0, n_raw, .inl g_raw)), (a_firstOut, .inl (cy 1, 301, .inl g_firstOut)), (a_outAt, .inl (cy 1, 333, .inl g_outAt))] sz) :=
  q_met (Qc := fun A => q_La_valueOut D cy A o v_a_txAt v_a_firstIn v_a_inAt v_a_inScript v_a_inEnd v_a_outScript v_a_outEnd a_raw a_firstOut a_outAt i_txs i_end i_at i_ins i_outs n_raw g_raw g_firstOut g_outAt res) (by decide) rfl rfl (Nat.le_of_ble_eq_true rfl) (fun p e s m below meth c ls F hP hD hS hl => we_La_valueOut (fu := fu) F a1 res hf _ _ _ hP hD hS hl) sz
abbrev b_Ma_load : ByteArray := prog_7_method_2_code
theorem d_Ma_load_0 : decode b_Ma_load 0 = .ok (.bipush 64, 2) := by decide +kernel
theorem d_Ma_load_2 : decode b_Ma_load 2 = .ok (.iload_n 1, 1) := by decide +kernel
theorem d_Ma_load_3 : decode b_Ma_load 3 = .ok (.sipush 1000, 3) := by decide +kernel
theorem d_Ma_load_6 : decode b_Ma_load 6 = .ok (.imul, 1) := by decide +kernel
theorem d_Ma_load_7 : decode b_Ma_load 7 = .ok (.iadd, 1) := by decide +kernel
theorem d_Ma_load_8 : decode b_Ma_load 8 = .ok (.istore 5, 2) := by decide +kernel
theorem d_Ma_load_10 : decode b_Ma_load 10 = .ok (.aload_n 2, 1) := by decide +kernel
theorem d_Ma_load_11 : decode b_Ma_load 11 = .ok (.iload_n 3, 1) := by decide +kernel
theorem d_Ma_load_12 : decode b_Ma_load 12 = .ok (.aload_n 0, 1) := by decide +kernel
theorem d_Ma_load_13 : decode b_Ma_load 13 = .ok (.getfield 18, 3) := by decide +kernel
theorem d_Ma_load_16 : decode b_Ma_load 16 = .ok (.iload 5, 2) := by decide +kernel
theorem d_Ma_load_18 : decode b_Ma_load 18 = .ok (.iload 4, 2) := by decide +kernel
theorem d_Ma_load_20 : decode b_Ma_load 20 = .ok (.iload_n 3, 1) := by decide +kernel
theorem d_Ma_load_21 : decode b_Ma_load 21 = .ok (.isub, 1) := by decide +kernel
theorem d_Ma_load_22 : decode b_Ma_load 22 = .ok (.invokestatic 44, 3) := by decide +kernel
theorem d_Ma_load_25 : decode b_Ma_load 25 = .ok (.aload_n 0, 1) := by decide +kernel
theorem d_Ma_load_26 : decode b_Ma_load 26 = .ok (.getfield 22, 3) := by decide +kernel
theorem d_Ma_load_29 : decode b_Ma_load 29 = .ok (.iload_n 1, 1) := by decide +kernel
theorem d_Ma_load_30 : decode b_Ma_load 30 = .ok (.iload 5, 2) := by decide +kernel
theorem d_Ma_load_32 : decode b_Ma_load 32 = .ok (.iload 4, 2) := by decide +kernel
theorem d_Ma_load_34 : decode b_Ma_load 34 = .ok (.iadd, 1) := by decide +kernel
theorem d_Ma_load_35 : decode b_Ma_load 35 = .ok (.iload_n 3, 1) := by decide +kernel
theorem d_Ma_load_36 : decode b_Ma_load 36 = .ok (.isub, 1) := by decide +kernel
theorem d_Ma_load_37 : decode b_Ma_load 37 = .ok (.iastore, 1) := by decide +kernel
theorem d_Ma_load_38 : decode b_Ma_load 38 = .ok (.return_, 1) := by decide +kernel
abbrev rm_Ma_load : Room := { frames := 1, cells := 0, slots := 0, locals := 26 }
abbrev q_Ma_load (D : va_G) (cy : Nat → ClassId) (A : Nat → Prop) (o : Nat) (v_o_sha : Value) (r_signatures : Value) (v_o_ripemd : Value) (v_a_main : Value) (v_a_other : Value) (v_a_taken : Value) (r_layout : Value) (r_coin : Value) (a_data : Nat) (a_scriptEnd : Nat) (b2 : Nat) (i_height : Int32) (i_otherHeight : Int32) (i_ops : Int32) (i_ifs : Int32) (i_ifsNotTaken : Int32) (i_free : Int32) (i_tx : Int32) (i_in : Int32) (i_messageIsThere : Int32) (n2 : Nat) (h2 : Nat → Int32) (res : (Nat → Int32) × (Nat → Int32)) : Array Value → State → Outcome → State → Prop := va_Qv (fun (_ : Unit) => True) (fun _ t => Po D cy A [(o, .inr (6, [v_o_sha, r_signatures, v_o_ripemd, .ref a_data, .ref a_scriptEnd, v_a_main, v_a_other, v_a_taken, .int i_height, .int i_otherHeight, .int i_ops, .int i_ifs, .int i_ifsNotTaken, .int i_free, r_layout, .int i_tx, .int i_in, r_coin, .int i_messageIsThere])), (a_data, .inl (cy 0, 14928, .inl res.1)), (a_scriptEnd, .inl (cy 1, 2, .inl res.2)), (b2, .inl (cy 0, n2, .inl h2))] t) A
def I_Ma_load_e (p : Program) (l : Launch) (e : Env) (s : State) (m : MethodId) (args : Array Value) (below : List Frame) (meth : Method) (c : Code) (D : va_G) (cy : Nat → ClassId) (A : Nat → Prop) (ad : Nat → Nat) (o : Nat) (v_o_sha : Value) (r_signatures : Value) (v_o_ripemd : Value) (v_a_main : Value) (v_a_other : Value) (v_a_taken : Value) (r_layout : Value) (r_coin : Value) (a_data : Nat) (a_scriptEnd : Nat) (b2 : Nat) (i_height : Int32) (i_otherHeight : Int32) (i_ops : Int32) (i_ifs : Int32) (i_ifsNotTaken : Int32) (i_free : Int32) (i_tx : Int32) (i_in : Int32) (i_messageIsThere : Int32) (n2 : Nat) (h2 : Nat → Int32) (k : Int32 → Int32 → Int32 → (Nat → Int32) → (Nat → Int32) → Option ((Nat → Int32) × (Nat → Int32))) : Prop :=
  ∀ (a1 : Int32) (a3 : Int32) (a4 : Int32) (u0 : Nat → Int32) (u1 : Nat → Int32) (res : (Nat → Int32) × (Nat → Int32)), k a1 a3 a4 u0 u1 = some res → ∀ (H : Heap) (locs : List Loc) (ls : Array Slot), va_P D classes [(o, .inr (6, [v_o_sha, r_signatures, v_o_ripemd, .ref a_data, .ref a_scriptEnd, v_a_main, v_a_other, v_a_taken, .int i_height, .int i_otherHeight, .int i_ops, .int i_ifs, .int i_ifsNotTaken, .int i_free, r_layout, .int i_tx, .int i_in, r_coin, .int i_messageIsThere])), (a_data, .inl (cy 0, 14928, .inl u0)), (a_scriptEnd, .inl (cy 1, 2, .inl u1)), (b2, .inl (cy 0, n2, .inl h2))] H → va_D A [(o, .inr (6, [v_o_sha, r_signatures, v_o_ripemd, .ref a_data, .ref a_scriptEnd, v_a_main, v_a_other, v_a_taken, .int i_height, .int i_otherHeight, .int i_ops, .int i_ifs, .int i_ifsNotTaken, .int i_free, r_layout, .int i_tx, .int i_in, r_coin, .int i_messageIsThere])), (a_data, .inl (cy 0, 14928, .inl u0)), (a_scriptEnd, .inl (cy 1, 2, .inl u1)), (b2, .inl (cy 0, n2, .inl h2))] → va_S A s.heap H locs → lv_has ls 6 [(0, .ref o), (1, .int a1), (2, .ref b2), (3, .int a3), (4, .int a4)] → W p l e rm_Ma_load s m args below meth c H locs 0 0 (MQ below (q_Ma_load D cy A o v_o_sha r_signatures v_o_ripemd v_a_main v_a_other v_a_taken r_layout r_coin a_data a_scriptEnd b2 i_height i_otherHeight i_ops i_ifs i_ifsNotTaken i_free i_tx i_in i_messageIsThere n2 h2 res) args s 0 0 A) (F0 m 0 ls [])
set_option maxHeartbeats 8000000 in
set_option maxRecDepth 100000 in
theorem we_Ma_load {p : Program} {l : Launch} {e : Env} {s : State} {m : MethodId} {args : Array Value} {below : List Frame} {meth : Method} {c : Code} {D : va_G} {cy : Nat → ClassId} {A : Nat → Prop} {ad : Nat → Nat} {o : Nat} {v_o_sha : Value} {r_signatures : Value} {v_o_ripemd : Value} {v_a_main : Value} {v_a_other : Value} {v_a_taken : Value} {r_layout : Value} {r_coin : Value} {a_data : Nat} {a_scriptEnd : Nat} {b2 : Nat} {i_height : Int32} {i_otherHeight : Int32} {i_ops : Int32} {i_ifs : Int32} {i_ifsNotTaken : Int32} {i_free : Int32} {i_tx : Int32} {i_in : Int32} {i_messageIsThere : Int32} {n2 : Nat} {h2 : Nat → Int32} {fu : Nat} (F : Fx p s m args meth c b_Ma_load 6 "CoinKeeper$Machine" "load" none D cy ad A) : I_Ma_load_e p l e s m args below meth c D cy A ad o v_o_sha r_signatures v_o_ripemd v_a_main v_a_other v_a_taken r_layout r_coin a_data a_scriptEnd b2 i_height i_otherHeight i_ops i_ifs i_ifsNotTaken i_free i_tx i_in i_messageIsThere n2 h2 (x_Ma_load fu i_height i_otherHeight i_ops i_ifs i_ifsNotTaken i_free i_tx i_in i_messageIsThere n2 h2) := by
  obtain ⟨hx, hb, hr, hml, hown, hts, hlocks, hK, hA, hSt, hnm, hex⟩ := id F
  intro a1 a3 a4 u0 u1 res hf H locs ls hP hD hS hl
  unfold x_Ma_load at hf
  refine lv_bipush (v := 64) hx hb d_Ma_load_0 (by decide) ?_
  refine lv_iload_n hx hb d_Ma_load_2 rfl (lv_at hl 1 rfl) ?_
  refine lv_sipush (v := 1000) hx hb d_Ma_load_3 (by decide) ?_
  refine lv_imul hx hb d_Ma_load_6 ?_
  refine lv_iadd hx hb d_Ma_load_7 ?_
  refine lv_topi (fun v1 ev => ?_)
  have hf := bn ev hf
  clear ev
  refine lv_istore (lv' := [(5, .int v1), (0, .ref o), (1, .int a1), (2, .ref b2), (3, .int a3), (4, .int a4)]) hx hb d_Ma_load_8 hl (by decide) rfl (fun ls hl => ?_)
  refine lv_aload_n hx hb d_Ma_load_10 rfl (lv_at hl 3 rfl) ?_
  refine lv_iload_n hx hb d_Ma_load_11 rfl (lv_at hl 4 rfl) ?_
  refine lv_aload_n hx hb d_Ma_load_12 rfl (lv_at hl 1 rfl) ?_
  refine va_get (D := D) (ci := 6) (v := .ref a_data) (C := "CoinKeeper$Machine") (T := F_6) (N := 19) hx hb hts i_6 hown hK hP 0 rfl rfl 3 (by decide) (hts _ gw_207) (fun _ h9 => h9) rfl d_Ma_load_13 ?_
  refine lv_iload hx hb d_Ma_load_16 (lv_at hl 0 rfl) ?_
  refine lv_iload hx hb d_Ma_load_18 (lv_at hl 5 rfl) ?_
  refine lv_iload_n hx hb d_Ma_load_20 rfl (lv_at hl 4 rfl) ?_
  refine lv_isub hx hb d_Ma_load_21 ?_
  refine lv_topi (fun v2 ev => ?_)
  have hf := bn ev hf
  clear ev
  obtain ⟨hg, hf⟩ := gdp hf
  obtain ⟨hg2, hf⟩ := gdp hf
  refine va_copyi (rest := []) hx hb (hml.trans hl.1.symm) hown (hts _ gw_976) (hts _ gw_497) (hts _ gw_496) (hts _ gw_17) hK hP hD hS 3 1 0 0 rfl rfl rfl rfl rfl (cpk_p hg).1 (cpk_p hg).2.1 (cpk_p hg).2.2.1 (cpk_p hg).2.2.2.1 (cpk_p hg).2.2.2.2 (bfit_p hg2) (by decide) (by decide) d_Ma_load_22 (fun H locs hP hD hS => ?_)
  obtain ⟨f3, ev, hf⟩ := bne hf
  have hP : va_P D classes [(o, .inr (6, [v_o_sha, r_signatures, v_o_ripemd, .ref a_data, .ref a_scriptEnd, v_a_main, v_a_other, v_a_taken, .int i_height, .int i_otherHeight, .int i_ops, .int i_ifs, .int i_ifsNotTaken, .int i_free, r_layout, .int i_tx, .int i_in, r_coin, .int i_messageIsThere])), (a_data, .inl (cy 0, 14928, .inl f3)), (a_scriptEnd, .inl (cy 1, 2, .inl u1)), (b2, .inl (cy 0, n2, .inl h2))] H := by rw [ev]; exact hP
  have hD : va_D A [(o, .inr (6, [v_o_sha, r_signatures, v_o_ripemd, .ref a_data, .ref a_scriptEnd, v_a_main, v_a_other, v_a_taken, .int i_height, .int i_otherHeight, .int i_ops, .int i_ifs, .int i_ifsNotTaken, .int i_free, r_layout, .int i_tx, .int i_in, r_coin, .int i_messageIsThere])), (a_data, .inl (cy 0, 14928, .inl f3)), (a_scriptEnd, .inl (cy 1, 2, .inl u1)), (b2, .inl (cy 0, n2, .inl h2))] := by rw [ev]; exact hD
  clear ev
  refine lv_aload_n hx hb d_Ma_load_25 rfl (lv_at hl 1 rfl) ?_
  refine va_get (D := D) (ci := 6) (v := .ref a_scriptEnd) (C := "CoinKeeper$Machine") (T := F_6) (N := 19) hx hb hts i_6 hown hK hP 0 rfl rfl 4 (by decide) (hts _ gw_208) (fun _ h9 => h9) rfl d_Ma_load_26 ?_
  refine lv_iload_n hx hb d_Ma_load_29 rfl (lv_at hl 2 rfl) ?_
  refine lv_iload hx hb d_Ma_load_30 (lv_at hl 0 rfl) ?_
  refine lv_iload hx hb d_Ma_load_32 (lv_at hl 5 rfl) ?_
  refine lv_iadd hx hb d_Ma_load_34 ?_
  refine lv_topi (fun v4 ev => ?_)
  have hf := bn ev hf
  clear ev
  refine lv_iload_n hx hb d_Ma_load_35 rfl (lv_at hl 4 rfl) ?_
  refine lv_isub hx hb d_Ma_load_36 ?_
  refine lv_topi (fun v5 ev => ?_)
  have hf := bn ev hf
  clear ev
  obtain ⟨hg, hf⟩ := gdp hf
  refine va_iast hx hb hK hP hD hS 2 1 rfl rfl (inb_in hg) d_Ma_load_37 (fun H locs hP hD hS => ?_)
  obtain ⟨f6, ev, hf⟩ := bne hf
  have hP : va_P D classes [(o, .inr (6, [v_o_sha, r_signatures, v_o_ripemd, .ref a_data, .ref a_scriptEnd, v_a_main, v_a_other, v_a_taken, .int i_height, .int i_otherHeight, .int i_ops, .int i_ifs, .int i_ifsNotTaken, .int i_free, r_layout, .int i_tx, .int i_in, r_coin, .int i_messageIsThere])), (a_data, .inl (cy 0, 14928, .inl f3)), (a_scriptEnd, .inl (cy 1, 2, .inl f6)), (b2, .inl (cy 0, n2, .inl h2))] H := by rw [ev]; exact hP
  have hD : va_D A [(o, .inr (6, [v_o_sha, r_signatures, v_o_ripemd, .ref a_data, .ref a_scriptEnd, v_a_main, v_a_other, v_a_taken, .int i_height, .int i_otherHeight, .int i_ops, .int i_ifs, .int i_ifsNotTaken, .int i_free, r_layout, .int i_tx, .int i_in, r_coin, .int i_messageIsThere])), (a_data, .inl (cy 0, 14928, .inl f3)), (a_scriptEnd, .inl (cy 1, 2, .inl f6)), (b2, .inl (cy 0, n2, .inl h2))] := by rw [ev]; exact hD
  clear ev
  obtain rfl := Option.some.inj hf
  exact q_rv hx hb hr hlocks hK hP hD hS d_Ma_load_38
theorem c_Ma_load (l : Launch) (D : va_G) (cy : Nat → ClassId) (ad : Nat → Nat) (fu : Nat) (o : Nat) (v_o_sha : Value) (r_signatures : Value) (v_o_ripemd : Value) (v_a_main : Value) (v_a_other : Value) (v_a_taken : Value) (r_layout : Value) (r_coin : Value) (a_data : Nat) (a_scriptEnd : Nat) (b2 : Nat) (i_height : Int32) (i_otherHeight : Int32) (i_ops : Int32) (i_ifs : Int32) (i_ifsNotTaken : Int32) (i_free : Int32) (i_tx : Int32) (i_in : Int32) (i_messageIsThere : Int32) (n2 : Nat) (h2 : Nat → Int32) (a1 : Int32) (a3 : Int32) (a4 : Int32) (u0 : Nat → Int32) (u1 : Nat → Int32) (res : (Nat → Int32) × (Nat → Int32)) (hf : x_Ma_load fu i_height i_otherHeight i_ops i_ifs i_ifsNotTaken i_free i_tx i_in i_messageIsThere n2 h2 a1 a3 a4 u0 u1 = some res) (sz : Nat) : Met l ({ cls := "CoinKeeper$Machine", name := "load", desc := "(I[BII)V" } : Jvm.MethodName) (.code ({ cls := "CoinKeeper$Machine", name := "load", desc := "(I[BII)V" } : Jvm.MethodName) b_Ma_load 6 none :: gw) rm_Ma_load (va_Pc [.ref o, .int a1, .ref b2, .int a3, .int a4] (Pr D cy ad [(o, .inr (6, [v_o_sha, r_signatures, v_o_ripemd, .ref a_data, .ref a_scriptEnd, v_a_main, v_a_other, v_a_taken, .int i_height, .int i_otherHeight, .int i_ops, .int i_ifs, .int i_ifsNotTaken, .int i_free, r_layout, .int i_tx, .int i_in, r_coin, .int i_messageIsThere])), (a_data, .inl (cy 0, 14928, .inl u0)), (a_scriptEnd, .inl (cy 1, 2, .inl u1)), (b2, .inl (cy 0, n2, .inl h2))] sz)) (q_Ma_load D cy (va_A [(o, .inr (6, [v_o_sha, r_signatures, v_o_ripemd, .ref a_data, .ref a_scriptEnd, v_a_main, v_a_other, v_a_taken, .int i_height, .int i_otherHeight, .int i_ops, .int i_ifs, .int i_ifsNotTaken, .int i_free, r_layout, .int i_tx, .int i_in, r_coin, .int i_messageIsThere])), (a_data, .inl (cy 0, 14928, .inl u0)), (a_scriptEnd, .inl (cy 1, 2, .inl u1)), (b2, .inl (cy 0, n2, .inl h2))] sz) o v_o_sha r_signatures v_o_ripemd v_a_main v_a_other v_a_taken r_layout r_coin a_data a_scriptEnd b2 i_height i_otherHeight i_ops i_ifs i_ifsNotTaken i_free i_tx i_in i_messageIsThere n2 h2 res) 0 0 (va_A [(o, .inr (6, [v_o_sha, r_signatures, v_o_ripemd, .ref a_data, .ref a_scriptEnd, v_a_main, v_a_other, v_a_taken, .int i_height, .int i_otherHeight, .int i_ops, .int i_ifs, .int i_ifsNotTaken, .int i_free, r_layout, .int i_tx, .int i_in, r_coin, .int i_messageIsThere])), (a_data, .inl (cy 0, 14928, .inl u0)), (a_scriptEnd, .inl (cy 1, 2, .inl u1)), (b2, .inl (cy 0, n2, .inl h2))] sz) :=
  q_met (Qc := fun A => q_Ma_load D cy A o v_o_sha r_signatures v_o_ripemd v_a_main v_a_other v_a_taken r_layout r_coin a_data a_scriptEnd b2 i_height i_otherHeight i_ops i_ifs i_ifsNotTaken i_free i_tx i_in i_messageIsThere n2 h2 res) (by decide) rfl rfl (Nat.le_of_ble_eq_true rfl) (fun p e s m below meth c ls F hP hD hS hl => we_Ma_load (fu := fu) F a1 a3 a4 u0 u1 res hf _ _ _ hP hD hS hl) sz
abbrev b_Ma_spend : ByteArray := prog_7_method_4_code
theorem d_Ma_spend_0 : decode b_Ma_spend 0 = .ok (.aload_n 0, 1) := by decide +kernel
theorem d_Ma_spend_1 : decode b_Ma_spend 1 = .ok (.aload_n 1, 1) := by decide +kernel
theorem d_Ma_spend_2 : decode b_Ma_spend 2 = .ok (.putfield 54, 3) := by decide +kernel
theorem d_Ma_spend_5 : decode b_Ma_spend 5 = .ok (.aload_n 0, 1) := by decide +kernel
theorem d_Ma_spend_6 : decode b_Ma_spend 6 = .ok (.iload_n 2, 1) := by decide +kernel
theorem d_Ma_spend_7 : decode b_Ma_spend 7 = .ok (.putfield 58, 3) := by decide +kernel
theorem d_Ma_spend_10 : decode b_Ma_spend 10 = .ok (.aload_n 0, 1) := by decide +kernel
theorem d_Ma_spend_11 : decode b_Ma_spend 11 = .ok (.iload_n 3, 1) := by decide +kernel
theorem d_Ma_spend_12 : decode b_Ma_spend 12 = .ok (.putfield 62, 3) := by decide +kernel
theorem d_Ma_spend_15 : decode b_Ma_spend 15 = .ok (.aload_n 0, 1) := by decide +kernel
theorem d_Ma_spend_16 : decode b_Ma_spend 16 = .ok (.aload 4, 2) := by decide +kernel
theorem d_Ma_spend_18 : decode b_Ma_spend 18 = .ok (.putfield 65, 3) := by decide +kernel
theorem d_Ma_spend_21 : decode b_Ma_spend 21 = .ok (.aload_n 0, 1) := by decide +kernel
theorem d_Ma_spend_22 : decode b_Ma_spend 22 = .ok (.iconst 0, 1) := by decide +kernel
theorem d_Ma_spend_23 : decode b_Ma_spend 23 = .ok (.putfield 69, 3) := by decide +kernel
theorem d_Ma_spend_26 : decode b_Ma_spend 26 = .ok (.aload_n 0, 1) := by decide +kernel
theorem d_Ma_spend_27 : decode b_Ma_spend 27 = .ok (.iconst 0, 1) := by decide +kernel
theorem d_Ma_spend_28 : decode b_Ma_spend 28 = .ok (.putfield 73, 3) := by decide +kernel
theorem d_Ma_spend_31 : decode b_Ma_spend 31 = .ok (.aload_n 0, 1) := by decide +kernel
theorem d_Ma_spend_32 : decode b_Ma_spend 32 = .ok (.sipush 2064, 3) := by decide +kernel
theorem d_Ma_spend_35 : decode b_Ma_spend 35 = .ok (.putfield 76, 3) := by decide +kernel
theorem d_Ma_spend_38 : decode b_Ma_spend 38 = .ok (.return_, 1) := by decide +kernel
abbrev rm_Ma_spend_z1z4 : Room := { frames := 0, cells := 0, slots := 0, locals := 0 }
abbrev q_Ma_spend_z1z4 (D : va_G) (cy : Nat → ClassId) (A : Nat → Prop) (o : Nat) (v_o_sha : Value) (r_signatures : Value) (v_o_ripemd : Value) (v_a_data : Value) (v_a_scriptEnd : Value) (v_a_main : Value) (v_a_other : Value) (v_a_taken : Value) (r_layout : Value) (r_coin : Value) (i_otherHeight : Int32) (i_ops : Int32) (i_ifs : Int32) (i_ifsNotTaken : Int32) (res : Int32 × Int32 × Int32 × Int32 × Int32) : Array Value → State → Outcome → State → Prop := va_Qv (fun (_ : Unit) => True) (fun _ t => Po D cy A [(o, .inr (6, [v_o_sha, r_signatures, v_o_ripemd, v_a_data, v_a_scriptEnd, v_a_main, v_a_other, v_a_taken, .int res.1, .int i_otherHeight, .int i_ops, .int i_ifs, .int i_ifsNotTaken, .int res.2.1, .null, .int res.2.2.1, .int res.2.2.2.1, .null, .int res.2.2.2.2]))] t) A
def I_Ma_spend_z1z4_e (p : Program) (l : Launch) (e : Env) (s : State) (m : MethodId) (args : Array Value) (below : List Frame) (meth : Method) (c : Code) (D : va_G) (cy : Nat → ClassId) (A : Nat → Prop) (ad : Nat → Nat) (o : Nat) (v_o_sha : Value) (r_signatures : Value) (v_o_ripemd : Value) (v_a_data : Value) (v_a_scriptEnd : Value) (v_a_main : Value) (v_a_other : Value) (v_a_taken : Value) (r_layout : Value) (r_coin : Value) (i_otherHeight : Int32) (i_ops : Int32) (i_ifs : Int32) (i_ifsNotTaken : Int32) (k : Int32 → Int32 → Int32 → Int32 → Int32 → Int32 → Int32 → Option (Int32 × Int32 × Int32 × Int32 × Int32)) : Prop :=
  ∀ (a2 : Int32) (a3 : Int32) (u0 : Int32) (u1 : Int32) (u2 : Int32) (u3 : Int32) (u4 : Int32) (res : Int32 × Int32 × Int32 × Int32 × Int32), k a2 a3 u0 u1 u2 u3 u4 = some res → ∀ (H : Heap) (locs : List Loc) (ls : Array Slot), va_P D classes [(o, .inr (6, [v_o_sha, r_signatures, v_o_ripemd, v_a_data, v_a_scriptEnd, v_a_main, v_a_other, v_a_taken, .int u0, .int i_otherHeight, .int i_ops, .int i_ifs, .int i_ifsNotTaken, .int u1, r_layout, .int u2, .int u3, r_coin, .int u4]))] H → va_D A [(o, .inr (6, [v_o_sha, r_signatures, v_o_ripemd, v_a_data, v_a_scriptEnd, v_a_main, v_a_other, v_a_taken, .int u0, .int i_otherHeight, .int i_ops, .int i_ifs, .int i_ifsNotTaken, .int u1, r_layout, .int u2, .int u3, r_coin, .int u4]))] → va_S A s.heap H locs → lv_has ls 5 [(0, .ref o), (1, .null), (2, .int a2), (3, .int a3), (4, .null)] → W p l e rm_Ma_spend_z1z4 s m args below meth c H locs 0 0 (MQ below (q_Ma_spend_z1z4 D cy A o v_o_sha r_signatures v_o_ripemd v_a_data v_a_scriptEnd v_a_main v_a_other v_a_taken r_layout r_coin i_otherHeight i_ops i_ifs i_ifsNotTaken res) args s 0 0 A) (F0 m 0 ls [])
set_option maxHeartbeats 8000000 in
set_option maxRecDepth 100000 in
theorem we_Ma_spend_z1z4 {p : Program} {l : Launch} {e : Env} {s : State} {m : MethodId} {args : Array Value} {below : List Frame} {meth : Method} {c : Code} {D : va_G} {cy : Nat → ClassId} {A : Nat → Prop} {ad : Nat → Nat} {o : Nat} {v_o_sha : Value} {r_signatures : Value} {v_o_ripemd : Value} {v_a_data : Value} {v_a_scriptEnd : Value} {v_a_main : Value} {v_a_other : Value} {v_a_taken : Value} {r_layout : Value} {r_coin : Value} {i_otherHeight : Int32} {i_ops : Int32} {i_ifs : Int32} {i_ifsNotTaken : Int32} {fu : Nat} (F : Fx p s m args meth c b_Ma_spend 5 "CoinKeeper$Machine" "spend" none D cy ad A) : I_Ma_spend_z1z4_e p l e s m args below meth c D cy A ad o v_o_sha r_signatures v_o_ripemd v_a_data v_a_scriptEnd v_a_main v_a_other v_a_taken r_layout r_coin i_otherHeight i_ops i_ifs i_ifsNotTaken (x_Ma_spend_z1z4 fu i_otherHeight i_ops i_ifs i_ifsNotTaken) := by
  obtain ⟨hx, hb, hr, hml, hown, hts, hlocks, hK, hA, hSt, hnm, hex⟩ := id F
  intro a2 a3 u0 u1 u2 u3 u4 res hf H locs ls hP hD hS hl
  unfold x_Ma_spend_z1z4 at hf
  refine lv_aload_n hx hb d_Ma_spend_0 rfl (lv_at hl 0 rfl) ?_
  refine lv_aload_nN hx hb d_Ma_spend_1 rfl (lv_at hl 1 rfl) ?_
  refine va_put (D := D) (ci := 6) (v := .null) (ty := .object "CoinKeeper$Layout") (C := "CoinKeeper$Machine") (T := F_6) (N := 19) hx hb hts i_6 t_6 t_6_ok n_6 hown hK hP hD hS 0 rfl rfl 14 (by decide) (hts _ gw_218) (fun _ h9 => h9) rfl (by decide +kernel) rfl rfl (Nat.le_of_ble_eq_true rfl) d_Ma_spend_2 (fun H locs hP hD hS => ?_)
  have hP : va_P D classes [(o, .inr (6, [v_o_sha, r_signatures, v_o_ripemd, v_a_data, v_a_scriptEnd, v_a_main, v_a_other, v_a_taken, .int u0, .int i_otherHeight, .int i_ops, .int i_ifs, .int i_ifsNotTaken, .int u1, .null, .int u2, .int u3, r_coin, .int u4]))] H := hP
  have hD : va_D A [(o, .inr (6, [v_o_sha, r_signatures, v_o_ripemd, v_a_data, v_a_scriptEnd, v_a_main, v_a_other, v_a_taken, .int u0, .int i_otherHeight, .int i_ops, .int i_ifs, .int i_ifsNotTaken, .int u1, .null, .int u2, .int u3, r_coin, .int u4]))] := hD
  refine lv_aload_n hx hb d_Ma_spend_5 rfl (lv_at hl 0 rfl) ?_
  refine lv_iload_n hx hb d_Ma_spend_6 rfl (lv_at hl 2 rfl) ?_
  refine va_put (D := D) (ci := 6) (v := .int a2) (ty := .int) (C := "CoinKeeper$Machine") (T := F_6) (N := 19) hx hb hts i_6 t_6 t_6_ok n_6 hown hK hP hD hS 0 rfl rfl 15 (by decide) (hts _ gw_219) (fun _ h9 => h9) rfl (by decide +kernel) rfl rfl (Nat.le_of_ble_eq_true rfl) d_Ma_spend_7 (fun H locs hP hD hS => ?_)
  have hP : va_P D classes [(o, .inr (6, [v_o_sha, r_signatures, v_o_ripemd, v_a_data, v_a_scriptEnd, v_a_main, v_a_other, v_a_taken, .int u0, .int i_otherHeight, .int i_ops, .int i_ifs, .int i_ifsNotTaken, .int u1, .null, .int a2, .int u3, r_coin, .int u4]))] H := hP
  have hD : va_D A [(o, .inr (6, [v_o_sha, r_signatures, v_o_ripemd, v_a_data, v_a_scriptEnd, v_a_main, v_a_other, v_a_taken, .int u0, .int i_otherHeight, .int i_ops, .int i_ifs, .int i_ifsNotTaken, .int u1, .null, .int a2, .int u3, r_coin, .int u4]))] := hD
  refine lv_aload_n hx hb d_Ma_spend_10 rfl (lv_at hl 0 rfl) ?_
  refine lv_iload_n hx hb d_Ma_spend_11 rfl (lv_at hl 3 rfl) ?_
  refine va_put (D := D) (ci := 6) (v := .int a3) (ty := .int) (C := "CoinKeeper$Machine") (T := F_6) (N := 19) hx hb hts i_6 t_6 t_6_ok n_6 hown hK hP hD hS 0 rfl rfl 16 (by decide) (hts _ gw_220) (fun _ h9 => h9) rfl (by decide +kernel) rfl rfl (Nat.le_of_ble_eq_true rfl) d_Ma_spend_12 (fun H locs hP hD hS => ?_)
  have hP : va_P D classes [(o, .inr (6, [v_o_sha, r_signatures, v_o_ripemd, v_a_data, v_a_scriptEnd, v_a_main, v_a_other, v_a_taken, .int u0, .int i_otherHeight, .int i_ops, .int i_ifs, .int i_ifsNotTaken, .int u1, .null, .int a2, .int a3, r_coin, .int u4]))] H := hP
  have hD : va_D A [(o, .inr (6, [v_o_sha, r_signatures, v_o_ripemd, v_a_data, v_a_scriptEnd, v_a_main, v_a_other, v_a_taken, .int u0, .int i_otherHeight, .int i_ops, .int i_ifs, .int i_ifsNotTaken, .int u1, .null, .int a2, .int a3, r_coin, .int u4]))] := hD
  refine lv_aload_n hx hb d_Ma_spend_15 rfl (lv_at hl 0 rfl) ?_
  refine lv_aloadN hx hb d_Ma_spend_16 (lv_at hl 4 rfl) ?_
  refine va_put (D := D) (ci := 6) (v := .null) (ty := .object "CoinKeeper$Coin") (C := "CoinKeeper$Machine") (T := F_6) (N := 19) hx hb hts i_6 t_6 t_6_ok n_6 hown hK hP hD hS 0 rfl rfl 17 (by decide) (hts _ gw_221) (fun _ h9 => h9) rfl (by decide +kernel) rfl rfl (Nat.le_of_ble_eq_true rfl) d_Ma_spend_18 (fun H locs hP hD hS => ?_)
  have hP : va_P D classes [(o, .inr (6, [v_o_sha, r_signatures, v_o_ripemd, v_a_data, v_a_scriptEnd, v_a_main, v_a_other, v_a_taken, .int u0, .int i_otherHeight, .int i_ops, .int i_ifs, .int i_ifsNotTaken, .int u1, .null, .int a2, .int a3, .null, .int u4]))] H := hP
  have hD : va_D A [(o, .inr (6, [v_o_sha, r_signatures, v_o_ripemd, v_a_data, v_a_scriptEnd, v_a_main, v_a_other, v_a_taken, .int u0, .int i_otherHeight, .int i_ops, .int i_ifs, .int i_ifsNotTaken, .int u1, .null, .int a2, .int a3, .null, .int u4]))] := hD
  refine lv_aload_n hx hb d_Ma_spend_21 rfl (lv_at hl 0 rfl) ?_
  refine lv_iconst (v := 0) hx hb d_Ma_spend_22 (by decide) ?_
  refine va_put (D := D) (ci := 6) (v := .int (0 : Int32)) (ty := .boolean) (C := "CoinKeeper$Machine") (T := F_6) (N := 19) hx hb hts i_6 t_6 t_6_ok n_6 hown hK hP hD hS 0 rfl rfl 18 (by decide) (hts _ gw_222) (fun _ h9 => h9) rfl (by decide +kernel) (isb_n (v := 0) (by decide)) (isb_f (v := 0) (by decide)) (Nat.le_of_ble_eq_true rfl) d_Ma_spend_23 (fun H locs hP hD hS => ?_)
  have hP : va_P D classes [(o, .inr (6, [v_o_sha, r_signatures, v_o_ripemd, v_a_data, v_a_scriptEnd, v_a_main, v_a_other, v_a_taken, .int u0, .int i_otherHeight, .int i_ops, .int i_ifs, .int i_ifsNotTaken, .int u1, .null, .int a2, .int a3, .null, .int (0 : Int32)]))] H := hP
  have hD : va_D A [(o, .inr (6, [v_o_sha, r_signatures, v_o_ripemd, v_a_data, v_a_scriptEnd, v_a_main, v_a_other, v_a_taken, .int u0, .int i_otherHeight, .int i_ops, .int i_ifs, .int i_ifsNotTaken, .int u1, .null, .int a2, .int a3, .null, .int (0 : Int32)]))] := hD
  refine lv_aload_n hx hb d_Ma_spend_26 rfl (lv_at hl 0 rfl) ?_
  refine lv_iconst (v := 0) hx hb d_Ma_spend_27 (by decide) ?_
  refine va_put (D := D) (ci := 6) (v := .int (0 : Int32)) (ty := .int) (C := "CoinKeeper$Machine") (T := F_6) (N := 19) hx hb hts i_6 t_6 t_6_ok n_6 hown hK hP hD hS 0 rfl rfl 8 (by decide) (hts _ gw_212) (fun _ h9 => h9) rfl (by decide +kernel) rfl rfl (Nat.le_of_ble_eq_true rfl) d_Ma_spend_28 (fun H locs hP hD hS => ?_)
  have hP : va_P D classes [(o, .inr (6, [v_o_sha, r_signatures, v_o_ripemd, v_a_data, v_a_scriptEnd, v_a_main, v_a_other, v_a_taken, .int (0 : Int32), .int i_otherHeight, .int i_ops, .int i_ifs, .int i_ifsNotTaken, .int u1, .null, .int a2, .int a3, .null, .int (0 : Int32)]))] H := hP
  have hD : va_D A [(o, .inr (6, [v_o_sha, r_signatures, v_o_ripemd, v_a_data, v_a_scriptEnd, v_a_main, v_a_other, v_a_taken, .int (0 : Int32), .int i_otherHeight, .int i_ops, .int i_ifs, .int i_ifsNotTaken, .int u1, .null, .int a2, .int a3, .null, .int (0 : Int32)]))] := hD
  refine lv_aload_n hx hb d_Ma_spend_31 rfl (lv_at hl 0 rfl) ?_
  refine lv_sipush (v := 2064) hx hb d_Ma_spend_32 (by decide) ?_
  refine va_put (D := D) (ci := 6) (v := .int (2064 : Int32)) (ty := .int) (C := "CoinKeeper$Machine") (T := F_6) (N := 19) hx hb hts i_6 t_6 t_6_ok n_6 hown hK hP hD hS 0 rfl rfl 13 (by decide) (hts _ gw_217) (fun _ h9 => h9) rfl (by decide +kernel) rfl rfl (Nat.le_of_ble_eq_true rfl) d_Ma_spend_35 (fun H locs hP hD hS => ?_)
  have hP : va_P D classes [(o, .inr (6, [v_o_sha, r_signatures, v_o_ripemd, v_a_data, v_a_scriptEnd, v_a_main, v_a_other, v_a_taken, .int (0 : Int32), .int i_otherHeight, .int i_ops, .int i_ifs, .int i_ifsNotTaken, .int (2064 : Int32), .null, .int a2, .int a3, .null, .int (0 : Int32)]))] H := hP
  have hD : va_D A [(o, .inr (6, [v_o_sha, r_signatures, v_o_ripemd, v_a_data, v_a_scriptEnd, v_a_main, v_a_other, v_a_taken, .int (0 : Int32), .int i_otherHeight, .int i_ops, .int i_ifs, .int i_ifsNotTaken, .int (2064 : Int32), .null, .int a2, .int a3, .null, .int (0 : Int32)]))] := hD
  obtain rfl := Option.some.inj hf
  exact q_rv hx hb hr hlocks hK hP hD hS d_Ma_spend_38
theorem c_Ma_spend_z1z4 (l : Launch) (D : va_G) (cy : Nat → ClassId) (ad : Nat → Nat) (fu : Nat) (o : Nat) (v_o_sha : Value) (r_signatures : Value) (v_o_ripemd : Value) (v_a_data : Value) (v_a_scriptEnd : Value) (v_a_main : Value) (v_a_other : Value) (v_a_taken : Value) (r_layout : Value) (r_coin : Value) (i_otherHeight : Int32) (i_ops : Int32) (i_ifs : Int32) (i_ifsNotTaken : Int32) (a2 : Int32) (a3 : Int32) (u0 : Int32) (u1 : Int32) (u2 : Int32) (u3 : Int32) (u4 : Int32) (res : Int32 × Int32 × Int32 × Int32 × Int32) (hf : x_Ma_spend_z1z4 fu i_otherHeight i_ops i_ifs i_ifsNotTaken a2 a3 u0 u1 u2 u3 u4 = some res) (sz : Nat) : Met l ({ cls := "CoinKeeper$Machine", name := "spend", desc := "(LCoinKeeper$Layout;IILCoinKeeper$Coin;)V" } : Jvm.MethodName) (.code ({ cls := "CoinKeeper$Machine", name := "spend", desc := "(LCoinKeeper$Layout;IILCoinKeeper$Coin;)V" } : Jvm.MethodName) b_Ma_spend 5 none :: gw) rm_Ma_spend_z1z4 (va_Pc [.ref o, .null, .int a2, .int a3, .null] (Pr D cy ad [(o, .inr (6, [v_o_sha, r_signatures, v_o_ripemd, v_a_data, v_a_scriptEnd, v_a_main, v_a_other, v_a_taken, .int u0, .int i_otherHeight, .int i_ops, .int i_ifs, .int i_ifsNotTaken, .int u1, r_layout, .int u2, .int u3, r_coin, .int u4]))] sz)) (q_Ma_spend_z1z4 D cy (va_A [(o, .inr (6, [v_o_sha, r_signatures, v_o_ripemd, v_a_data, v_a_scriptEnd, v_a_main, v_a_other, v_a_taken, .int u0, .int i_otherHeight, .int i_ops, .int i_ifs, .int i_ifsNotTaken, .int u1, r_layout, .int u2, .int u3, r_coin, .int u4]))] sz) o v_o_sha r_signatures v_o_ripemd v_a_data v_a_scriptEnd v_a_main v_a_other v_a_taken r_layout r_coin i_otherHeight i_ops i_ifs i_ifsNotTaken res) 0 0 (va_A [(o, .inr (6, [v_o_sha, r_signatures, v_o_ripemd, v_a_data, v_a_scriptEnd, v_a_main, v_a_other, v_a_taken, .int u0, .int i_otherHeight, .int i_ops, .int i_ifs, .int i_ifsNotTaken, .int u1, r_layout, .int u2, .int u3, r_coin, .int u4]))] sz) :=
  q_met (Qc := fun A => q_Ma_spend_z1z4 D cy A o v_o_sha r_signatures v_o_ripemd v_a_data v_a_scriptEnd v_a_main v_a_other v_a_taken r_layout r_coin i_otherHeight i_ops i_ifs i_ifsNotTaken res) (by decide) rfl rfl (Nat.le_of_ble_eq_true rfl) (fun p e s m below meth c ls F hP hD hS hl => we_Ma_spend_z1z4 (fu := fu) F a2 a3 u0 u1 u2 u3 u4 res hf _ _ _ hP hD hS hl) sz
abbrev b_Ma_spendNothing : ByteArray := prog_7_method_3_code
theorem d_Ma_spendNothing_0 : decode b_Ma_spendNothing 0 = .ok (.aload_n 0, 1) := by decide +kernel
theorem d_Ma_spendNothing_1 : decode b_Ma_spendNothing 1 = .ok (.aconst_null, 1) := by decide +kernel
theorem d_Ma_spendNothing_2 : decode b_Ma_spendNothing 2 = .ok (.iconst 0, 1) := by decide +kernel
theorem d_Ma_spendNothing_3 : decode b_Ma_spendNothing 3 = .ok (.iconst 0, 1) := by decide +kernel
theorem d_Ma_spendNothing_4 : decode b_Ma_spendNothing 4 = .ok (.aconst_null, 1) := by decide +kernel
theorem d_Ma_spendNothing_5 : decode b_Ma_spendNothing 5 = .ok (.invokevirtual 50, 3) := by decide +kernel
theorem d_Ma_spendNothing_8 : decode b_Ma_spendNothing 8 = .ok (.return_, 1) := by decide +kernel
abbrev rm_Ma_spendNothing : Room := { frames := 1, cells := 0, slots := 0, locals := 24 }
abbrev q_Ma_spendNothing (D : va_G) (cy : Nat → ClassId) (A : Nat → Prop) (o : Nat) (v_o_sha : Value) (r_signatures : Value) (v_o_ripemd : Value) (v_a_data : Value) (v_a_scriptEnd : Value) (v_a_main : Value) (v_a_other : Value) (v_a_taken : Value) (r_layout : Value) (r_coin : Value) (i_otherHeight : Int32) (i_ops : Int32) (i_ifs : Int32) (i_ifsNotTaken : Int32) (res : Int32 × Int32 × Int32 × Int32 × Int32) : Array Value → State → Outcome → State → Prop := va_Qv (fun (_ : Unit) => True) (fun _ t => Po D cy A [(o, .inr (6, [v_o_sha, r_signatures, v_o_ripemd, v_a_data, v_a_scriptEnd, v_a_main, v_a_other, v_a_taken, .int res.1, .int i_otherHeight, .int i_ops, .int i_ifs, .int i_ifsNotTaken, .int res.2.1, .null, .int res.2.2.1, .int res.2.2.2.1, .null, .int res.2.2.2.2]))] t) A
def I_Ma_spendNothing_e (p : Program) (l : Launch) (e : Env) (s : State) (m : MethodId) (args : Array Value) (below : List Frame) (meth : Method) (c : Code) (D : va_G) (cy : Nat → ClassId) (A : Nat → Prop) (ad : Nat → Nat) (o : Nat) (v_o_sha : Value) (r_signatures : Value) (v_o_ripemd : Value) (v_a_data : Value) (v_a_scriptEnd : Value) (v_a_main : Value) (v_a_other : Value) (v_a_taken : Value) (r_layout : Value) (r_coin : Value) (i_otherHeight : Int32) (i_ops : Int32) (i_ifs : Int32) (i_ifsNotTaken : Int32) (k : Int32 → Int32 → Int32 → Int32 → Int32 → Option (Int32 × Int32 × Int32 × Int32 × Int32)) : Prop :=
  ∀ (u0 : Int32) (u1 : Int32) (u2 : Int32) (u3 : Int32) (u4 : Int32) (res : Int32 × Int32 × Int32 × Int32 × Int32), k u0 u1 u2 u3 u4 = some res → ∀ (H : Heap) (locs : List Loc) (ls : Array Slot), va_P D classes [(o, .inr (6, [v_o_sha, r_signatures, v_o_ripemd, v_a_data, v_a_scriptEnd, v_a_main, v_a_other, v_a_taken, .int u0, .int i_otherHeight, .int i_ops, .int i_ifs, .int i_ifsNotTaken, .int u1, r_layout, .int u2, .int u3, r_coin, .int u4]))] H → va_D A [(o, .inr (6, [v_o_sha, r_signatures, v_o_ripemd, v_a_data, v_a_scriptEnd, v_a_main, v_a_other, v_a_taken, .int u0, .int i_otherHeight, .int i_ops, .int i_ifs, .int i_ifsNotTaken, .int u1, r_layout, .int u2, .int u3, r_coin, .int u4]))] → va_S A s.heap H locs → lv_has ls 1 [(0, .ref o)] → W p l e rm_Ma_spendNothing s m args below meth c H locs 0 0 (MQ below (q_Ma_spendNothing D cy A o v_o_sha r_signatures v_o_ripemd v_a_data v_a_scriptEnd v_a_main v_a_other v_a_taken r_layout r_coin i_otherHeight i_ops i_ifs i_ifsNotTaken res) args s 0 0 A) (F0 m 0 ls [])
theorem hdc_38 : ({ cls := "CoinKeeper$Machine", name := "spend", desc := "(LCoinKeeper$Layout;IILCoinKeeper$Coin;)V" } : Jvm.MethodName).cls ≠ "java/lang/invoke/MethodHandle" ∧ ({ cls := "CoinKeeper$Machine", name := "spend", desc := "(LCoinKeeper$Layout;IILCoinKeeper$Coin;)V" } : Jvm.MethodName).cls ≠ "java/lang/invoke/VarHandle" ∧ (parseMethodDescriptor ({ cls := "CoinKeeper$Machine", name := "spend", desc := "(LCoinKeeper$Layout;IILCoinKeeper$Coin;)V" } : Jvm.MethodName).desc).map (fun d => d.parameters.length) = some 4 := by decide +kernel
set_option maxHeartbeats 8000000 in
set_option maxRecDepth 100000 in
theorem we_Ma_spendNothing {p : Program} {l : Launch} {e : Env} {s : State} {m : MethodId} {args : Array Value} {below : List Frame} {meth : Method} {c : Code} {D : va_G} {cy : Nat → ClassId} {A : Nat → Prop} {ad : Nat → Nat} {o : Nat} {v_o_sha : Value} {r_signatures : Value} {v_o_ripemd : Value} {v_a_data : Value} {v_a_scriptEnd : Value} {v_a_main : Value} {v_a_other : Value} {v_a_taken : Value} {r_layout : Value} {r_coin : Value} {i_otherHeight : Int32} {i_ops : Int32} {i_ifs : Int32} {i_ifsNotTaken : Int32} {fu : Nat} (F : Fx p s m args meth c b_Ma_spendNothing 1 "CoinKeeper$Machine" "spendNothing" none D cy ad A) : I_Ma_spendNothing_e p l e s m args below meth c D cy A ad o v_o_sha r_signatures v_o_ripemd v_a_data v_a_scriptEnd v_a_main v_a_other v_a_taken r_layout r_coin i_otherHeight i_ops i_ifs i_ifsNotTaken (x_Ma_spendNothing fu i_otherHeight i_ops i_ifs i_ifsNotTaken) := by
  obtain ⟨hx, hb, hr, hml, hown, hts, hlocks, hK, hA, hSt, hnm, hex⟩ := id F
  intro u0 u1 u2 u3 u4 res hf H locs ls hP hD hS hl
  unfold x_Ma_spendNothing at hf
  refine lv_aload_n hx hb d_Ma_spendNothing_0 rfl (lv_at hl 0 rfl) ?_
  refine lv_null hx hb d_Ma_spendNothing_1 ?_
  refine lv_iconst (v := 0) hx hb d_Ma_spendNothing_2 (by decide) ?_
  refine lv_iconst (v := 0) hx hb d_Ma_spendNothing_3 (by decide) ?_
  refine lv_null hx hb d_Ma_spendNothing_4 ?_
  obtain ⟨e1, e2, e3, e4, e5, hc, hf⟩ := bdp5 hf
  refine q_av (wr := []) (va_runV (C := "CoinKeeper$Machine") (As := [.null, .int (0 : Int32), .int (0 : Int32), .null]) (rest := []) ⟨hx, hb, hml, hown, hts⟩ (c_Ma_spend_z1z4 l D cy ad fu o v_o_sha r_signatures v_o_ripemd v_a_data v_a_scriptEnd v_a_main v_a_other v_a_taken r_layout r_coin i_otherHeight i_ops i_ifs i_ifsNotTaken (0 : Int32) (0 : Int32) u0 u1 u2 u3 u4 _ hc H.size) ⟨q_cB hts gw_980 gw_6 gw_1291 hdc_38 ⟨by decide, by decide⟩, hts _ gw_978, hts _ gw_979⟩ (q_preV (q_pre (hP.sub [0] rfl) (hD.sub [0] (by decide) rfl) hK hSt hS (va_free hD hS hA [0] rfl) _) (va_recv hK (hP.sub [0] rfl) (ci := 6) (q0 := 0) rfl rfl)) rfl rfl hl.1 rfl (lv_room (Nat.le_of_ble_eq_true rfl)) d_Ma_spendNothing_5 ⟨Nat.le_of_ble_eq_true rfl, Nat.le_of_ble_eq_true rfl⟩) hP hD hS hA [0] [] rfl rfl (by decide) (by decide) (fun H locs hP hD hS => ?_)
  clear hc
  have hP : va_P D classes [(o, .inr (6, [v_o_sha, r_signatures, v_o_ripemd, v_a_data, v_a_scriptEnd, v_a_main, v_a_other, v_a_taken, .int e1, .int i_otherHeight, .int i_ops, .int i_ifs, .int i_ifsNotTaken, .int e2, .null, .int e3, .int e4, .null, .int e5]))] H := hP
  have hD : va_D A [(o, .inr (6, [v_o_sha, r_signatures, v_o_ripemd, v_a_data, v_a_scriptEnd, v_a_main, v_a_other, v_a_taken, .int e1, .int i_otherHeight, .int i_ops, .int i_ifs, .int i_ifsNotTaken, .int e2, .null, .int e3, .int e4, .null, .int e5]))] := hD
  obtain rfl := Option.some.inj hf
  exact q_rv hx hb hr hlocks hK hP hD hS d_Ma_spendNothing_8
theorem c_Ma_spendNothing (l : Launch) (D : va_G) (cy : Nat → ClassId) (ad : Nat → Nat) (fu : Nat) (o : Nat) (v_o_sha : Value) (r_signatures : Value) (v_o_ripemd : Value) (v_a_data : Value) (v_a_scriptEnd : Value) (v_a_main : Value) (v_a_other : Value) (v_a_taken : Value) (r_layout : Value) (r_coin : Value) (i_otherHeight : Int32) (i_ops : Int32) (i_ifs : Int32) (i_ifsNotTaken : Int32) (u0 : Int32) (u1 : Int32) (u2 : Int32) (u3 : Int32) (u4 : Int32) (res : Int32 × Int32 × Int32 × Int32 × Int32) (hf : x_Ma_spendNothing fu i_otherHeight i_ops i_ifs i_ifsNotTaken u0 u1 u2 u3 u4 = some res) (sz : Nat) : Met l ({ cls := "CoinKeeper$Machine", name := "spendNothing", desc := "()V" } : Jvm.MethodName) (.code ({ cls := "CoinKeeper$Machine", name := "spendNothing", desc := "()V" } : Jvm.MethodName) b_Ma_spendNothing 1 none :: gw) rm_Ma_spendNothing (va_Pc [.ref o] (Pr D cy ad [(o, .inr (6, [v_o_sha, r_signatures, v_o_ripemd, v_a_data, v_a_scriptEnd, v_a_main, v_a_other, v_a_taken, .int u0, .int i_otherHeight, .int i_ops, .int i_ifs, .int i_ifsNotTaken, .int u1, r_layout, .int u2, .int u3, r_coin, .int u4]))] sz)) (q_Ma_spendNothing D cy (va_A [(o, .inr (6, [v_o_sha, r_signatures, v_o_ripemd, v_a_data, v_a_scriptEnd, v_a_main, v_a_other, v_a_taken, .int u0, .int i_otherHeight, .int i_ops, .int i_ifs, .int i_ifsNotTaken, .int u1, r_layout, .int u2, .int u3, r_coin, .int u4]))] sz) o v_o_sha r_signatures v_o_ripemd v_a_data v_a_scriptEnd v_a_main v_a_other v_a_taken r_layout r_coin i_otherHeight i_ops i_ifs i_ifsNotTaken res) 0 0 (va_A [(o, .inr (6, [v_o_sha, r_signatures, v_o_ripemd, v_a_data, v_a_scriptEnd, v_a_main, v_a_other, v_a_taken, .int u0, .int i_otherHeight, .int i_ops, .int i_ifs, .int i_ifsNotTaken, .int u1, r_layout, .int u2, .int u3, r_coin, .int u4]))] sz) :=
  q_met (Qc := fun A => q_Ma_spendNothing D cy A o v_o_sha r_signatures v_o_ripemd v_a_data v_a_scriptEnd v_a_main v_a_other v_a_taken r_layout r_coin i_otherHeight i_ops i_ifs i_ifsNotTaken res) (by decide) rfl rfl (Nat.le_of_ble_eq_true rfl) (fun p e s m below meth c ls F hP hD hS hl => we_Ma_spendNothing (fu := fu) F u0 u1 u2 u3 u4 res hf _ _ _ hP hD hS hl) sz
abbrev b_Ma_placeOf : ByteArray := prog_7_method_10_code
theorem d_Ma_placeOf_0 : decode b_Ma_placeOf 0 = .ok (.iload_n 0, 1) := by decide +kernel
theorem d_Ma_placeOf_1 : decode b_Ma_placeOf 1 = .ok (.bipush 8, 2) := by decide +kernel
theorem d_Ma_placeOf_3 : decode b_Ma_placeOf 3 = .ok (.iushr, 1) := by decide +kernel
theorem d_Ma_placeOf_4 : decode b_Ma_placeOf 4 = .ok (.ireturn, 1) := by decide +kernel
abbrev rm_Ma_placeOf : Room := { frames := 0, cells := 0, slots := 0, locals := 0 }
abbrev q_Ma_placeOf (D : va_G) (cy : Nat → ClassId) (A : Nat → Prop) (res : Int32) : Array Value → State → Outcome → State → Prop := va_Qi (fun r' (_ : Unit) => r' = res) (fun _ t => Po D cy A [] t) A
def I_Ma_placeOf_e (p : Program) (l : Launch) (e : Env) (s : State) (m : MethodId) (args : Array Value) (below : List Frame) (meth : Method) (c : Code) (D : va_G) (cy : Nat → ClassId) (A : Nat → Prop) (ad : Nat → Nat) (k : Int32 → Option (Int32)) : Prop :=
  ∀ (a0 : Int32) (res : Int32), k a0 = some res → ∀ (H : Heap) (locs : List Loc) (ls : Array Slot), va_P D classes [] H → va_D A [] → va_S A s.heap H locs → lv_has ls 1 [(0, .int a0)] → W p l e rm_Ma_placeOf s m args below meth c H locs 0 0 (MQ below (q_Ma_placeOf D cy A res) args s 0 0 A) (F0 m 0 ls [])
set_option maxHeartbeats 8000000 in
set_option maxRecDepth 100000 in
theorem we_Ma_placeOf {p : Program} {l : Launch} {e : Env} {s : State} {m : MethodId} {args : Array Value} {below : List Frame} {meth : Method} {c : Code} {D : va_G} {cy : Nat → ClassId} {A : Nat → Prop} {ad : Nat → Nat} {fu : Nat} (F : Fx p s m args meth c b_Ma_placeOf 1 "CoinKeeper$Machine" "placeOf" (some .int) D cy ad A) : I_Ma_placeOf_e p l e s m args below meth c D cy A ad (x_Ma_placeOf fu) := by
  obtain ⟨hx, hb, hr, hml, hown, hts, hlocks, hK, hA, hSt, hnm, hex⟩ := id F
  intro a0 res hf H locs ls hP hD hS hl
  unfold x_Ma_placeOf at hf
  refine lv_iload_n hx hb d_Ma_placeOf_0 rfl (lv_at hl 0 rfl) ?_
  refine lv_bipush (v := 8) hx hb d_Ma_placeOf_1 (by decide) ?_
  refine lv_iushr hx hb d_Ma_placeOf_3 rfl ?_
  refine lv_topi (fun v1 ev => ?_)
  have hf := bn ev hf
  clear ev
  obtain rfl := Option.some.inj hf
  exact q_ri hx hb hr hlocks hK hP hD hS d_Ma_placeOf_4
theorem c_Ma_placeOf (l : Launch) (D : va_G) (cy : Nat → ClassId) (ad : Nat → Nat) (fu : Nat) (a0 : Int32) (res : Int32) (hf : x_Ma_placeOf fu a0 = some res) (sz : Nat) : Met l ({ cls := "CoinKeeper$Machine", name := "placeOf", desc := "(I)I" } : Jvm.MethodName) (.code ({ cls := "CoinKeeper$Machine", name := "placeOf", desc := "(I)I" } : Jvm.MethodName) b_Ma_placeOf 1 (some .int) :: gw) rm_Ma_placeOf (va_Pc [.int a0] (Pr D cy ad [] sz)) (q_Ma_placeOf D cy (va_A [] sz) res) 0 0 (va_A [] sz) :=
  q_met (Qc := fun A => q_Ma_placeOf D cy A res) (by decide) rfl rfl (Nat.le_of_ble_eq_true rfl) (fun p e s m below meth c ls F hP hD hS hl => we_Ma_placeOf (fu := fu) F a0 res hf _ _ _ hP hD hS hl) sz
abbrev b_Ma_lengthOf : ByteArray := prog_7_method_9_code
theorem d_Ma_lengthOf_0 : decode b_Ma_lengthOf 0 = .ok (.iload_n 0, 1) := by decide +kernel
theorem d_Ma_lengthOf_1 : decode b_Ma_lengthOf 1 = .ok (.sipush 255, 3) := by decide +kernel
theorem d_Ma_lengthOf_4 : decode b_Ma_lengthOf 4 = .ok (.iand, 1) := by decide +kernel
theorem d_Ma_lengthOf_5 : decode b_Ma_lengthOf 5 = .ok (.ireturn, 1) := by decide +kernel
abbrev rm_Ma_lengthOf : Room := { frames := 0, cells := 0, slots := 0, locals := 0 }
abbrev q_Ma_lengthOf (D : va_G) (cy : Nat → ClassId) (A : Nat → Prop) (res : Int32) : Array Value → State → Outcome → State → Prop := va_Qi (fun r' (_ : Unit) => r' = res) (fun _ t => Po D cy A [] t) A
def I_Ma_lengthOf_e (p : Program) (l : Launch) (e : Env) (s : State) (m : MethodId) (args : Array Value) (below : List Frame) (meth : Method) (c : Code) (D : va_G) (cy : Nat → ClassId) (A : Nat → Prop) (ad : Nat → Nat) (k : Int32 → Option (Int32)) : Prop :=
  ∀ (a0 : Int32) (res : Int32), k a0 = some res → ∀ (H : Heap) (locs : List Loc) (ls : Array Slot), va_P D classes [] H → va_D A [] → va_S A s.heap H locs → lv_has ls 1 [(0, .int a0)] → W p l e rm_Ma_lengthOf s m args below meth c H locs 0 0 (MQ below (q_Ma_lengthOf D cy A res) args s 0 0 A) (F0 m 0 ls [])
set_option maxHeartbeats 8000000 in
set_option maxRecDepth 100000 in
theorem we_Ma_lengthOf {p : Program} {l : Launch} {e : Env} {s : State} {m : MethodId} {args : Array Value} {below : List Frame} {meth : Method} {c : Code} {D : va_G} {cy : Nat → ClassId} {A : Nat → Prop} {ad : Nat → Nat} {fu : Nat} (F : Fx p s m args meth c b_Ma_lengthOf 1 "CoinKeeper$Machine" "lengthOf" (some .int) D cy ad A) : I_Ma_lengthOf_e p l e s m args below meth c D cy A ad (x_Ma_lengthOf fu) := by
  obtain ⟨hx, hb, hr, hml, hown, hts, hlocks, hK, hA, hSt, hnm, hex⟩ := id F
  intro a0 res hf H locs ls hP hD hS hl
  unfold x_Ma_lengthOf at hf
  refine lv_iload_n hx hb d_Ma_lengthOf_0 rfl (lv_at hl 0 rfl) ?_
  refine lv_sipush (v := 255) hx hb d_Ma_lengthOf_1 (by decide) ?_
  refine lv_iand hx hb d_Ma_lengthOf_4 ?_
  refine lv_topi (fun v1 ev => ?_)
  have hf := bn ev hf
  clear ev
  obtain rfl := Option.some.inj hf
  exact q_ri hx hb hr hlocks hK hP hD hS d_Ma_lengthOf_5
theorem c_Ma_lengthOf (l : Launch) (D : va_G) (cy : Nat → ClassId) (ad : Nat → Nat) (fu : Nat) (a0 : Int32) (res : Int32) (hf : x_Ma_lengthOf fu a0 = some res) (sz : Nat) : Met l ({ cls := "CoinKeeper$Machine", name := "lengthOf", desc := "(I)I" } : Jvm.MethodName) (.code ({ cls := "CoinKeeper$Machine", name := "lengthOf", desc := "(I)I" } : Jvm.MethodName) b_Ma_lengthOf 1 (some .int) :: gw) rm_Ma_lengthOf (va_Pc [.int a0] (Pr D cy ad [] sz)) (q_Ma_lengthOf D cy (va_A [] sz) res) 0 0 (va_A [] sz) :=
  q_met (Qc := fun A => q_Ma_lengthOf D cy A res) (by decide) rfl rfl (Nat.le_of_ble_eq_true rfl) (fun p e s m below meth c ls F hP hD hS hl => we_Ma_lengthOf (fu := fu) F a0 res hf _ _ _ hP hD hS hl) sz
abbrev b_Ma_isTrue : ByteArray := prog_7_method_11_code
theorem d_Ma_isTrue_0 : decode b_Ma_isTrue 0 = .ok (.iload_n 1, 1) := by decide +kernel
theorem d_Ma_isTrue_1 : decode b_Ma_isTrue 1 = .ok (.invokestatic 117, 3) := by decide +kernel
theorem d_Ma_isTrue_4 : decode b_Ma_isTrue 4 = .ok (.iload_n 1, 1) := by decide +kernel
theorem d_Ma_isTrue_5 : decode b_Ma_isTrue 5 = .ok (.invokestatic 121, 3) := by decide +kernel
theorem d_Ma_isTrue_8 : decode b_Ma_isTrue 8 = .ok (.iadd, 1) := by decide +kernel
theorem d_Ma_isTrue_9 : decode b_Ma_isTrue 9 = .ok (.iconst 1, 1) := by decide +kernel
theorem d_Ma_isTrue_10 : decode b_Ma_isTrue 10 = .ok (.isub, 1) := by decide +kernel
theorem d_Ma_isTrue_11 : decode b_Ma_isTrue 11 = .ok (.istore_n 2, 1) := by decide +kernel
theorem d_Ma_isTrue_12 : decode b_Ma_isTrue 12 = .ok (.iload_n 1, 1) := by decide +kernel
theorem d_Ma_isTrue_13 : decode b_Ma_isTrue 13 = .ok (.invokestatic 117, 3) := by decide +kernel
theorem d_Ma_isTrue_16 : decode b_Ma_isTrue 16 = .ok (.istore_n 3, 1) := by decide +kernel
theorem d_Ma_isTrue_17 : decode b_Ma_isTrue 17 = .ok (.iload_n 3, 1) := by decide +kernel
theorem d_Ma_isTrue_18 : decode b_Ma_isTrue 18 = .ok (.iload_n 2, 1) := by decide +kernel
theorem d_Ma_isTrue_19 : decode b_Ma_isTrue 19 = .ok (.if_icmp .gt 45, 3) := by decide +kernel
theorem d_Ma_isTrue_22 : decode b_Ma_isTrue 22 = .ok (.aload_n 0, 1) := by decide +kernel
theorem d_Ma_isTrue_23 : decode b_Ma_isTrue 23 = .ok (.getfield 18, 3) := by decide +kernel
theorem d_Ma_isTrue_26 : decode b_Ma_isTrue 26 = .ok (.iload_n 3, 1) := by decide +kernel
theorem d_Ma_isTrue_27 : decode b_Ma_isTrue 27 = .ok (.baload, 1) := by decide +kernel
theorem d_Ma_isTrue_28 : decode b_Ma_isTrue 28 = .ok (.ifCond .eq 30, 3) := by decide +kernel
theorem d_Ma_isTrue_31 : decode b_Ma_isTrue 31 = .ok (.iload_n 3, 1) := by decide +kernel
theorem d_Ma_isTrue_32 : decode b_Ma_isTrue 32 = .ok (.iload_n 2, 1) := by decide +kernel
theorem d_Ma_isTrue_33 : decode b_Ma_isTrue 33 = .ok (.if_icmp .lt 19, 3) := by decide +kernel
theorem d_Ma_isTrue_36 : decode b_Ma_isTrue 36 = .ok (.aload_n 0, 1) := by decide +kernel
theorem d_Ma_isTrue_37 : decode b_Ma_isTrue 37 = .ok (.getfield 18, 3) := by decide +kernel
theorem d_Ma_isTrue_40 : decode b_Ma_isTrue 40 = .ok (.iload_n 3, 1) := by decide +kernel
theorem d_Ma_isTrue_41 : decode b_Ma_isTrue 41 = .ok (.baload, 1) := by decide +kernel
theorem d_Ma_isTrue_42 : decode b_Ma_isTrue 42 = .ok (.sipush 255, 3) := by decide +kernel
theorem d_Ma_isTrue_45 : decode b_Ma_isTrue 45 = .ok (.iand, 1) := by decide +kernel
theorem d_Ma_isTrue_46 : decode b_Ma_isTrue 46 = .ok (.sipush 128, 3) := by decide +kernel
theorem d_Ma_isTrue_49 : decode b_Ma_isTrue 49 = .ok (.if_icmp .eq 7, 3) := by decide +kernel
theorem d_Ma_isTrue_52 : decode b_Ma_isTrue 52 = .ok (.iconst 1, 1) := by decide +kernel
theorem d_Ma_isTrue_53 : decode b_Ma_isTrue 53 = .ok (.goto 4, 3) := by decide +kernel
theorem d_Ma_isTrue_56 : decode b_Ma_isTrue 56 = .ok (.iconst 0, 1) := by decide +kernel
theorem d_Ma_isTrue_57 : decode b_Ma_isTrue 57 = .ok (.ireturn, 1) := by decide +kernel
theorem d_Ma_isTrue_58 : decode b_Ma_isTrue 58 = .ok (.iinc 3 1, 3) := by decide +kernel
theorem d_Ma_isTrue_61 : decode b_Ma_isTrue 61 = .ok (.goto (-44), 3) := by decide +kernel
theorem d_Ma_isTrue_64 : decode b_Ma_isTrue 64 = .ok (.iconst 0, 1) := by decide +kernel
theorem d_Ma_isTrue_65 : decode b_Ma_isTrue 65 = .ok (.ireturn, 1) := by decide +kernel
abbrev rm_Ma_isTrue : Room := { frames := 1, cells := 0, slots := 0, locals := 20 }
abbrev q_Ma_isTrue (D : va_G) (cy : Nat → ClassId) (A : Nat → Prop) (o : Nat) (v_o_sha : Value) (r_signatures : Value) (v_o_ripemd : Value) (v_a_scriptEnd : Value) (v_a_main : Value) (v_a_other : Value) (v_a_taken : Value) (r_layout : Value) (r_coin : Value) (a_data : Nat) (i_height : Int32) (i_otherHeight : Int32) (i_ops : Int32) (i_ifs : Int32) (i_ifsNotTaken : Int32) (i_free : Int32) (i_tx : Int32) (i_in : Int32) (i_messageIsThere : Int32) (g_data : Nat → Int32) (res : Int32) : Array Value → State → Outcome → State → Prop := va_Qi (fun r' (_ : Unit) => r' = res) (fun _ t => Po D cy A [(o, .inr (6, [v_o_sha, r_signatures, v_o_ripemd, .ref a_data, v_a_scriptEnd, v_a_main, v_a_other, v_a_taken, .int i_height, .int i_otherHeight, .int i_ops, .int i_ifs, .int i_ifsNotTaken, .int i_free, r_layout, .int i_tx, .int i_in, r_coin, .int i_messageIsThere])), (a_data, .inl (cy 0, 14928, .inl g_data))] t) A
def I_Ma_isTrue_52 (p : Program) (l : Launch) (e : Env) (s : State) (m : MethodId) (args : Array Value) (below : List Frame) (meth : Method) (c : Code) (D : va_G) (cy : Nat → ClassId) (A : Nat → Prop) (ad : Nat → Nat) (o : Nat) (v_o_sha : Value) (r_signatures : Value) (v_o_ripemd : Value) (v_a_scriptEnd : Value) (v_a_main : Value) (v_a_other : Value) (v_a_taken : Value) (r_layout : Value) (r_coin : Value) (a_data : Nat) (i_height : Int32) (i_otherHeight : Int32) (i_ops : Int32) (i_ifs : Int32) (i_ifsNotTaken : Int32) (i_free : Int32) (i_tx : Int32) (i_in : Int32) (i_messageIsThere : Int32) (g_data : Nat → Int32) (k : Option (Int32)) : Prop :=
  ∀ (res : Int32), k  = some res → ∀ (H : Heap) (locs : List Loc) (ls : Array Slot), va_P D classes [(o, .inr (6, [v_o_sha, r_signatures, v_o_ripemd, .ref a_data, v_a_scriptEnd, v_a_main, v_a_other, v_a_taken, .int i_height, .int i_otherHeight, .int i_ops, .int i_ifs, .int i_ifsNotTaken, .int i_free, r_layout, .int i_tx, .int i_in, r_coin, .int i_messageIsThere])), (a_data, .inl (cy 0, 14928, .inl g_data))] H → va_D A [(o, .inr (6, [v_o_sha, r_signatures, v_o_ripemd, .ref a_data, v_a_scriptEnd, v_a_main, v_a_other, v_a_taken, .int i_height, .int i_otherHeight, .int i_ops, .int i_ifs, .int i_ifsNotTaken, .int i_free, r_layout, .int i_tx, .int i_in, r_coin, .int i_messageIsThere])), (a_data, .inl (cy 0, 14928, .inl g_data))] → va_S A s.heap H locs → lv_has ls 4 [] → W p l e rm_Ma_isTrue s m args below meth c H locs 0 0 (MQ below (q_Ma_isTrue D cy A o v_o_sha r_signatures v_o_ripemd v_a_scriptEnd v_a_main v_a_other v_a_taken r_layout r_coin a_data i_height i_otherHeight i_ops i_ifs i_ifsNotTaken i_free i_tx i_in i_messageIsThere g_data res) args s 0 0 A) (F0 m 52 ls [])
def I_Ma_isTrue_17 (p : Program) (l : Launch) (e : Env) (s : State) (m : MethodId) (args : Array Value) (below : List Frame) (meth : Method) (c : Code) (D : va_G) (cy : Nat → ClassId) (A : Nat → Prop) (ad : Nat → Nat) (o : Nat) (v_o_sha : Value) (r_signatures : Value) (v_o_ripemd : Value) (v_a_scriptEnd : Value) (v_a_main : Value) (v_a_other : Value) (v_a_taken : Value) (r_layout : Value) (r_coin : Value) (a_data : Nat) (i_height : Int32) (i_otherHeight : Int32) (i_ops : Int32) (i_ifs : Int32) (i_ifsNotTaken : Int32) (i_free : Int32) (i_tx : Int32) (i_in : Int32) (i_messageIsThere : Int32) (g_data : Nat → Int32) (k : Int32 → Int32 → Option (Int32)) : Prop :=
  ∀ (x2 : Int32) (x3 : Int32) (res : Int32), k x2 x3 = some res → ∀ (H : Heap) (locs : List Loc) (ls : Array Slot), va_P D classes [(o, .inr (6, [v_o_sha, r_signatures, v_o_ripemd, .ref a_data, v_a_scriptEnd, v_a_main, v_a_other, v_a_taken, .int i_height, .int i_otherHeight, .int i_ops, .int i_ifs, .int i_ifsNotTaken, .int i_free, r_layout, .int i_tx, .int i_in, r_coin, .int i_messageIsThere])), (a_data, .inl (cy 0, 14928, .inl g_data))] H → va_D A [(o, .inr (6, [v_o_sha, r_signatures, v_o_ripemd, .ref a_data, v_a_scriptEnd, v_a_main, v_a_other, v_a_taken, .int i_height, .int i_otherHeight, .int i_ops, .int i_ifs, .int i_ifsNotTaken, .int i_free, r_layout, .int i_tx, .int i_in, r_coin, .int i_messageIsThere])), (a_data, .inl (cy 0, 14928, .inl g_data))] → va_S A s.heap H locs → lv_has ls 4 [(0, .ref o), (2, .int x2), (3, .int x3)] → W p l e rm_Ma_isTrue s m args below meth c H locs 0 0 (MQ below (q_Ma_isTrue D cy A o v_o_sha r_signatures v_o_ripemd v_a_scriptEnd v_a_main v_a_other v_a_taken r_layout r_coin a_data i_height i_otherHeight i_ops i_ifs i_ifsNotTaken i_free i_tx i_in i_messageIsThere g_data res) args s 0 0 A) (F0 m 17 ls [])
def I_Ma_isTrue_e (p : Program) (l : Launch) (e : Env) (s : State) (m : MethodId) (args : Array Value) (below : List Frame) (meth : Method) (c : Code) (D : va_G) (cy : Nat → ClassId) (A : Nat → Prop) (ad : Nat → Nat) (o : Nat) (v_o_sha : Value) (r_signatures : Value) (v_o_ripemd : Value) (v_a_scriptEnd : Value) (v_a_main : Value) (v_a_other : Value) (v_a_taken : Value) (r_layout : Value) (r_coin : Value) (a_data : Nat) (i_height : Int32) (i_otherHeight : Int32) (i_ops : Int32) (i_ifs : Int32) (i_ifsNotTaken : Int32) (i_free : Int32) (i_tx : Int32) (i_in : Int32) (i_messageIsThere : Int32) (g_data : Nat → Int32) (k : Int32 → Option (Int32)) : Prop :=
  ∀ (a1 : Int32) (res : Int32), k a1 = some res → ∀ (H : Heap) (locs : List Loc) (ls : Array Slot), va_P D classes [(o, .inr (6, [v_o_sha, r_signatures, v_o_ripemd, .ref a_data, v_a_scriptEnd, v_a_main, v_a_other, v_a_taken, .int i_height, .int i_otherHeight, .int i_ops, .int i_ifs, .int i_ifsNotTaken, .int i_free, r_layout, .int i_tx, .int i_in, r_coin, .int i_messageIsThere])), (a_data, .inl (cy 0, 14928, .inl g_data))] H → va_D A [(o, .inr (6, [v_o_sha, r_signatures, v_o_ripemd, .ref a_data, v_a_scriptEnd, v_a_main, v_a_other, v_a_taken, .int i_height, .int i_otherHeight, .int i_ops, .int i_ifs, .int i_ifsNotTaken, .int i_free, r_layout, .int i_tx, .int i_in, r_coin, .int i_messageIsThere])), (a_data, .inl (cy 0, 14928, .inl g_data))] → va_S A s.heap H locs → lv_has ls 4 [(0, .ref o), (1, .int a1)] → W p l e rm_Ma_isTrue s m args below meth c H locs 0 0 (MQ below (q_Ma_isTrue D cy A o v_o_sha r_signatures v_o_ripemd v_a_scriptEnd v_a_main v_a_other v_a_taken r_layout r_coin a_data i_height i_otherHeight i_ops i_ifs i_ifsNotTaken i_free i_tx i_in i_messageIsThere g_data res) args s 0 0 A) (F0 m 0 ls [])
set_option maxHeartbeats 8000000 in
set_option maxRecDepth 100000 in
theorem wb_Ma_isTrue_52 {p : Program} {l : Launch} {e : Env} {s : State} {m : MethodId} {args : Array Value} {below : List Frame} {meth : Method} {c : Code} {D : va_G} {cy : Nat → ClassId} {A : Nat → Prop} {ad : Nat → Nat} {o : Nat} {v_o_sha : Value} {r_signatures : Value} {v_o_ripemd : Value} {v_a_scriptEnd : Value} {v_a_main : Value} {v_a_other : Value} {v_a_taken : Value} {r_layout : Value} {r_coin : Value} {a_data : Nat} {i_height : Int32} {i_otherHeight : Int32} {i_ops : Int32} {i_ifs : Int32} {i_ifsNotTaken : Int32} {i_free : Int32} {i_tx : Int32} {i_in : Int32} {i_messageIsThere : Int32} {g_data : Nat → Int32} {fu : Nat} (F : Fx p s m args meth c b_Ma_isTrue 4 "CoinKeeper$Machine" "isTrue" (some .boolean) D cy ad A) : I_Ma_isTrue_52 p l e s m args below meth c D cy A ad o v_o_sha r_signatures v_o_ripemd v_a_scriptEnd v_a_main v_a_other v_a_taken r_layout r_coin a_data i_height i_otherHeight i_ops i_ifs i_ifsNotTaken i_free i_tx i_in i_messageIsThere g_data (xb_Ma_isTrue_52 fu i_height i_otherHeight i_ops i_ifs i_ifsNotTaken i_free i_tx i_in i_messageIsThere g_data) := by
  obtain ⟨hx, hb, hr, hml, hown, hts, hlocks, hK, hA, hSt, hnm, hex⟩ := id F
  intro  res hf H locs ls hP hD hS hl
  unfold xb_Ma_isTrue_52 at hf
  refine lv_iconst (v := 1) hx hb d_Ma_isTrue_52 (by decide) ?_
  refine lv_goto (tgt := 57) hx hb d_Ma_isTrue_53 (by decide) ?_
  obtain rfl := Option.some.inj hf
  exact q_rz hx hb hr hlocks hK hP hD hS (isb_n (v := 1) (by decide)) d_Ma_isTrue_57
set_option maxHeartbeats 8000000 in
set_option maxRecDepth 100000 in
theorem wb_Ma_isTrue_17 {p : Program} {l : Launch} {e : Env} {s : State} {m : MethodId} {args : Array Value} {below : List Frame} {meth : Method} {c : Code} {D : va_G} {cy : Nat → ClassId} {A : Nat → Prop} {ad : Nat → Nat} {o : Nat} {v_o_sha : Value} {r_signatures : Value} {v_o_ripemd : Value} {v_a_scriptEnd : Value} {v_a_main : Value} {v_a_other : Value} {v_a_taken : Value} {r_layout : Value} {r_coin : Value} {a_data : Nat} {i_height : Int32} {i_otherHeight : Int32} {i_ops : Int32} {i_ifs : Int32} {i_ifsNotTaken : Int32} {i_free : Int32} {i_tx : Int32} {i_in : Int32} {i_messageIsThere : Int32} {g_data : Nat → Int32} {fu : Nat} {k_17 : Int32 → Int32 → Option (Int32)} (F : Fx p s m args meth c b_Ma_isTrue 4 "CoinKeeper$Machine" "isTrue" (some .boolean) D cy ad A) (hk_17 : I_Ma_isTrue_17 p l e s m args below meth c D cy A ad o v_o_sha r_signatures v_o_ripemd v_a_scriptEnd v_a_main v_a_other v_a_taken r_layout r_coin a_data i_height i_otherHeight i_ops i_ifs i_ifsNotTaken i_free i_tx i_in i_messageIsThere g_data k_17) : I_Ma_isTrue_17 p l e s m args below meth c D cy A ad o v_o_sha r_signatures v_o_ripemd v_a_scriptEnd v_a_main v_a_other v_a_taken r_layout r_coin a_data i_height i_otherHeight i_ops i_ifs i_ifsNotTaken i_free i_tx i_in i_messageIsThere g_data (xb_Ma_isTrue_17 fu i_height i_otherHeight i_ops i_ifs i_ifsNotTaken i_free i_tx i_in i_messageIsThere g_data k_17) := by
  obtain ⟨hx, hb, hr, hml, hown, hts, hlocks, hK, hA, hSt, hnm, hex⟩ := id F
  intro x2 x3 res hf H locs ls hP hD hS hl
  unfold xb_Ma_isTrue_17 at hf
  refine lv_iload_n hx hb d_Ma_isTrue_17 rfl (lv_at hl 2 rfl) ?_
  refine lv_iload_n hx hb d_Ma_isTrue_18 rfl (lv_at hl 1 rfl) ?_
  refine lv_icmp_gt (tgt := 64) hx hb d_Ma_isTrue_19 (by decide) (fun cx => ?_) (fun cx => ?_)
  · have hf := ifp cx hf
    refine lv_iconst (v := 0) hx hb d_Ma_isTrue_64 (by decide) ?_
    obtain rfl := Option.some.inj hf
    exact q_rz hx hb hr hlocks hK hP hD hS (isb_n (v := 0) (by decide)) d_Ma_isTrue_65
  · have hf := ifn cx hf
    refine lv_aload_n hx hb d_Ma_isTrue_22 rfl (lv_at hl 0 rfl) ?_
    refine va_get (D := D) (ci := 6) (v := .ref a_data) (C := "CoinKeeper$Machine") (T := F_6) (N := 19) hx hb hts i_6 hown hK hP 0 rfl rfl 3 (by decide) (hts _ gw_207) (fun _ h9 => h9) rfl d_Ma_isTrue_23 ?_
    refine lv_iload_n hx hb d_Ma_isTrue_26 rfl (lv_at hl 2 rfl) ?_
    obtain ⟨hg, hf⟩ := gdp hf
    refine va_bald hx hb hK hP 1 0 rfl rfl (inb_in hg) d_Ma_isTrue_27 ?_
    refine lv_topi (fun v1 ev => ?_)
    have hf := bn ev hf
    clear ev
    refine lv_if_eq (tgt := 58) hx hb d_Ma_isTrue_28 (by decide) (fun cx => ?_) (fun cx => ?_)
    · have hf := ifp cx hf
      obtain ⟨v2, ev, hf⟩ := bne hf
      refine lv_iinc (v := v2) (lv' := [(3, .int v2), (0, .ref o), (2, .int x2)]) hx hb d_Ma_isTrue_58 hl (k := 2) rfl (by rw [ev]; rfl) (by decide) rfl (fun ls hl => ?_)
      clear ev
      refine lv_goto (tgt := 17) hx hb d_Ma_isTrue_61 (by decide) ?_
      exact hk_17 _ _ _ hf _ _ _ hP hD hS (lv_sub hl [1, 2, 0] rfl)
    · have hf := ifn cx hf
      refine lv_iload_n hx hb d_Ma_isTrue_31 rfl (lv_at hl 2 rfl) ?_
      refine lv_iload_n hx hb d_Ma_isTrue_32 rfl (lv_at hl 1 rfl) ?_
      refine lv_icmp_lt (tgt := 52) hx hb d_Ma_isTrue_33 (by decide) (fun cx => ?_) (fun cx => ?_)
      · have hf := ifp cx hf
        exact wb_Ma_isTrue_52 (fu := fu) F _ hf _ _ _ hP hD hS (lv_sub hl [] rfl)
      · have hf := ifn cx hf
        refine lv_aload_n hx hb d_Ma_isTrue_36 rfl (lv_at hl 0 rfl) ?_
        refine va_get (D := D) (ci := 6) (v := .ref a_data) (C := "CoinKeeper$Machine") (T := F_6) (N := 19) hx hb hts i_6 hown hK hP 0 rfl rfl 3 (by decide) (hts _ gw_207) (fun _ h9 => h9) rfl d_Ma_isTrue_37 ?_
        refine lv_iload_n hx hb d_Ma_isTrue_40 rfl (lv_at hl 2 rfl) ?_
        obtain ⟨hg, hf⟩ := gdp hf
        refine va_bald hx hb hK hP 1 0 rfl rfl (inb_in hg) d_Ma_isTrue_41 ?_
        refine lv_topi (fun v3 ev => ?_)
        have hf := bn ev hf
        clear ev
        refine lv_sipush (v := 255) hx hb d_Ma_isTrue_42 (by decide) ?_
        refine lv_iand hx hb d_Ma_isTrue_45 ?_
        refine lv_topi (fun v4 ev => ?_)
        have hf := bn ev hf
        clear ev
        refine lv_sipush (v := 128) hx hb d_Ma_isTrue_46 (by decide) ?_
        refine lv_icmp_eq (tgt := 56) hx hb d_Ma_isTrue_49 (by decide) (fun cx => ?_) (fun cx => ?_)
        · have hf := ifp cx hf
          refine lv_iconst (v := 0) hx hb d_Ma_isTrue_56 (by decide) ?_
          obtain rfl := Option.some.inj hf
          exact q_rz hx hb hr hlocks hK hP hD hS (isb_n (v := 0) (by decide)) d_Ma_isTrue_57
        · have hf := ifn cx hf
          exact wb_Ma_isTrue_52 (fu := fu) F _ hf _ _ _ hP hD hS (lv_sub hl [] rfl)
theorem w_Ma_isTrue_17 {p : Program} {l : Launch} {e : Env} {s : State} {m : MethodId} {args : Array Value} {below : List Frame} {meth : Method} {c : Code} {D : va_G} {cy : Nat → ClassId} {A : Nat → Prop} {ad : Nat → Nat} {o : Nat} {v_o_sha : Value} {r_signatures : Value} {v_o_ripemd : Value} {v_a_scriptEnd : Value} {v_a_main : Value} {v_a_other : Value} {v_a_taken : Value} {r_layout : Value} {r_coin : Value} {a_data : Nat} {i_height : Int32} {i_otherHeight : Int32} {i_ops : Int32} {i_ifs : Int32} {i_ifsNotTaken : Int32} {i_free : Int32} {i_tx : Int32} {i_in : Int32} {i_messageIsThere : Int32} {g_data : Nat → Int32} {fu : Nat} (F : Fx p s m args meth c b_Ma_isTrue 4 "CoinKeeper$Machine" "isTrue" (some .boolean) D cy ad A) : ∀ n : Nat, I_Ma_isTrue_17 p l e s m args below meth c D cy A ad o v_o_sha r_signatures v_o_ripemd v_a_scriptEnd v_a_main v_a_other v_a_taken r_layout r_coin a_data i_height i_otherHeight i_ops i_ifs i_ifsNotTaken i_free i_tx i_in i_messageIsThere g_data (x_Ma_isTrue_17 fu i_height i_otherHeight i_ops i_ifs i_ifsNotTaken i_free i_tx i_in i_messageIsThere g_data n)
  | 0 => fun _ _ _ hf => nomatch (show (none : Option (Int32)) = some _ from hf)
  | n + 1 => wb_Ma_isTrue_17 F (w_Ma_isTrue_17 F n)
theorem hdc_39 : ({ cls := "CoinKeeper$Machine", name := "placeOf", desc := "(I)I" } : Jvm.MethodName).cls ≠ "java/lang/invoke/MethodHandle" ∧ ({ cls := "CoinKeeper$Machine", name := "placeOf", desc := "(I)I" } : Jvm.MethodName).cls ≠ "java/lang/invoke/VarHandle" ∧ (parseMethodDescriptor ({ cls := "CoinKeeper$Machine", name := "placeOf", desc := "(I)I" } : Jvm.MethodName).desc).map (fun d => d.parameters.length) = some 1 := by decide +kernel
theorem hdc_40 : ({ cls := "CoinKeeper$Machine", name := "lengthOf", desc := "(I)I" } : Jvm.MethodName).cls ≠ "java/lang/invoke/MethodHandle" ∧ ({ cls := "CoinKeeper$Machine", name := "lengthOf", desc := "(I)I" } : Jvm.MethodName).cls ≠ "java/lang/invoke/VarHandle" ∧ (parseMethodDescriptor ({ cls := "CoinKeeper$Machine", name := "lengthOf", desc := "(I)I" } : Jvm.MethodName).desc).map (fun d => d.parameters.length) = some 1 := by decide +kernel
set_option maxHeartbeats 8000000 in
set_option maxRecDepth 100000 in
theorem we_Ma_isTrue {p : Program} {l : Launch} {e : Env} {s : State} {m : MethodId} {args : Array Value} {below : List Frame} {meth : Method} {c : Code} {D : va_G} {cy : Nat → ClassId} {A : Nat → Prop} {ad : Nat → Nat} {o : Nat} {v_o_sha : Value} {r_signatures : Value} {v_o_ripemd : Value} {v_a_scriptEnd : Value} {v_a_main : Value} {v_a_other : Value} {v_a_taken : Value} {r_layout : Value} {r_coin : Value} {a_data : Nat} {i_height : Int32} {i_otherHeight : Int32} {i_ops : Int32} {i_ifs : Int32} {i_ifsNotTaken : Int32} {i_free : Int32} {i_tx : Int32} {i_in : Int32} {i_messageIsThere : Int32} {g_data : Nat → Int32} {fu : Nat} (F : Fx p s m args meth c b_Ma_isTrue 4 "CoinKeeper$Machine" "isTrue" (some .boolean) D cy ad A) : I_Ma_isTrue_e p l e s m args below meth c D cy A ad o v_o_sha r_signatures v_o_ripemd v_a_scriptEnd v_a_main v_a_other v_a_taken r_layout r_coin a_data i_height i_otherHeight i_ops i_ifs i_ifsNotTaken i_free i_tx i_in i_messageIsThere g_data (x_Ma_isTrue fu i_height i_otherHeight i_ops i_ifs i_ifsNotTaken i_free i_tx i_in i_messageIsThere g_data) := by
  obtain ⟨hx, hb, hr, hml, hown, hts, hlocks, hK, hA, hSt, hnm, hex⟩ := id F
  intro a1 res hf H locs ls hP hD hS hl
  unfold x_Ma_isTrue at hf
  refine lv_iload_n hx hb d_Ma_isTrue_0 rfl (lv_at hl 1 rfl) ?_
  obtain ⟨v1, hc, hf⟩ := bdp1 hf
  refine q_ai (wr := [(o, .inr (6, [v_o_sha, r_signatures, v_o_ripemd, .ref a_data, v_a_scriptEnd, v_a_main, v_a_other, v_a_taken, .int i_height, .int i_otherHeight, .int i_ops, .int i_ifs, .int i_ifsNotTaken, .int i_free, r_layout, .int i_tx, .int i_in, r_coin, .int i_messageIsThere])), (a_data, .inl (cy 0, 14928, .inl g_data))]) (va_runS (As := [.int a1]) (rest := []) ⟨hx, hb, hml, hown, hts⟩ (c_Ma_placeOf l D cy ad fu a1 _ hc H.size) ⟨q_cB hts gw_999 gw_6 gw_997 hdc_39 ⟨by decide, by decide⟩, hts _ gw_998⟩ (q_pre (hP.sub [] rfl) (hD.sub [] (by decide) rfl) hK hSt hS (va_free hD hS hA [] rfl) _) rfl rfl hl.1 rfl (lv_room (Nat.le_of_ble_eq_true rfl)) d_Ma_isTrue_1 ⟨Nat.le_of_ble_eq_true rfl, Nat.le_of_ble_eq_true rfl⟩) hP hD hS hA [] [0, 1] rfl rfl (by decide) (by decide) (fun H locs hP hD hS => ?_)
  clear hc
  have hP : va_P D classes [(o, .inr (6, [v_o_sha, r_signatures, v_o_ripemd, .ref a_data, v_a_scriptEnd, v_a_main, v_a_other, v_a_taken, .int i_height, .int i_otherHeight, .int i_ops, .int i_ifs, .int i_ifsNotTaken, .int i_free, r_layout, .int i_tx, .int i_in, r_coin, .int i_messageIsThere])), (a_data, .inl (cy 0, 14928, .inl g_data))] H := hP
  have hD : va_D A [(o, .inr (6, [v_o_sha, r_signatures, v_o_ripemd, .ref a_data, v_a_scriptEnd, v_a_main, v_a_other, v_a_taken, .int i_height, .int i_otherHeight, .int i_ops, .int i_ifs, .int i_ifsNotTaken, .int i_free, r_layout, .int i_tx, .int i_in, r_coin, .int i_messageIsThere])), (a_data, .inl (cy 0, 14928, .inl g_data))] := hD
  refine lv_iload_n hx hb d_Ma_isTrue_4 rfl (lv_at hl 1 rfl) ?_
  obtain ⟨v2, hc, hf⟩ := bdp1 hf
  refine q_ai (wr := [(o, .inr (6, [v_o_sha, r_signatures, v_o_ripemd, .ref a_data, v_a_scriptEnd, v_a_main, v_a_other, v_a_taken, .int i_height, .int i_otherHeight, .int i_ops, .int i_ifs, .int i_ifsNotTaken, .int i_free, r_layout, .int i_tx, .int i_in, r_coin, .int i_messageIsThere])), (a_data, .inl (cy 0, 14928, .inl g_data))]) (va_runS (As := [.int a1]) (rest := [.int v1]) ⟨hx, hb, hml, hown, hts⟩ (c_Ma_lengthOf l D cy ad fu a1 _ hc H.size) ⟨q_cB hts gw_1002 gw_6 gw_1000 hdc_40 ⟨by decide, by decide⟩, hts _ gw_1001⟩ (q_pre (hP.sub [] rfl) (hD.sub [] (by decide) rfl) hK hSt hS (va_free hD hS hA [] rfl) _) rfl rfl hl.1 rfl (lv_room (Nat.le_of_ble_eq_true rfl)) d_Ma_isTrue_5 ⟨Nat.le_of_ble_eq_true rfl, Nat.le_of_ble_eq_true rfl⟩) hP hD hS hA [] [0, 1] rfl rfl (by decide) (by decide) (fun H locs hP hD hS => ?_)
  clear hc
  have hP : va_P D classes [(o, .inr (6, [v_o_sha, r_signatures, v_o_ripemd, .ref a_data, v_a_scriptEnd, v_a_main, v_a_other, v_a_taken, .int i_height, .int i_otherHeight, .int i_ops, .int i_ifs, .int i_ifsNotTaken, .int i_free, r_layout, .int i_tx, .int i_in, r_coin, .int i_messageIsThere])), (a_data, .inl (cy 0, 14928, .inl g_data))] H := hP
  have hD : va_D A [(o, .inr (6, [v_o_sha, r_signatures, v_o_ripemd, .ref a_data, v_a_scriptEnd, v_a_main, v_a_other, v_a_taken, .int i_height, .int i_otherHeight, .int i_ops, .int i_ifs, .int i_ifsNotTaken, .int i_free, r_layout, .int i_tx, .int i_in, r_coin, .int i_messageIsThere])), (a_data, .inl (cy 0, 14928, .inl g_data))] := hD
  refine lv_iadd hx hb d_Ma_isTrue_8 ?_
  refine lv_topi (fun v3 ev => ?_)
  have hf := bn ev hf
  clear ev
  refine lv_iconst (v := 1) hx hb d_Ma_isTrue_9 (by decide) ?_
  refine lv_isub hx hb d_Ma_isTrue_10 ?_
  refine lv_topi (fun v4 ev => ?_)
  have hf := bn ev hf
  clear ev
  refine lv_istore_n (lv' := [(2, .int v4), (0, .ref o), (1, .int a1)]) hx hb d_Ma_isTrue_11 rfl hl (by decide) rfl (fun ls hl => ?_)
  refine lv_iload_n hx hb d_Ma_isTrue_12 rfl (lv_at hl 2 rfl) ?_
  obtain ⟨v5, hc, hf⟩ := bdp1 hf
  refine q_ai (wr := [(o, .inr (6, [v_o_sha, r_signatures, v_o_ripemd, .ref a_data, v_a_scriptEnd, v_a_main, v_a_other, v_a_taken, .int i_height, .int i_otherHeight, .int i_ops, .int i_ifs, .int i_ifsNotTaken, .int i_free, r_layout, .int i_tx, .int i_in, r_coin, .int i_messageIsThere])), (a_data, .inl (cy 0, 14928, .inl g_data))]) (va_runS (As := [.int a1]) (rest := []) ⟨hx, hb, hml, hown, hts⟩ (c_Ma_placeOf l D cy ad fu a1 _ hc H.size) ⟨q_cB hts gw_999 gw_6 gw_997 hdc_39 ⟨by decide, by decide⟩, hts _ gw_998⟩ (q_pre (hP.sub [] rfl) (hD.sub [] (by decide) rfl) hK hSt hS (va_free hD hS hA [] rfl) _) rfl rfl hl.1 rfl (lv_room (Nat.le_of_ble_eq_true rfl)) d_Ma_isTrue_13 ⟨Nat.le_of_ble_eq_true rfl, Nat.le_of_ble_eq_true rfl⟩) hP hD hS hA [] [0, 1] rfl rfl (by decide) (by decide) (fun H locs hP hD hS => ?_)
  clear hc
  have hP : va_P D classes [(o, .inr (6, [v_o_sha, r_signatures, v_o_ripemd, .ref a_data, v_a_scriptEnd, v_a_main, v_a_other, v_a_taken, .int i_height, .int i_otherHeight, .int i_ops, .int i_ifs, .int i_ifsNotTaken, .int i_free, r_layout, .int i_tx, .int i_in, r_coin, .int i_messageIsThere])), (a_data, .inl (cy 0, 14928, .inl g_data))] H := hP
  have hD : va_D A [(o, .inr (6, [v_o_sha, r_signatures, v_o_ripemd, .ref a_data, v_a_scriptEnd, v_a_main, v_a_other, v_a_taken, .int i_height, .int i_otherHeight, .int i_ops, .int i_ifs, .int i_ifsNotTaken, .int i_free, r_layout, .int i_tx, .int i_in, r_coin, .int i_messageIsThere])), (a_data, .inl (cy 0, 14928, .inl g_data))] := hD
  refine lv_istore_n (lv' := [(3, .int v5), (2, .int v4), (0, .ref o), (1, .int a1)]) hx hb d_Ma_isTrue_16 rfl hl (by decide) rfl (fun ls hl => ?_)
  exact w_Ma_isTrue_17 F fu _ _ _ hf _ _ _ hP hD hS (lv_sub hl [2, 1, 0] rfl)
theorem c_Ma_isTrue (l : Launch) (D : va_G) (cy : Nat → ClassId) (ad : Nat → Nat) (fu : Nat) (o : Nat) (v_o_sha : Value) (r_signatures : Value) (v_o_ripemd : Value) (v_a_scriptEnd : Value) (v_a_main : Value) (v_a_other : Value) (v_a_taken : Value) (r_layout : Value) (r_coin : Value) (a_data : Nat) (i_height : Int32) (i_otherHeight : Int32) (i_ops : Int32) (i_ifs : Int32) (i_ifsNotTaken : Int32) (i_free : Int32) (i_tx : Int32) (i_in : Int32) (i_messageIsThere : Int32) (g_data : Nat → Int32) (a1 : Int32) (res : Int32) (hf : x_Ma_isTrue fu i_height i_otherHeight i_ops i_ifs i_ifsNotTaken i_free i_tx i_in i_messageIsThere g_data a1 = some res) (sz : Nat) : Met l ({ cls := "CoinKeeper$Machine", name := "isTrue", desc := "(I)Z" } : Jvm.MethodName) (.code ({ cls := "CoinKeeper$Machine", name := "isTrue", desc := "(I)Z" } : Jvm.MethodName) b_Ma_isTrue 4 (some .boolean) :: gw) rm_Ma_isTrue (va_Pc [.ref o, .int a1] (Pr D cy ad [(o, .inr (6, [v_o_sha, r_signatures, v_o_ripemd, .ref a_data, v_a_scriptEnd, v_a_main, v_a_other, v_a_taken, .int i_height, .int i_otherHeight, .int i_ops, .int i_ifs, .int i_ifsNotTaken, .int i_free, r_layout, .int i_tx, .int i_in, r_coin, .int i_messageIsThere])), (a_data, .inl (cy 0, 14928, .inl g_data))] sz)) (q_Ma_isTrue D cy (va_A [(o, .inr (6, [v_o_sha, r_signatures, v_o_ripemd, .ref a_data, v_a_scriptEnd, v_a_main, v_a_other, v_a_taken, .int i_height, .int i_otherHeight, .int i_ops, .int i_ifs, .int i_ifsNotTaken, .int i_free, r_layout, .int i_tx, .int i_in, r_coin, .int i_messageIsThere])), (a_data, .inl (cy 0, 14928, .inl g_data))] sz) o v_o_sha r_signatures v_o_ripemd v_a_scriptEnd v_a_main v_a_other v_a_taken r_layout r_coin a_data i_height i_otherHeight i_ops i_ifs i_ifsNotTaken i_free i_tx i_in i_messageIsThere g_data res) 0 0 (va_A [(o, .inr (6, [v_o_sha, r_signatures, v_o_ripemd, .ref a_data, v_a_scriptEnd, v_a_main, v_a_other, v_a_taken, .int i_height, .int i_otherHeight, .int i_ops, .int i_ifs, .int i_ifsNotTaken, .int i_free, r_layout, .int i_tx, .int i_in, r_coin, .int i_messageIsThere])), (a_data, .inl (cy 0, 14928, .inl g_data))] sz) :=
  q_met (Qc := fun A => q_Ma_isTrue D cy A o v_o_sha r_signatures v_o_ripemd v_a_scriptEnd v_a_main v_a_other v_a_taken r_layout r_coin a_data i_height i_otherHeight i_ops i_ifs i_ifsNotTaken i_free i_tx i_in i_messageIsThere g_data res) (by decide) rfl rfl (Nat.le_of_ble_eq_true rfl) (fun p e s m below meth c ls F hP hD hS hl => we_Ma_isTrue (fu := fu) F a1 res hf _ _ _ hP hD hS hl) sz
abbrev b_Ma_endsTrue : ByteArray := prog_7_method_5_code
theorem d_Ma_endsTrue_0 : decode b_Ma_endsTrue 0 = .ok (.aload_n 0, 1) := by decide +kernel
theorem d_Ma_endsTrue_1 : decode b_Ma_endsTrue 1 = .ok (.getfield 73, 3) := by decide +kernel
theorem d_Ma_endsTrue_4 : decode b_Ma_endsTrue 4 = .ok (.ifCond .le 25, 3) := by decide +kernel
theorem d_Ma_endsTrue_7 : decode b_Ma_endsTrue 7 = .ok (.aload_n 0, 1) := by decide +kernel
theorem d_Ma_endsTrue_8 : decode b_Ma_endsTrue 8 = .ok (.aload_n 0, 1) := by decide +kernel
theorem d_Ma_endsTrue_9 : decode b_Ma_endsTrue 9 = .ok (.getfield 26, 3) := by decide +kernel
theorem d_Ma_endsTrue_12 : decode b_Ma_endsTrue 12 = .ok (.aload_n 0, 1) := by decide +kernel
theorem d_Ma_endsTrue_13 : decode b_Ma_endsTrue 13 = .ok (.getfield 73, 3) := by decide +kernel
theorem d_Ma_endsTrue_16 : decode b_Ma_endsTrue 16 = .ok (.iconst 1, 1) := by decide +kernel
theorem d_Ma_endsTrue_17 : decode b_Ma_endsTrue 17 = .ok (.isub, 1) := by decide +kernel
theorem d_Ma_endsTrue_18 : decode b_Ma_endsTrue 18 = .ok (.iaload, 1) := by decide +kernel
theorem d_Ma_endsTrue_19 : decode b_Ma_endsTrue 19 = .ok (.invokevirtual 79, 3) := by decide +kernel
theorem d_Ma_endsTrue_22 : decode b_Ma_endsTrue 22 = .ok (.ifCond .eq 7, 3) := by decide +kernel
theorem d_Ma_endsTrue_25 : decode b_Ma_endsTrue 25 = .ok (.iconst 1, 1) := by decide +kernel
theorem d_Ma_endsTrue_26 : decode b_Ma_endsTrue 26 = .ok (.goto 4, 3) := by decide +kernel
theorem d_Ma_endsTrue_29 : decode b_Ma_endsTrue 29 = .ok (.iconst 0, 1) := by decide +kernel
theorem d_Ma_endsTrue_30 : decode b_Ma_endsTrue 30 = .ok (.ireturn, 1) := by decide +kernel
abbrev rm_Ma_endsTrue : Room := { frames := 2, cells := 0, slots := 0, locals := 43 }
abbrev q_Ma_endsTrue (D : va_G) (cy : Nat → ClassId) (A : Nat → Prop) (o : Nat) (v_o_sha : Value) (r_signatures : Value) (v_o_ripemd : Value) (v_a_scriptEnd : Value) (v_a_other : Value) (v_a_taken : Value) (r_layout : Value) (r_coin : Value) (a_data : Nat) (a_main : Nat) (i_height : Int32) (i_otherHeight : Int32) (i_ops : Int32) (i_ifs : Int32) (i_ifsNotTaken : Int32) (i_free : Int32) (i_tx : Int32) (i_in : Int32) (i_messageIsThere : Int32) (g_data : Nat → Int32) (g_main : Nat → Int32) (res : Int32) : Array Value → State → Outcome → State → Prop := va_Qi (fun r' (_ : Unit) => r' = res) (fun _ t => Po D cy A [(o, .inr (6, [v_o_sha, r_signatures, v_o_ripemd, .ref a_data, v_a_scriptEnd, .ref a_main, v_a_other, v_a_taken, .int i_height, .int i_otherHeight, .int i_ops, .int i_ifs, .int i_ifsNotTaken, .int i_free, r_layout, .int i_tx, .int i_in, r_coin, .int i_messageIsThere])), (a_data, .inl (cy 0, 14928, .inl g_data)), (a_main, .inl (cy 1, 204, .inl g_main))] t) A
def I_Ma_endsTrue_e (p : Program) (l : Launch) (e : Env) (s : State) (m : MethodId) (args : Array Value) (below : List Frame) (meth : Method) (c : Code) (D : va_G) (cy : Nat → ClassId) (A : Nat → Prop) (ad : Nat → Nat) (o : Nat) (v_o_sha : Value) (r_signatures : Value) (v_o_ripemd : Value) (v_a_scriptEnd : Value) (v_a_other : Value) (v_a_taken : Value) (r_layout : Value) (r_coin : Value) (a_data : Nat) (a_main : Nat) (i_height : Int32) (i_otherHeight : Int32) (i_ops : Int32) (i_ifs : Int32) (i_ifsNotTaken : Int32) (i_free : Int32) (i_tx : Int32) (i_in : Int32) (i_messageIsThere : Int32) (g_data : Nat → Int32) (g_main : Nat → Int32) (k : Option (Int32)) : Prop :=
  ∀ (res : Int32), k  = some res → ∀ (H : Heap) (locs : List Loc) (ls : Array Slot), va_P D classes [(o, .inr (6, [v_o_sha, r_signatures, v_o_ripemd, .ref a_data, v_a_scriptEnd, .ref a_main, v_a_other, v_a_taken, .int i_height, .int i_otherHeight, .int i_ops, .int i_ifs, .int i_ifsNotTaken, .int i_free, r_layout, .int i_tx, .int i_in, r_coin, .int i_messageIsThere])), (a_data, .inl (cy 0, 14928, .inl g_data)), (a_main, .inl (cy 1, 204, .inl g_main))] H → va_D A [(o, .inr (6, [v_o_sha, r_signatures, v_o_ripemd, .ref a_data, v_a_scriptEnd, .ref a_main, v_a_other, v_a_taken, .int i_height, .int i_otherHeight, .int i_ops, .int i_ifs, .int i_ifsNotTaken, .int i_free, r_layout, .int i_tx, .int i_in, r_coin, .int i_messageIsThere])), (a_data, .inl (cy 0, 14928, .inl g_data)), (a_main, .inl (cy 1, 204, .inl g_main))] → va_S A s.heap H locs → lv_has ls 1 [(0, .ref o)] → W p l e rm_Ma_endsTrue s m args below meth c H locs 0 0 (MQ below (q_Ma_endsTrue D cy A o v_o_sha r_signatures v_o_ripemd v_a_scriptEnd v_a_other v_a_taken r_layout r_coin a_data a_main i_height i_otherHeight i_ops i_ifs i_ifsNotTaken i_free i_tx i_in i_messageIsThere g_data g_main res) args s 0 0 A) (F0 m 0 ls [])
theorem hdc_41 : ({ cls := "CoinKeeper$Machine", name := "isTrue", desc := "(I)Z" } : Jvm.MethodName).cls ≠ "java/lang/invoke/MethodHandle" ∧ ({ cls := "CoinKeeper$Machine", name := "isTrue", desc := "(I)Z" } : Jvm.MethodName).cls ≠ "java/lang/invoke/VarHandle" ∧ (parseMethodDescriptor ({ cls := "CoinKeeper$Machine", name := "isTrue", desc := "(I)Z" } : Jvm.MethodName).desc).map (fun d => d.parameters.length) = some 1 := by decide +kernel
set_option maxHeartbeats 8000000 in
set_option maxRecDepth 100000 in
theorem we_Ma_endsTrue {p : Program} {l : Launch} {e : Env} {s : State} {m : MethodId} {args : Array Value} {below : List Frame} {meth : Method} {c : Code} {D : va_G} {cy : Nat → ClassId} {A : Nat → Prop} {ad : Nat → Nat} {o : Nat} {v_o_sha : Value} {r_signatures : Value} {v_o_ripemd : Value} {v_a_scriptEnd : Value} {v_a_other : Value} {v_a_taken : Value} {r_layout : Value} {r_coin : Value} {a_data : Nat} {a_main : Nat} {i_height : Int32} {i_otherHeight : Int32} {i_ops : Int32} {i_ifs : Int32} {i_ifsNotTaken : Int32} {i_free : Int32} {i_tx : Int32} {i_in : Int32} {i_messageIsThere : Int32} {g_data : Nat → Int32} {g_main : Nat → Int32} {fu : Nat} (F : Fx p s m args meth c b_Ma_endsTrue 1 "CoinKeeper$Machine" "endsTrue" (some .boolean) D cy ad A) : I_Ma_endsTrue_e p l e s m args below meth c D cy A ad o v_o_sha r_signatures v_o_ripemd v_a_scriptEnd v_a_other v_a_taken r_layout r_coin a_data a_main i_height i_otherHeight i_ops i_ifs i_ifsNotTaken i_free i_tx i_in i_messageIsThere g_data g_main (x_Ma_endsTrue fu i_height i_otherHeight i_ops i_ifs i_ifsNotTaken i_free i_tx i_in i_messageIsThere g_data g_main) := by
  obtain ⟨hx, hb, hr, hml, hown, hts, hlocks, hK, hA, hSt, hnm, hex⟩ := id F
  intro  res hf H locs ls hP hD hS hl
  unfold x_Ma_endsTrue at hf
  refine lv_aload_n hx hb d_Ma_endsTrue_0 rfl (lv_at hl 0 rfl) ?_
  refine va_get (D := D) (ci := 6) (v := .int i_height) (C := "CoinKeeper$Machine") (T := F_6) (N := 19) hx hb hts i_6 hown hK hP 0 rfl rfl 8 (by decide) (hts _ gw_212) (fun _ h9 => h9) rfl d_Ma_endsTrue_1 ?_
  refine lv_if_le (tgt := 29) hx hb d_Ma_endsTrue_4 (by decide) (fun cx => ?_) (fun cx => ?_)
  · have hf := ifp cx hf
    refine lv_iconst (v := 0) hx hb d_Ma_endsTrue_29 (by decide) ?_
    obtain rfl := Option.some.inj hf
    exact q_rz hx hb hr hlocks hK hP hD hS (isb_n (v := 0) (by decide)) d_Ma_endsTrue_30
  · have hf := ifn cx hf
    refine lv_aload_n hx hb d_Ma_endsTrue_7 rfl (lv_at hl 0 rfl) ?_
    refine lv_aload_n hx hb d_Ma_endsTrue_8 rfl (lv_at hl 0 rfl) ?_
    refine va_get (D := D) (ci := 6) (v := .ref a_main) (C := "CoinKeeper$Machine") (T := F_6) (N := 19) hx hb hts i_6 hown hK hP 0 rfl rfl 5 (by decide) (hts _ gw_209) (fun _ h9 => h9) rfl d_Ma_endsTrue_9 ?_
    refine lv_aload_n hx hb d_Ma_endsTrue_12 rfl (lv_at hl 0 rfl) ?_
    refine va_get (D := D) (ci := 6) (v := .int i_height) (C := "CoinKeeper$Machine") (T := F_6) (N := 19) hx hb hts i_6 hown hK hP 0 rfl rfl 8 (by decide) (hts _ gw_212) (fun _ h9 => h9) rfl d_Ma_endsTrue_13 ?_
    refine lv_iconst (v := 1) hx hb d_Ma_endsTrue_16 (by decide) ?_
    refine lv_isub hx hb d_Ma_endsTrue_17 ?_
    refine lv_topi (fun v1 ev => ?_)
    have hf := bn ev hf
    clear ev
    obtain ⟨hg, hf⟩ := gdp hf
    refine va_iald hx hb hK hP 2 1 rfl rfl (inb_in hg) d_Ma_endsTrue_18 ?_
    refine lv_topi (fun v2 ev => ?_)
    have hf := bn ev hf
    clear ev
    obtain ⟨v3, hc, hf⟩ := bdp1 hf
    refine q_ai (wr := [(a_main, .inl (cy 1, 204, .inl g_main))]) (va_runV (C := "CoinKeeper$Machine") (As := [.int v2]) (rest := []) ⟨hx, hb, hml, hown, hts⟩ (c_Ma_isTrue l D cy ad fu o v_o_sha r_signatures v_o_ripemd v_a_scriptEnd (.ref a_main) v_a_other v_a_taken r_layout r_coin a_data i_height i_otherHeight i_ops i_ifs i_ifsNotTaken i_free i_tx i_in i_messageIsThere g_data v2 _ hc H.size) ⟨q_cB hts gw_996 gw_6 gw_993 hdc_41 ⟨by decide, by decide⟩, hts _ gw_995, hts _ gs_30⟩ (q_preV (q_pre (hP.sub [0, 1] rfl) (hD.sub [0, 1] (by decide) rfl) hK hSt hS (va_free hD hS hA [0, 1] rfl) _) (va_recv hK (hP.sub [0, 1] rfl) (ci := 6) (q0 := 0) rfl rfl)) rfl rfl hl.1 rfl (lv_room (Nat.le_of_ble_eq_true rfl)) d_Ma_endsTrue_19 ⟨Nat.le_of_ble_eq_true rfl, Nat.le_of_ble_eq_true rfl⟩) hP hD hS hA [0, 1] [2] rfl rfl (by decide) (by decide) (fun H locs hP hD hS => ?_)
    clear hc
    have hP : va_P D classes [(a_main, .inl (cy 1, 204, .inl g_main)), (o, .inr (6, [v_o_sha, r_signatures, v_o_ripemd, .ref a_data, v_a_scriptEnd, .ref a_main, v_a_other, v_a_taken, .int i_height, .int i_otherHeight, .int i_ops, .int i_ifs, .int i_ifsNotTaken, .int i_free, r_layout, .int i_tx, .int i_in, r_coin, .int i_messageIsThere])), (a_data, .inl (cy 0, 14928, .inl g_data))] H := hP
    have hD : va_D A [(a_main, .inl (cy 1, 204, .inl g_main)), (o, .inr (6, [v_o_sha, r_signatures, v_o_ripemd, .ref a_data, v_a_scriptEnd, .ref a_main, v_a_other, v_a_taken, .int i_height, .int i_otherHeight, .int i_ops, .int i_ifs, .int i_ifsNotTaken, .int i_free, r_layout, .int i_tx, .int i_in, r_coin, .int i_messageIsThere])), (a_data, .inl (cy 0, 14928, .inl g_data))] := hD
    refine lv_if_eq (tgt := 29) hx hb d_Ma_endsTrue_22 (by decide) (fun cx => ?_) (fun cx => ?_)
    · have hf := ifp cx hf
      refine lv_iconst (v := 0) hx hb d_Ma_endsTrue_29 (by decide) ?_
      obtain rfl := Option.some.inj hf
      exact q_rz hx hb hr hlocks hK (hP.sub [1, 2, 0] rfl) (hD.sub [1, 2, 0] (by decide) rfl) hS (isb_n (v := 0) (by decide)) d_Ma_endsTrue_30
    · have hf := ifn cx hf
      refine lv_iconst (v := 1) hx hb d_Ma_endsTrue_25 (by decide) ?_
      refine lv_goto (tgt := 30) hx hb d_Ma_endsTrue_26 (by decide) ?_
      obtain rfl := Option.some.inj hf
      exact q_rz hx hb hr hlocks hK (hP.sub [1, 2, 0] rfl) (hD.sub [1, 2, 0] (by decide) rfl) hS (isb_n (v := 1) (by decide)) d_Ma_endsTrue_30
theorem c_Ma_endsTrue (l : Launch) (D : va_G) (cy : Nat → ClassId) (ad : Nat → Nat) (fu : Nat) (o : Nat) (v_o_sha : Value) (r_signatures : Value) (v_o_ripemd : Value) (v_a_scriptEnd : Value) (v_a_other : Value) (v_a_taken : Value) (r_layout : Value) (r_coin : Value) (a_data : Nat) (a_main : Nat) (i_height : Int32) (i_otherHeight : Int32) (i_ops : Int32) (i_ifs : Int32) (i_ifsNotTaken : Int32) (i_free : Int32) (i_tx : Int32) (i_in : Int32) (i_messageIsThere : Int32) (g_data : Nat → Int32) (g_main : Nat → Int32) (res : Int32) (hf : x_Ma_endsTrue fu i_height i_otherHeight i_ops i_ifs i_ifsNotTaken i_free i_tx i_in i_messageIsThere g_data g_main = some res) (sz : Nat) : Met l ({ cls := "CoinKeeper$Machine", name := "endsTrue", desc := "()Z" } : Jvm.MethodName) (.code ({ cls := "CoinKeeper$Machine", name := "endsTrue", desc := "()Z" } : Jvm.MethodName) b_Ma_endsTrue 1 (some .boolean) :: gw) rm_Ma_endsTrue (va_Pc [.ref o] (Pr D cy ad [(o, .inr (6, [v_o_sha, r_signatures, v_o_ripemd, .ref a_data, v_a_scriptEnd, .ref a_main, v_a_other, v_a_taken, .int i_height, .int i_otherHeight, .int i_ops, .int i_ifs, .int i_ifsNotTaken, .int i_free, r_layout, .int i_tx, .int i_in, r_coin, .int i_messageIsThere])), (a_data, .inl (cy 0, 14928, .inl g_data)), (a_main, .inl (cy 1, 204, .inl g_main))] sz)) (q_Ma_endsTrue D cy (va_A [(o, .inr (6, [v_o_sha, r_signatures, v_o_ripemd, .ref a_data, v_a_scriptEnd, .ref a_main, v_a_other, v_a_taken, .int i_height, .int i_otherHeight, .int i_ops, .int i_ifs, .int i_ifsNotTaken, .int i_free, r_layout, .int i_tx, .int i_in, r_coin, .int i_messageIsThere])), (a_data, .inl (cy 0, 14928, .inl g_data)), (a_main, .inl (cy 1, 204, .inl g_main))] sz) o v_o_sha r_signatures v_o_ripemd v_a_scriptEnd v_a_other v_a_taken r_layout r_coin a_data a_main i_height i_otherHeight i_ops i_ifs i_ifsNotTaken i_free i_tx i_in i_messageIsThere g_data g_main res) 0 0 (va_A [(o, .inr (6, [v_o_sha, r_signatures, v_o_ripemd, .ref a_data, v_a_scriptEnd, .ref a_main, v_a_other, v_a_taken, .int i_height, .int i_otherHeight, .int i_ops, .int i_ifs, .int i_ifsNotTaken, .int i_free, r_layout, .int i_tx, .int i_in, r_coin, .int i_messageIsThere])), (a_data, .inl (cy 0, 14928, .inl g_data)), (a_main, .inl (cy 1, 204, .inl g_main))] sz) :=
  q_met (Qc := fun A => q_Ma_endsTrue D cy A o v_o_sha r_signatures v_o_ripemd v_a_scriptEnd v_a_other v_a_taken r_layout r_coin a_data a_main i_height i_otherHeight i_ops i_ifs i_ifsNotTaken i_free i_tx i_in i_messageIsThere g_data g_main res) (by decide) rfl rfl (Nat.le_of_ble_eq_true rfl) (fun p e s m below meth c ls F hP hD hS hl => we_Ma_endsTrue (fu := fu) F  res hf _ _ _ hP hD hS hl) sz
abbrev b_Ma_push : ByteArray := prog_7_method_7_code
theorem d_Ma_push_0 : decode b_Ma_push 0 = .ok (.aload_n 0, 1) := by decide +kernel
theorem d_Ma_push_1 : decode b_Ma_push 1 = .ok (.getfield 26, 3) := by decide +kernel
theorem d_Ma_push_4 : decode b_Ma_push 4 = .ok (.aload_n 0, 1) := by decide +kernel
theorem d_Ma_push_5 : decode b_Ma_push 5 = .ok (.getfield 73, 3) := by decide +kernel
theorem d_Ma_push_8 : decode b_Ma_push 8 = .ok (.iload_n 1, 1) := by decide +kernel
theorem d_Ma_push_9 : decode b_Ma_push 9 = .ok (.iastore, 1) := by decide +kernel
theorem d_Ma_push_10 : decode b_Ma_push 10 = .ok (.aload_n 0, 1) := by decide +kernel
theorem d_Ma_push_11 : decode b_Ma_push 11 = .ok (.dup, 1) := by decide +kernel
theorem d_Ma_push_12 : decode b_Ma_push 12 = .ok (.getfield 73, 3) := by decide +kernel
theorem d_Ma_push_15 : decode b_Ma_push 15 = .ok (.iconst 1, 1) := by decide +kernel
theorem d_Ma_push_16 : decode b_Ma_push 16 = .ok (.iadd, 1) := by decide +kernel
theorem d_Ma_push_17 : decode b_Ma_push 17 = .ok (.putfield 73, 3) := by decide +kernel
theorem d_Ma_push_20 : decode b_Ma_push 20 = .ok (.return_, 1) := by decide +kernel
abbrev rm_Ma_push : Room := { frames := 0, cells := 0, slots := 0, locals := 0 }
abbrev q_Ma_push (D : va_G) (cy : Nat → ClassId) (A : Nat → Prop) (o : Nat) (v_o_sha : Value) (r_signatures : Value) (v_o_ripemd : Value) (v_a_data : Value) (v_a_scriptEnd : Value) (v_a_other : Value) (v_a_taken : Value) (r_layout : Value) (r_coin : Value) (a_main : Nat) (i_otherHeight : Int32) (i_ops : Int32) (i_ifs : Int32) (i_ifsNotTaken : Int32) (i_free : Int32) (i_tx : Int32) (i_in : Int32) (i_messageIsThere : Int32) (res : Int32 × (Nat → Int32)) : Array Value → State → Outcome → State → Prop := va_Qv (fun (_ : Unit) => True) (fun _ t => Po D cy A [(o, .inr (6, [v_o_sha, r_signatures, v_o_ripemd, v_a_data, v_a_scriptEnd, .ref a_main, v_a_other, v_a_taken, .int res.1, .int i_otherHeight, .int i_ops, .int i_ifs, .int i_ifsNotTaken, .int i_free, r_layout, .int i_tx, .int i_in, r_coin, .int i_messageIsThere])), (a_main, .inl (cy 1, 204, .inl res.2))] t) A
def I_Ma_push_e (p : Program) (l : Launch) (e : Env) (s : State) (m : MethodId) (args : Array Value) (below : List Frame) (meth : Method) (c : Code) (D : va_G) (cy : Nat → ClassId) (A : Nat → Prop) (ad : Nat → Nat) (o : Nat) (v_o_sha : Value) (r_signatures : Value) (v_o_ripemd : Value) (v_a_data : Value) (v_a_scriptEnd : Value) (v_a_other : Value) (v_a_taken : Value) (r_layout : Value) (r_coin : Value) (a_main : Nat) (i_otherHeight : Int32) (i_ops : Int32) (i_ifs : Int32) (i_ifsNotTaken : Int32) (i_free : Int32) (i_tx : Int32) (i_in : Int32) (i_messageIsThere : Int32) (k : Int32 → Int32 → (Nat → Int32) → Option (Int32 × (Nat → Int32))) : Prop :=
  ∀ (a1 : Int32) (u0 : Int32) (u1 : Nat → Int32) (res : Int32 × (Nat → Int32)), k a1 u0 u1 = some res → ∀ (H : Heap) (locs : List Loc) (ls : Array Slot), va_P D classes [(o, .inr (6, [v_o_sha, r_signatures, v_o_ripemd, v_a_data, v_a_scriptEnd, .ref a_main, v_a_other, v_a_taken, .int u0, .int i_otherHeight, .int i_ops, .int i_ifs, .int i_ifsNotTaken, .int i_free, r_layout, .int i_tx, .int i_in, r_coin, .int i_messageIsThere])), (a_main, .inl (cy 1, 204, .inl u1))] H → va_D A [(o, .inr (6, [v_o_sha, r_signatures, v_o_ripemd, v_a_data, v_a_scriptEnd, .ref a_main, v_a_other, v_a_taken, .int u0, .int i_otherHeight, .int i_ops, .int i_ifs, .int i_ifsNotTaken, .int i_free, r_layout, .int i_tx, .int i_in, r_coin, .int i_messageIsThere])), (a_main, .inl (cy 1, 204, .inl u1))] → va_S A s.heap H locs → lv_has ls 2 [(0, .ref o), (1, .int a1)] → W p l e rm_Ma_push s m args below meth c H locs 0 0 (MQ below (q_Ma_push D cy A o v_o_sha r_signatures v_o_ripemd v_a_data v_a_scriptEnd v_a_other v_a_taken r_layout r_coin a_main i_otherHeight i_ops i_ifs i_ifsNotTaken i_free i_tx i_in i_messageIsThere res) args s 0 0 A) (F0 m 0 ls [])
set_option maxHeartbeats 8000000 in
set_option maxRecDepth 100000 in
theorem we_Ma_push {p : Program} {l : Launch} {e : Env} {s : State} {m : MethodId} {args : Array Value} {below : List Frame} {meth : Method} {c : Code} {D : va_G} {cy : Nat → ClassId} {A : Nat → Prop} {ad : Nat → Nat} {o : Nat} {v_o_sha : Value} {r_signatures : Value} {v_o_ripemd : Value} {v_a_data : Value} {v_a_scriptEnd : Value} {v_a_other : Value} {v_a_taken : Value} {r_layout : Value} {r_coin : Value} {a_main : Nat} {i_otherHeight : Int32} {i_ops : Int32} {i_ifs : Int32} {i_ifsNotTaken : Int32} {i_free : Int32} {i_tx : Int32} {i_in : Int32} {i_messageIsThere : Int32} {fu : Nat} (F : Fx p s m args meth c b_Ma_push 2 "CoinKeeper$Machine" "push" none D cy ad A) : I_Ma_push_e p l e s m args below meth c D cy A ad o v_o_sha r_signatures v_o_ripemd v_a_data v_a_scriptEnd v_a_other v_a_taken r_layout r_coin a_main i_otherHeight i_ops i_ifs i_ifsNotTaken i_free i_tx i_in i_messageIsThere (x_Ma_push fu i_otherHeight i_ops i_ifs i_ifsNotTaken i_free i_tx i_in i_messageIsThere) := by
  obtain ⟨hx, hb, hr, hml, hown, hts, hlocks, hK, hA, hSt, hnm, hex⟩ := id F
  intro a1 u0 u1 res hf H locs ls hP hD hS hl
  unfold x_Ma_push at hf
  refine lv_aload_n hx hb d_Ma_push_0 rfl (lv_at hl 0 rfl) ?_
  refine va_get (D := D) (ci := 6) (v := .ref a_main) (C := "CoinKeeper$Machine") (T := F_6) (N := 19) hx hb hts i_6 hown hK hP 0 rfl rfl 5 (by decide) (hts _ gw_209) (fun _ h9 => h9) rfl d_Ma_push_1 ?_
  refine lv_aload_n hx hb d_Ma_push_4 rfl (lv_at hl 0 rfl) ?_
  refine va_get (D := D) (ci := 6) (v := .int u0) (C := "CoinKeeper$Machine") (T := F_6) (N := 19) hx hb hts i_6 hown hK hP 0 rfl rfl 8 (by decide) (hts _ gw_212) (fun _ h9 => h9) rfl d_Ma_push_5 ?_
  refine lv_iload_n hx hb d_Ma_push_8 rfl (lv_at hl 1 rfl) ?_
  obtain ⟨hg, hf⟩ := gdp hf
  refine va_iast hx hb hK hP hD hS 1 1 rfl rfl (inb_in hg) d_Ma_push_9 (fun H locs hP hD hS => ?_)
  obtain ⟨f1, ev, hf⟩ := bne hf
  have hP : va_P D classes [(o, .inr (6, [v_o_sha, r_signatures, v_o_ripemd, v_a_data, v_a_scriptEnd, .ref a_main, v_a_other, v_a_taken, .int u0, .int i_otherHeight, .int i_ops, .int i_ifs, .int i_ifsNotTaken, .int i_free, r_layout, .int i_tx, .int i_in, r_coin, .int i_messageIsThere])), (a_main, .inl (cy 1, 204, .inl f1))] H := by rw [ev]; exact hP
  have hD : va_D A [(o, .inr (6, [v_o_sha, r_signatures, v_o_ripemd, v_a_data, v_a_scriptEnd, .ref a_main, v_a_other, v_a_taken, .int u0, .int i_otherHeight, .int i_ops, .int i_ifs, .int i_ifsNotTaken, .int i_free, r_layout, .int i_tx, .int i_in, r_coin, .int i_messageIsThere])), (a_main, .inl (cy 1, 204, .inl f1))] := by rw [ev]; exact hD
  clear ev
  refine lv_aload_n hx hb d_Ma_push_10 rfl (lv_at hl 0 rfl) ?_
  refine lv_dup hx hb d_Ma_push_11 rfl ?_
  refine va_get (D := D) (ci := 6) (v := .int u0) (C := "CoinKeeper$Machine") (T := F_6) (N := 19) hx hb hts i_6 hown hK hP 0 rfl rfl 8 (by decide) (hts _ gw_212) (fun _ h9 => h9) rfl d_Ma_push_12 ?_
  refine lv_iconst (v := 1) hx hb d_Ma_push_15 (by decide) ?_
  refine lv_iadd hx hb d_Ma_push_16 ?_
  refine lv_topi (fun v2 ev => ?_)
  have hf := bn ev hf
  clear ev
  refine va_put (D := D) (ci := 6) (v := .int v2) (ty := .int) (C := "CoinKeeper$Machine") (T := F_6) (N := 19) hx hb hts i_6 t_6 t_6_ok n_6 hown hK hP hD hS 0 rfl rfl 8 (by decide) (hts _ gw_212) (fun _ h9 => h9) rfl (by decide +kernel) rfl rfl (Nat.le_of_ble_eq_true rfl) d_Ma_push_17 (fun H locs hP hD hS => ?_)
  have hP : va_P D classes [(o, .inr (6, [v_o_sha, r_signatures, v_o_ripemd, v_a_data, v_a_scriptEnd, .ref a_main, v_a_other, v_a_taken, .int v2, .int i_otherHeight, .int i_ops, .int i_ifs, .int i_ifsNotTaken, .int i_free, r_layout, .int i_tx, .int i_in, r_coin, .int i_messageIsThere])), (a_main, .inl (cy 1, 204, .inl f1))] H := hP
  have hD : va_D A [(o, .inr (6, [v_o_sha, r_signatures, v_o_ripemd, v_a_data, v_a_scriptEnd, .ref a_main, v_a_other, v_a_taken, .int v2, .int i_otherHeight, .int i_ops, .int i_ifs, .int i_ifsNotTaken, .int i_free, r_layout, .int i_tx, .int i_in, r_coin, .int i_messageIsThere])), (a_main, .inl (cy 1, 204, .inl f1))] := hD
  obtain rfl := Option.some.inj hf
  exact q_rv hx hb hr hlocks hK hP hD hS d_Ma_push_20
theorem c_Ma_push (l : Launch) (D : va_G) (cy : Nat → ClassId) (ad : Nat → Nat) (fu : Nat) (o : Nat) (v_o_sha : Value) (r_signatures : Value) (v_o_ripemd : Value) (v_a_data : Value) (v_a_scriptEnd : Value) (v_a_other : Value) (v_a_taken : Value) (r_layout : Value) (r_coin : Value) (a_main : Nat) (i_otherHeight : Int32) (i_ops : Int32) (i_ifs : Int32) (i_ifsNotTaken : Int32) (i_free : Int32) (i_tx : Int32) (i_in : Int32) (i_messageIsThere : Int32) (a1 : Int32) (u0 : Int32) (u1 : Nat → Int32) (res : Int32 × (Nat → Int32)) (hf : x_Ma_push fu i_otherHeight i_ops i_ifs i_ifsNotTaken i_free i_tx i_in i_messageIsThere a1 u0 u1 = some res) (sz : Nat) : Met l ({ cls := "CoinKeeper$Machine", name := "push", desc := "(I)V" } : Jvm.MethodName) (.code ({ cls := "CoinKeeper$Machine", name := "push", desc := "(I)V" } : Jvm.MethodName) b_Ma_push 2 none :: gw) rm_Ma_push (va_Pc [.ref o, .int a1] (Pr D cy ad [(o, .inr (6, [v_o_sha, r_signatures, v_o_ripemd, v_a_data, v_a_scriptEnd, .ref a_main, v_a_other, v_a_taken, .int u0, .int i_otherHeight, .int i_ops, .int i_ifs, .int i_ifsNotTaken, .int i_free, r_layout, .int i_tx, .int i_in, r_coin, .int i_messageIsThere])), (a_main, .inl (cy 1, 204, .inl u1))] sz)) (q_Ma_push D cy (va_A [(o, .inr (6, [v_o_sha, r_signatures, v_o_ripemd, v_a_data, v_a_scriptEnd, .ref a_main, v_a_other, v_a_taken, .int u0, .int i_otherHeight, .int i_ops, .int i_ifs, .int i_ifsNotTaken, .int i_free, r_layout, .int i_tx, .int i_in, r_coin, .int i_messageIsThere])), (a_main, .inl (cy 1, 204, .inl u1))] sz) o v_o_sha r_signatures v_o_ripemd v_a_data v_a_scriptEnd v_a_other v_a_taken r_layout r_coin a_main i_otherHeight i_ops i_ifs i_ifsNotTaken i_free i_tx i_in i_messageIsThere res) 0 0 (va_A [(o, .inr (6, [v_o_sha, r_signatures, v_o_ripemd, v_a_data, v_a_scriptEnd, .ref a_main, v_a_other, v_a_taken, .int u0, .int i_otherHeight, .int i_ops, .int i_ifs, .int i_ifsNotTaken, .int i_free, r_layout, .int i_tx, .int i_in, r_coin, .int i_messageIsThere])), (a_main, .inl (cy 1, 204, .inl u1))] sz) :=
  q_met (Qc := fun A => q_Ma_push D cy A o v_o_sha r_signatures v_o_ripemd v_a_data v_a_scriptEnd v_a_other v_a_taken r_layout r_coin a_main i_otherHeight i_ops i_ifs i_ifsNotTaken i_free i_tx i_in i_messageIsThere res) (by decide) rfl rfl (Nat.le_of_ble_eq_true rfl) (fun p e s m below meth c ls F hP hD hS hl => we_Ma_push (fu := fu) F a1 u0 u1 res hf _ _ _ hP hD hS hl) sz
abbrev b_Ma_branch : ByteArray := prog_7_method_14_code
theorem d_Ma_branch_0 : decode b_Ma_branch 0 = .ok (.iload_n 1, 1) := by decide +kernel
theorem d_Ma_branch_1 : decode b_Ma_branch 1 = .ok (.bipush 100, 2) := by decide +kernel
theorem d_Ma_branch_3 : decode b_Ma_branch 3 = .ok (.if_icmp .gt 105, 3) := by decide +kernel
theorem d_Ma_branch_6 : decode b_Ma_branch 6 = .ok (.iconst 0, 1) := by decide +kernel
theorem d_Ma_branch_7 : decode b_Ma_branch 7 = .ok (.istore_n 2, 1) := by decide +kernel
theorem d_Ma_branch_8 : decode b_Ma_branch 8 = .ok (.aload_n 0, 1) := by decide +kernel
theorem d_Ma_branch_9 : decode b_Ma_branch 9 = .ok (.getfield 92, 3) := by decide +kernel
theorem d_Ma_branch_12 : decode b_Ma_branch 12 = .ok (.ifCond .ne 56, 3) := by decide +kernel
theorem d_Ma_branch_15 : decode b_Ma_branch 15 = .ok (.aload_n 0, 1) := by decide +kernel
theorem d_Ma_branch_16 : decode b_Ma_branch 16 = .ok (.getfield 73, 3) := by decide +kernel
theorem d_Ma_branch_19 : decode b_Ma_branch 19 = .ok (.iconst 1, 1) := by decide +kernel
theorem d_Ma_branch_20 : decode b_Ma_branch 20 = .ok (.if_icmp .ge 5, 3) := by decide +kernel
theorem d_Ma_branch_23 : decode b_Ma_branch 23 = .ok (.iconst 0, 1) := by decide +kernel
theorem d_Ma_branch_24 : decode b_Ma_branch 24 = .ok (.ireturn, 1) := by decide +kernel
theorem d_Ma_branch_25 : decode b_Ma_branch 25 = .ok (.aload_n 0, 1) := by decide +kernel
theorem d_Ma_branch_26 : decode b_Ma_branch 26 = .ok (.dup, 1) := by decide +kernel
theorem d_Ma_branch_27 : decode b_Ma_branch 27 = .ok (.getfield 73, 3) := by decide +kernel
theorem d_Ma_branch_30 : decode b_Ma_branch 30 = .ok (.iconst 1, 1) := by decide +kernel
theorem d_Ma_branch_31 : decode b_Ma_branch 31 = .ok (.isub, 1) := by decide +kernel
theorem d_Ma_branch_32 : decode b_Ma_branch 32 = .ok (.putfield 73, 3) := by decide +kernel
theorem d_Ma_branch_35 : decode b_Ma_branch 35 = .ok (.aload_n 0, 1) := by decide +kernel
theorem d_Ma_branch_36 : decode b_Ma_branch 36 = .ok (.aload_n 0, 1) := by decide +kernel
theorem d_Ma_branch_37 : decode b_Ma_branch 37 = .ok (.getfield 26, 3) := by decide +kernel
theorem d_Ma_branch_40 : decode b_Ma_branch 40 = .ok (.aload_n 0, 1) := by decide +kernel
theorem d_Ma_branch_41 : decode b_Ma_branch 41 = .ok (.getfield 73, 3) := by decide +kernel
theorem d_Ma_branch_44 : decode b_Ma_branch 44 = .ok (.iaload, 1) := by decide +kernel
theorem d_Ma_branch_45 : decode b_Ma_branch 45 = .ok (.invokevirtual 79, 3) := by decide +kernel
theorem d_Ma_branch_48 : decode b_Ma_branch 48 = .ok (.iload_n 1, 1) := by decide +kernel
theorem d_Ma_branch_49 : decode b_Ma_branch 49 = .ok (.bipush 99, 2) := by decide +kernel
theorem d_Ma_branch_51 : decode b_Ma_branch 51 = .ok (.if_icmp .ne 7, 3) := by decide +kernel
theorem d_Ma_branch_54 : decode b_Ma_branch 54 = .ok (.iconst 1, 1) := by decide +kernel
theorem d_Ma_branch_55 : decode b_Ma_branch 55 = .ok (.goto 4, 3) := by decide +kernel
theorem d_Ma_branch_58 : decode b_Ma_branch 58 = .ok (.iconst 0, 1) := by decide +kernel
theorem d_Ma_branch_59 : decode b_Ma_branch 59 = .ok (.if_icmp .ne 7, 3) := by decide +kernel
theorem d_Ma_branch_62 : decode b_Ma_branch 62 = .ok (.iconst 1, 1) := by decide +kernel
theorem d_Ma_branch_63 : decode b_Ma_branch 63 = .ok (.goto 4, 3) := by decide +kernel
theorem d_Ma_branch_66 : decode b_Ma_branch 66 = .ok (.iconst 0, 1) := by decide +kernel
theorem d_Ma_branch_67 : decode b_Ma_branch 67 = .ok (.istore_n 2, 1) := by decide +kernel
theorem d_Ma_branch_68 : decode b_Ma_branch 68 = .ok (.aload_n 0, 1) := by decide +kernel
theorem d_Ma_branch_69 : decode b_Ma_branch 69 = .ok (.getfield 32, 3) := by decide +kernel
theorem d_Ma_branch_72 : decode b_Ma_branch 72 = .ok (.aload_n 0, 1) := by decide +kernel
theorem d_Ma_branch_73 : decode b_Ma_branch 73 = .ok (.getfield 89, 3) := by decide +kernel
theorem d_Ma_branch_76 : decode b_Ma_branch 76 = .ok (.iload_n 2, 1) := by decide +kernel
theorem d_Ma_branch_77 : decode b_Ma_branch 77 = .ok (.bastore, 1) := by decide +kernel
theorem d_Ma_branch_78 : decode b_Ma_branch 78 = .ok (.aload_n 0, 1) := by decide +kernel
theorem d_Ma_branch_79 : decode b_Ma_branch 79 = .ok (.dup, 1) := by decide +kernel
theorem d_Ma_branch_80 : decode b_Ma_branch 80 = .ok (.getfield 89, 3) := by decide +kernel
theorem d_Ma_branch_83 : decode b_Ma_branch 83 = .ok (.iconst 1, 1) := by decide +kernel
theorem d_Ma_branch_84 : decode b_Ma_branch 84 = .ok (.iadd, 1) := by decide +kernel
theorem d_Ma_branch_85 : decode b_Ma_branch 85 = .ok (.putfield 89, 3) := by decide +kernel
theorem d_Ma_branch_88 : decode b_Ma_branch 88 = .ok (.aload_n 0, 1) := by decide +kernel
theorem d_Ma_branch_89 : decode b_Ma_branch 89 = .ok (.dup, 1) := by decide +kernel
theorem d_Ma_branch_90 : decode b_Ma_branch 90 = .ok (.getfield 92, 3) := by decide +kernel
theorem d_Ma_branch_93 : decode b_Ma_branch 93 = .ok (.iload_n 2, 1) := by decide +kernel
theorem d_Ma_branch_94 : decode b_Ma_branch 94 = .ok (.ifCond .eq 7, 3) := by decide +kernel
theorem d_Ma_branch_97 : decode b_Ma_branch 97 = .ok (.iconst 0, 1) := by decide +kernel
theorem d_Ma_branch_98 : decode b_Ma_branch 98 = .ok (.goto 4, 3) := by decide +kernel
theorem d_Ma_branch_101 : decode b_Ma_branch 101 = .ok (.iconst 1, 1) := by decide +kernel
theorem d_Ma_branch_102 : decode b_Ma_branch 102 = .ok (.iadd, 1) := by decide +kernel
theorem d_Ma_branch_103 : decode b_Ma_branch 103 = .ok (.putfield 92, 3) := by decide +kernel
theorem d_Ma_branch_106 : decode b_Ma_branch 106 = .ok (.iconst 1, 1) := by decide +kernel
theorem d_Ma_branch_107 : decode b_Ma_branch 107 = .ok (.ireturn, 1) := by decide +kernel
theorem d_Ma_branch_108 : decode b_Ma_branch 108 = .ok (.aload_n 0, 1) := by decide +kernel
theorem d_Ma_branch_109 : decode b_Ma_branch 109 = .ok (.getfield 89, 3) := by decide +kernel
theorem d_Ma_branch_112 : decode b_Ma_branch 112 = .ok (.iconst 1, 1) := by decide +kernel
theorem d_Ma_branch_113 : decode b_Ma_branch 113 = .ok (.if_icmp .ge 5, 3) := by decide +kernel
theorem d_Ma_branch_116 : decode b_Ma_branch 116 = .ok (.iconst 0, 1) := by decide +kernel
theorem d_Ma_branch_117 : decode b_Ma_branch 117 = .ok (.ireturn, 1) := by decide +kernel
theorem d_Ma_branch_118 : decode b_Ma_branch 118 = .ok (.iload_n 1, 1) := by decide +kernel
theorem d_Ma_branch_119 : decode b_Ma_branch 119 = .ok (.bipush 103, 2) := by decide +kernel
theorem d_Ma_branch_121 : decode b_Ma_branch 121 = .ok (.if_icmp .ne 63, 3) := by decide +kernel
theorem d_Ma_branch_124 : decode b_Ma_branch 124 = .ok (.aload_n 0, 1) := by decide +kernel
theorem d_Ma_branch_125 : decode b_Ma_branch 125 = .ok (.getfield 32, 3) := by decide +kernel
theorem d_Ma_branch_128 : decode b_Ma_branch 128 = .ok (.aload_n 0, 1) := by decide +kernel
theorem d_Ma_branch_129 : decode b_Ma_branch 129 = .ok (.getfield 89, 3) := by decide +kernel
theorem d_Ma_branch_132 : decode b_Ma_branch 132 = .ok (.iconst 1, 1) := by decide +kernel
theorem d_Ma_branch_133 : decode b_Ma_branch 133 = .ok (.isub, 1) := by decide +kernel
theorem d_Ma_branch_134 : decode b_Ma_branch 134 = .ok (.aload_n 0, 1) := by decide +kernel
theorem d_Ma_branch_135 : decode b_Ma_branch 135 = .ok (.getfield 32, 3) := by decide +kernel
theorem d_Ma_branch_138 : decode b_Ma_branch 138 = .ok (.aload_n 0, 1) := by decide +kernel
theorem d_Ma_branch_139 : decode b_Ma_branch 139 = .ok (.getfield 89, 3) := by decide +kernel
theorem d_Ma_branch_142 : decode b_Ma_branch 142 = .ok (.iconst 1, 1) := by decide +kernel
theorem d_Ma_branch_143 : decode b_Ma_branch 143 = .ok (.isub, 1) := by decide +kernel
theorem d_Ma_branch_144 : decode b_Ma_branch 144 = .ok (.baload, 1) := by decide +kernel
theorem d_Ma_branch_145 : decode b_Ma_branch 145 = .ok (.ifCond .ne 7, 3) := by decide +kernel
theorem d_Ma_branch_148 : decode b_Ma_branch 148 = .ok (.iconst 1, 1) := by decide +kernel
theorem d_Ma_branch_149 : decode b_Ma_branch 149 = .ok (.goto 4, 3) := by decide +kernel
theorem d_Ma_branch_152 : decode b_Ma_branch 152 = .ok (.iconst 0, 1) := by decide +kernel
theorem d_Ma_branch_153 : decode b_Ma_branch 153 = .ok (.bastore, 1) := by decide +kernel
theorem d_Ma_branch_154 : decode b_Ma_branch 154 = .ok (.aload_n 0, 1) := by decide +kernel
theorem d_Ma_branch_155 : decode b_Ma_branch 155 = .ok (.dup, 1) := by decide +kernel
theorem d_Ma_branch_156 : decode b_Ma_branch 156 = .ok (.getfield 92, 3) := by decide +kernel
theorem d_Ma_branch_159 : decode b_Ma_branch 159 = .ok (.aload_n 0, 1) := by decide +kernel
theorem d_Ma_branch_160 : decode b_Ma_branch 160 = .ok (.getfield 32, 3) := by decide +kernel
theorem d_Ma_branch_163 : decode b_Ma_branch 163 = .ok (.aload_n 0, 1) := by decide +kernel
theorem d_Ma_branch_164 : decode b_Ma_branch 164 = .ok (.getfield 89, 3) := by decide +kernel
theorem d_Ma_branch_167 : decode b_Ma_branch 167 = .ok (.iconst 1, 1) := by decide +kernel
theorem d_Ma_branch_168 : decode b_Ma_branch 168 = .ok (.isub, 1) := by decide +kernel
theorem d_Ma_branch_169 : decode b_Ma_branch 169 = .ok (.baload, 1) := by decide +kernel
theorem d_Ma_branch_170 : decode b_Ma_branch 170 = .ok (.ifCond .eq 7, 3) := by decide +kernel
theorem d_Ma_branch_173 : decode b_Ma_branch 173 = .ok (.iconst (-1), 1) := by decide +kernel
theorem d_Ma_branch_174 : decode b_Ma_branch 174 = .ok (.goto 4, 3) := by decide +kernel
theorem d_Ma_branch_177 : decode b_Ma_branch 177 = .ok (.iconst 1, 1) := by decide +kernel
theorem d_Ma_branch_178 : decode b_Ma_branch 178 = .ok (.iadd, 1) := by decide +kernel
theorem d_Ma_branch_179 : decode b_Ma_branch 179 = .ok (.putfield 92, 3) := by decide +kernel
theorem d_Ma_branch_182 : decode b_Ma_branch 182 = .ok (.iconst 1, 1) := by decide +kernel
theorem d_Ma_branch_183 : decode b_Ma_branch 183 = .ok (.ireturn, 1) := by decide +kernel
theorem d_Ma_branch_184 : decode b_Ma_branch 184 = .ok (.aload_n 0, 1) := by decide +kernel
theorem d_Ma_branch_185 : decode b_Ma_branch 185 = .ok (.dup, 1) := by decide +kernel
theorem d_Ma_branch_186 : decode b_Ma_branch 186 = .ok (.getfield 89, 3) := by decide +kernel
theorem d_Ma_branch_189 : decode b_Ma_branch 189 = .ok (.iconst 1, 1) := by decide +kernel
theorem d_Ma_branch_190 : decode b_Ma_branch 190 = .ok (.isub, 1) := by decide +kernel
theorem d_Ma_branch_191 : decode b_Ma_branch 191 = .ok (.putfield 89, 3) := by decide +kernel
theorem d_Ma_branch_194 : decode b_Ma_branch 194 = .ok (.aload_n 0, 1) := by decide +kernel
theorem d_Ma_branch_195 : decode b_Ma_branch 195 = .ok (.dup, 1) := by decide +kernel
theorem d_Ma_branch_196 : decode b_Ma_branch 196 = .ok (.getfield 92, 3) := by decide +kernel
theorem d_Ma_branch_199 : decode b_Ma_branch 199 = .ok (.aload_n 0, 1) := by decide +kernel
theorem d_Ma_branch_200 : decode b_Ma_branch 200 = .ok (.getfield 32, 3) := by decide +kernel
theorem d_Ma_branch_203 : decode b_Ma_branch 203 = .ok (.aload_n 0, 1) := by decide +kernel
theorem d_Ma_branch_204 : decode b_Ma_branch 204 = .ok (.getfield 89, 3) := by decide +kernel
theorem d_Ma_branch_207 : decode b_Ma_branch 207 = .ok (.baload, 1) := by decide +kernel
theorem d_Ma_branch_208 : decode b_Ma_branch 208 = .ok (.ifCond .eq 7, 3) := by decide +kernel
theorem d_Ma_branch_211 : decode b_Ma_branch 211 = .ok (.iconst 0, 1) := by decide +kernel
theorem d_Ma_branch_212 : decode b_Ma_branch 212 = .ok (.goto 4, 3) := by decide +kernel
theorem d_Ma_branch_215 : decode b_Ma_branch 215 = .ok (.iconst 1, 1) := by decide +kernel
theorem d_Ma_branch_216 : decode b_Ma_branch 216 = .ok (.isub, 1) := by decide +kernel
theorem d_Ma_branch_217 : decode b_Ma_branch 217 = .ok (.putfield 92, 3) := by decide +kernel
theorem d_Ma_branch_220 : decode b_Ma_branch 220 = .ok (.iconst 1, 1) := by decide +kernel
theorem d_Ma_branch_221 : decode b_Ma_branch 221 = .ok (.ireturn, 1) := by decide +kernel
abbrev rm_Ma_branch : Room := { frames := 2, cells := 0, slots := 0, locals := 43 }
abbrev q_Ma_branch (D : va_G) (cy : Nat → ClassId) (A : Nat → Prop) (o : Nat) (v_o_sha : Value) (r_signatures : Value) (v_o_ripemd : Value) (v_a_scriptEnd : Value) (v_a_other : Value) (r_layout : Value) (r_coin : Value) (a_data : Nat) (a_main : Nat) (a_taken : Nat) (i_otherHeight : Int32) (i_ops : Int32) (i_free : Int32) (i_tx : Int32) (i_in : Int32) (i_messageIsThere : Int32) (g_data : Nat → Int32) (g_main : Nat → Int32) (res : Int32 × Int32 × Int32 × Int32 × (Nat → Int32)) : Array Value → State → Outcome → State → Prop := va_Qi (fun r' (_ : Unit) => r' = res.1) (fun _ t => Po D cy A [(o, .inr (6, [v_o_sha, r_signatures, v_o_ripemd, .ref a_data, v_a_scriptEnd, .ref a_main, v_a_other, .ref a_taken, .int res.2.1, .int i_otherHeight, .int i_ops, .int res.2.2.1, .int res.2.2.2.1, .int i_free, r_layout, .int i_tx, .int i_in, r_coin, .int i_messageIsThere])), (a_data, .inl (cy 0, 14928, .inl g_data)), (a_main, .inl (cy 1, 204, .inl g_main)), (a_taken, .inl (cy 3, 202, .inl res.2.2.2.2))] t) A
def I_Ma_branch_216 (p : Program) (l : Launch) (e : Env) (s : State) (m : MethodId) (args : Array Value) (below : List Frame) (meth : Method) (c : Code) (D : va_G) (cy : Nat → ClassId) (A : Nat → Prop) (ad : Nat → Nat) (o : Nat) (v_o_sha : Value) (r_signatures : Value) (v_o_ripemd : Value) (v_a_scriptEnd : Value) (v_a_other : Value) (r_layout : Value) (r_coin : Value) (a_data : Nat) (a_main : Nat) (a_taken : Nat) (i_otherHeight : Int32) (i_ops : Int32) (i_free : Int32) (i_tx : Int32) (i_in : Int32) (i_messageIsThere : Int32) (g_data : Nat → Int32) (g_main : Nat → Int32) (k : Int32 → Int32 → Int32 → Int32 → Int32 → (Nat → Int32) → Option (Int32 × Int32 × Int32 × Int32 × (Nat → Int32))) : Prop :=
  ∀ (y0 : Int32) (y1 : Int32) (u0 : Int32) (u1 : Int32) (u2 : Int32) (u3 : Nat → Int32) (res : Int32 × Int32 × Int32 × Int32 × (Nat → Int32)), k y0 y1 u0 u1 u2 u3 = some res → ∀ (H : Heap) (locs : List Loc) (ls : Array Slot), va_P D classes [(o, .inr (6, [v_o_sha, r_signatures, v_o_ripemd, .ref a_data, v_a_scriptEnd, .ref a_main, v_a_other, .ref a_taken, .int u0, .int i_otherHeight, .int i_ops, .int u1, .int u2, .int i_free, r_layout, .int i_tx, .int i_in, r_coin, .int i_messageIsThere])), (a_data, .inl (cy 0, 14928, .inl g_data)), (a_main, .inl (cy 1, 204, .inl g_main)), (a_taken, .inl (cy 3, 202, .inl u3))] H → va_D A [(o, .inr (6, [v_o_sha, r_signatures, v_o_ripemd, .ref a_data, v_a_scriptEnd, .ref a_main, v_a_other, .ref a_taken, .int u0, .int i_otherHeight, .int i_ops, .int u1, .int u2, .int i_free, r_layout, .int i_tx, .int i_in, r_coin, .int i_messageIsThere])), (a_data, .inl (cy 0, 14928, .inl g_data)), (a_main, .inl (cy 1, 204, .inl g_main)), (a_taken, .inl (cy 3, 202, .inl u3))] → va_S A s.heap H locs → lv_has ls 3 [] → W p l e rm_Ma_branch s m args below meth c H locs 0 0 (MQ below (q_Ma_branch D cy A o v_o_sha r_signatures v_o_ripemd v_a_scriptEnd v_a_other r_layout r_coin a_data a_main a_taken i_otherHeight i_ops i_free i_tx i_in i_messageIsThere g_data g_main res) args s 0 0 A) (F0 m 216 ls [.int y0, .int y1, .ref o])
def I_Ma_branch_178 (p : Program) (l : Launch) (e : Env) (s : State) (m : MethodId) (args : Array Value) (below : List Frame) (meth : Method) (c : Code) (D : va_G) (cy : Nat → ClassId) (A : Nat → Prop) (ad : Nat → Nat) (o : Nat) (v_o_sha : Value) (r_signatures : Value) (v_o_ripemd : Value) (v_a_scriptEnd : Value) (v_a_other : Value) (r_layout : Value) (r_coin : Value) (a_data : Nat) (a_main : Nat) (a_taken : Nat) (i_otherHeight : Int32) (i_ops : Int32) (i_free : Int32) (i_tx : Int32) (i_in : Int32) (i_messageIsThere : Int32) (g_data : Nat → Int32) (g_main : Nat → Int32) (k : Int32 → Int32 → Int32 → Int32 → Int32 → (Nat → Int32) → Option (Int32 × Int32 × Int32 × Int32 × (Nat → Int32))) : Prop :=
  ∀ (y0 : Int32) (y1 : Int32) (u0 : Int32) (u1 : Int32) (u2 : Int32) (u3 : Nat → Int32) (res : Int32 × Int32 × Int32 × Int32 × (Nat → Int32)), k y0 y1 u0 u1 u2 u3 = some res → ∀ (H : Heap) (locs : List Loc) (ls : Array Slot), va_P D classes [(o, .inr (6, [v_o_sha, r_signatures, v_o_ripemd, .ref a_data, v_a_scriptEnd, .ref a_main, v_a_other, .ref a_taken, .int u0, .int i_otherHeight, .int i_ops, .int u1, .int u2, .int i_free, r_layout, .int i_tx, .int i_in, r_coin, .int i_messageIsThere])), (a_data, .inl (cy 0, 14928, .inl g_data)), (a_main, .inl (cy 1, 204, .inl g_main)), (a_taken, .inl (cy 3, 202, .inl u3))] H → va_D A [(o, .inr (6, [v_o_sha, r_signatures, v_o_ripemd, .ref a_data, v_a_scriptEnd, .ref a_main, v_a_other, .ref a_taken, .int u0, .int i_otherHeight, .int i_ops, .int u1, .int u2, .int i_free, r_layout, .int i_tx, .int i_in, r_coin, .int i_messageIsThere])), (a_data, .inl (cy 0, 14928, .inl g_data)), (a_main, .inl (cy 1, 204, .inl g_main)), (a_taken, .inl (cy 3, 202, .inl u3))] → va_S A s.heap H locs → lv_has ls 3 [] → W p l e rm_Ma_branch s m args below meth c H locs 0 0 (MQ below (q_Ma_branch D cy A o v_o_sha r_signatures v_o_ripemd v_a_scriptEnd v_a_other r_layout r_coin a_data a_main a_taken i_otherHeight i_ops i_free i_tx i_in i_messageIsThere g_data g_main res) args s 0 0 A) (F0 m 178 ls [.int y0, .int y1, .ref o])
def I_Ma_branch_153 (p : Program) (l : Launch) (e : Env) (s : State) (m : MethodId) (args : Array Value) (below : List Frame) (meth : Method) (c : Code) (D : va_G) (cy : Nat → ClassId) (A : Nat → Prop) (ad : Nat → Nat) (o : Nat) (v_o_sha : Value) (r_signatures : Value) (v_o_ripemd : Value) (v_a_scriptEnd : Value) (v_a_other : Value) (r_layout : Value) (r_coin : Value) (a_data : Nat) (a_main : Nat) (a_taken : Nat) (i_otherHeight : Int32) (i_ops : Int32) (i_free : Int32) (i_tx : Int32) (i_in : Int32) (i_messageIsThere : Int32) (g_data : Nat → Int32) (g_main : Nat → Int32) (k : Int32 → Int32 → Int32 → Int32 → Int32 → (Nat → Int32) → Option (Int32 × Int32 × Int32 × Int32 × (Nat → Int32))) : Prop :=
  ∀ (y0 : Int32) (y1 : Int32) (u0 : Int32) (u1 : Int32) (u2 : Int32) (u3 : Nat → Int32) (res : Int32 × Int32 × Int32 × Int32 × (Nat → Int32)), k y0 y1 u0 u1 u2 u3 = some res → ∀ (H : Heap) (locs : List Loc) (ls : Array Slot), va_P D classes [(o, .inr (6, [v_o_sha, r_signatures, v_o_ripemd, .ref a_data, v_a_scriptEnd, .ref a_main, v_a_other, .ref a_taken, .int u0, .int i_otherHeight, .int i_ops, .int u1, .int u2, .int i_free, r_layout, .int i_tx, .int i_in, r_coin, .int i_messageIsThere])), (a_data, .inl (cy 0, 14928, .inl g_data)), (a_main, .inl (cy 1, 204, .inl g_main)), (a_taken, .inl (cy 3, 202, .inl u3))] H → va_D A [(o, .inr (6, [v_o_sha, r_signatures, v_o_ripemd, .ref a_data, v_a_scriptEnd, .ref a_main, v_a_other, .ref a_taken, .int u0, .int i_otherHeight, .int i_ops, .int u1, .int u2, .int i_free, r_layout, .int i_tx, .int i_in, r_coin, .int i_messageIsThere])), (a_data, .inl (cy 0, 14928, .inl g_data)), (a_main, .inl (cy 1, 204, .inl g_main)), (a_taken, .inl (cy 3, 202, .inl u3))] → va_S A s.heap H locs → lv_has ls 3 [(0, .ref o)] → W p l e rm_Ma_branch s m args below meth c H locs 0 0 (MQ below (q_Ma_branch D cy A o v_o_sha r_signatures v_o_ripemd v_a_scriptEnd v_a_other r_layout r_coin a_data a_main a_taken i_otherHeight i_ops i_free i_tx i_in i_messageIsThere g_data g_main res) args s 0 0 A) (F0 m 153 ls [.int y0, .int y1, .ref a_taken])
def I_Ma_branch_102 (p : Program) (l : Launch) (e : Env) (s : State) (m : MethodId) (args : Array Value) (below : List Frame) (meth : Method) (c : Code) (D : va_G) (cy : Nat → ClassId) (A : Nat → Prop) (ad : Nat → Nat) (o : Nat) (v_o_sha : Value) (r_signatures : Value) (v_o_ripemd : Value) (v_a_scriptEnd : Value) (v_a_other : Value) (r_layout : Value) (r_coin : Value) (a_data : Nat) (a_main : Nat) (a_taken : Nat) (i_otherHeight : Int32) (i_ops : Int32) (i_free : Int32) (i_tx : Int32) (i_in : Int32) (i_messageIsThere : Int32) (g_data : Nat → Int32) (g_main : Nat → Int32) (k : Int32 → Int32 → Int32 → Int32 → Int32 → (Nat → Int32) → Option (Int32 × Int32 × Int32 × Int32 × (Nat → Int32))) : Prop :=
  ∀ (y0 : Int32) (y1 : Int32) (u0 : Int32) (u1 : Int32) (u2 : Int32) (u3 : Nat → Int32) (res : Int32 × Int32 × Int32 × Int32 × (Nat → Int32)), k y0 y1 u0 u1 u2 u3 = some res → ∀ (H : Heap) (locs : List Loc) (ls : Array Slot), va_P D classes [(o, .inr (6, [v_o_sha, r_signatures, v_o_ripemd, .ref a_data, v_a_scriptEnd, .ref a_main, v_a_other, .ref a_taken, .int u0, .int i_otherHeight, .int i_ops, .int u1, .int u2, .int i_free, r_layout, .int i_tx, .int i_in, r_coin, .int i_messageIsThere])), (a_data, .inl (cy 0, 14928, .inl g_data)), (a_main, .inl (cy 1, 204, .inl g_main)), (a_taken, .inl (cy 3, 202, .inl u3))] H → va_D A [(o, .inr (6, [v_o_sha, r_signatures, v_o_ripemd, .ref a_data, v_a_scriptEnd, .ref a_main, v_a_other, .ref a_taken, .int u0, .int i_otherHeight, .int i_ops, .int u1, .int u2, .int i_free, r_layout, .int i_tx, .int i_in, r_coin, .int i_messageIsThere])), (a_data, .inl (cy 0, 14928, .inl g_data)), (a_main, .inl (cy 1, 204, .inl g_main)), (a_taken, .inl (cy 3, 202, .inl u3))] → va_S A s.heap H locs → lv_has ls 3 [] → W p l e rm_Ma_branch s m args below meth c H locs 0 0 (MQ below (q_Ma_branch D cy A o v_o_sha r_signatures v_o_ripemd v_a_scriptEnd v_a_other r_layout r_coin a_data a_main a_taken i_otherHeight i_ops i_free i_tx i_in i_messageIsThere g_data g_main res) args s 0 0 A) (F0 m 102 ls [.int y0, .int y1, .ref o])
def I_Ma_branch_68 (p : Program) (l : Launch) (e : Env) (s : State) (m : MethodId) (args : Array Value) (below : List Frame) (meth : Method) (c : Code) (D : va_G) (cy : Nat → ClassId) (A : Nat → Prop) (ad : Nat → Nat) (o : Nat) (v_o_sha : Value) (r_signatures : Value) (v_o_ripemd : Value) (v_a_scriptEnd : Value) (v_a_other : Value) (r_layout : Value) (r_coin : Value) (a_data : Nat) (a_main : Nat) (a_taken : Nat) (i_otherHeight : Int32) (i_ops : Int32) (i_free : Int32) (i_tx : Int32) (i_in : Int32) (i_messageIsThere : Int32) (g_data : Nat → Int32) (g_main : Nat → Int32) (k : Int32 → Int32 → Int32 → Int32 → (Nat → Int32) → Option (Int32 × Int32 × Int32 × Int32 × (Nat → Int32))) : Prop :=
  ∀ (x2 : Int32) (u0 : Int32) (u1 : Int32) (u2 : Int32) (u3 : Nat → Int32) (res : Int32 × Int32 × Int32 × Int32 × (Nat → Int32)), k x2 u0 u1 u2 u3 = some res → ∀ (H : Heap) (locs : List Loc) (ls : Array Slot), va_P D classes [(o, .inr (6, [v_o_sha, r_signatures, v_o_ripemd, .ref a_data, v_a_scriptEnd, .ref a_main, v_a_other, .ref a_taken, .int u0, .int i_otherHeight, .int i_ops, .int u1, .int u2, .int i_free, r_layout, .int i_tx, .int i_in, r_coin, .int i_messageIsThere])), (a_data, .inl (cy 0, 14928, .inl g_data)), (a_main, .inl (cy 1, 204, .inl g_main)), (a_taken, .inl (cy 3, 202, .inl u3))] H → va_D A [(o, .inr (6, [v_o_sha, r_signatures, v_o_ripemd, .ref a_data, v_a_scriptEnd, .ref a_main, v_a_other, .ref a_taken, .int u0, .int i_otherHeight, .int i_ops, .int u1, .int u2, .int i_free, r_layout, .int i_tx, .int i_in, r_coin, .int i_messageIsThere])), (a_data, .inl (cy 0, 14928, .inl g_data)), (a_main, .inl (cy 1, 204, .inl g_main)), (a_taken, .inl (cy 3, 202, .inl u3))] → va_S A s.heap H locs → lv_has ls 3 [(0, .ref o), (2, .int x2)] → W p l e rm_Ma_branch s m args below meth c H locs 0 0 (MQ below (q_Ma_branch D cy A o v_o_sha r_signatures v_o_ripemd v_a_scriptEnd v_a_other r_layout r_coin a_data a_main a_taken i_otherHeight i_ops i_free i_tx i_in i_messageIsThere g_data g_main res) args s 0 0 A) (F0 m 68 ls [])
def I_Ma_branch_67 (p : Program) (l : Launch) (e : Env) (s : State) (m : MethodId) (args : Array Value) (below : List Frame) (meth : Method) (c : Code) (D : va_G) (cy : Nat → ClassId) (A : Nat → Prop) (ad : Nat → Nat) (o : Nat) (v_o_sha : Value) (r_signatures : Value) (v_o_ripemd : Value) (v_a_scriptEnd : Value) (v_a_other : Value) (r_layout : Value) (r_coin : Value) (a_data : Nat) (a_main : Nat) (a_taken : Nat) (i_otherHeight : Int32) (i_ops : Int32) (i_free : Int32) (i_tx : Int32) (i_in : Int32) (i_messageIsThere : Int32) (g_data : Nat → Int32) (g_main : Nat → Int32) (k : Int32 → Int32 → Int32 → Int32 → (Nat → Int32) → Option (Int32 × Int32 × Int32 × Int32 × (Nat → Int32))) : Prop :=
  ∀ (y0 : Int32) (u0 : Int32) (u1 : Int32) (u2 : Int32) (u3 : Nat → Int32) (res : Int32 × Int32 × Int32 × Int32 × (Nat → Int32)), k y0 u0 u1 u2 u3 = some res → ∀ (H : Heap) (locs : List Loc) (ls : Array Slot), va_P D classes [(o, .inr (6, [v_o_sha, r_signatures, v_o_ripemd, .ref a_data, v_a_scriptEnd, .ref a_main, v_a_other, .ref a_taken, .int u0, .int i_otherHeight, .int i_ops, .int u1, .int u2, .int i_free, r_layout, .int i_tx, .int i_in, r_coin, .int i_messageIsThere])), (a_data, .inl (cy 0, 14928, .inl g_data)), (a_main, .inl (cy 1, 204, .inl g_main)), (a_taken, .inl (cy 3, 202, .inl u3))] H → va_D A [(o, .inr (6, [v_o_sha, r_signatures, v_o_ripemd, .ref a_data, v_a_scriptEnd, .ref a_main, v_a_other, .ref a_taken, .int u0, .int i_otherHeight, .int i_ops, .int u1, .int u2, .int i_free, r_layout, .int i_tx, .int i_in, r_coin, .int i_messageIsThere])), (a_data, .inl (cy 0, 14928, .inl g_data)), (a_main, .inl (cy 1, 204, .inl g_main)), (a_taken, .inl (cy 3, 202, .inl u3))] → va_S A s.heap H locs → lv_has ls 3 [(0, .ref o)] → W p l e rm_Ma_branch s m args below meth c H locs 0 0 (MQ below (q_Ma_branch D cy A o v_o_sha r_signatures v_o_ripemd v_a_scriptEnd v_a_other r_layout r_coin a_data a_main a_taken i_otherHeight i_ops i_free i_tx i_in i_messageIsThere g_data g_main res) args s 0 0 A) (F0 m 67 ls [.int y0])
def I_Ma_branch_59 (p : Program) (l : Launch) (e : Env) (s : State) (m : MethodId) (args : Array Value) (below : List Frame) (meth : Method) (c : Code) (D : va_G) (cy : Nat → ClassId) (A : Nat → Prop) (ad : Nat → Nat) (o : Nat) (v_o_sha : Value) (r_signatures : Value) (v_o_ripemd : Value) (v_a_scriptEnd : Value) (v_a_other : Value) (r_layout : Value) (r_coin : Value) (a_data : Nat) (a_main : Nat) (a_taken : Nat) (i_otherHeight : Int32) (i_ops : Int32) (i_free : Int32) (i_tx : Int32) (i_in : Int32) (i_messageIsThere : Int32) (g_data : Nat → Int32) (g_main : Nat → Int32) (k : Int32 → Int32 → Int32 → Int32 → Int32 → (Nat → Int32) → Option (Int32 × Int32 × Int32 × Int32 × (Nat → Int32))) : Prop :=
  ∀ (y0 : Int32) (y1 : Int32) (u0 : Int32) (u1 : Int32) (u2 : Int32) (u3 : Nat → Int32) (res : Int32 × Int32 × Int32 × Int32 × (Nat → Int32)), k y0 y1 u0 u1 u2 u3 = some res → ∀ (H : Heap) (locs : List Loc) (ls : Array Slot), va_P D classes [(o, .inr (6, [v_o_sha, r_signatures, v_o_ripemd, .ref a_data, v_a_scriptEnd, .ref a_main, v_a_other, .ref a_taken, .int u0, .int i_otherHeight, .int i_ops, .int u1, .int u2, .int i_free, r_layout, .int i_tx, .int i_in, r_coin, .int i_messageIsThere])), (a_data, .inl (cy 0, 14928, .inl g_data)), (a_main, .inl (cy 1, 204, .inl g_main)), (a_taken, .inl (cy 3, 202, .inl u3))] H → va_D A [(o, .inr (6, [v_o_sha, r_signatures, v_o_ripemd, .ref a_data, v_a_scriptEnd, .ref a_main, v_a_other, .ref a_taken, .int u0, .int i_otherHeight, .int i_ops, .int u1, .int u2, .int i_free, r_layout, .int i_tx, .int i_in, r_coin, .int i_messageIsThere])), (a_data, .inl (cy 0, 14928, .inl g_data)), (a_main, .inl (cy 1, 204, .inl g_main)), (a_taken, .inl (cy 3, 202, .inl u3))] → va_S A s.heap H locs → lv_has ls 3 [(0, .ref o)] → W p l e rm_Ma_branch s m args below meth c H locs 0 0 (MQ below (q_Ma_branch D cy A o v_o_sha r_signatures v_o_ripemd v_a_scriptEnd v_a_other r_layout r_coin a_data a_main a_taken i_otherHeight i_ops i_free i_tx i_in i_messageIsThere g_data g_main res) args s 0 0 A) (F0 m 59 ls [.int y0, .int y1])
def I_Ma_branch_e (p : Program) (l : Launch) (e : Env) (s : State) (m : MethodId) (args : Array Value) (below : List Frame) (meth : Method) (c : Code) (D : va_G) (cy : Nat → ClassId) (A : Nat → Prop) (ad : Nat → Nat) (o : Nat) (v_o_sha : Value) (r_signatures : Value) (v_o_ripemd : Value) (v_a_scriptEnd : Value) (v_a_other : Value) (r_layout : Value) (r_coin : Value) (a_data : Nat) (a_main : Nat) (a_taken : Nat) (i_otherHeight : Int32) (i_ops : Int32) (i_free : Int32) (i_tx : Int32) (i_in : Int32) (i_messageIsThere : Int32) (g_data : Nat → Int32) (g_main : Nat → Int32) (k : Int32 → Int32 → Int32 → Int32 → (Nat → Int32) → Option (Int32 × Int32 × Int32 × Int32 × (Nat → Int32))) : Prop :=
  ∀ (a1 : Int32) (u0 : Int32) (u1 : Int32) (u2 : Int32) (u3 : Nat → Int32) (res : Int32 × Int32 × Int32 × Int32 × (Nat → Int32)), k a1 u0 u1 u2 u3 = some res → ∀ (H : Heap) (locs : List Loc) (ls : Array Slot), va_P D classes [(o, .inr (6, [v_o_sha, r_signatures, v_o_ripemd, .ref a_data, v_a_scriptEnd, .ref a_main, v_a_other, .ref a_taken, .int u0, .int i_otherHeight, .int i_ops, .int u1, .int u2, .int i_free, r_layout, .int i_tx, .int i_in, r_coin, .int i_messageIsThere])), (a_data, .inl (cy 0, 14928, .inl g_data)), (a_main, .inl (cy 1, 204, .inl g_main)), (a_taken, .inl (cy 3, 202, .inl u3))] H → va_D A [(o, .inr (6, [v_o_sha, r_signatures, v_o_ripemd, .ref a_data, v_a_scriptEnd, .ref a_main, v_a_other, .ref a_taken, .int u0, .int i_otherHeight, .int i_ops, .int u1, .int u2, .int i_free, r_layout, .int i_tx, .int i_in, r_coin, .int i_messageIsThere])), (a_data, .inl (cy 0, 14928, .inl g_data)), (a_main, .inl (cy 1, 204, .inl g_main)), (a_taken, .inl (cy 3, 202, .inl u3))] → va_S A s.heap H locs → lv_has ls 3 [(0, .ref o), (1, .int a1)] → W p l e rm_Ma_branch s m args below meth c H locs 0 0 (MQ below (q_Ma_branch D cy A o v_o_sha r_signatures v_o_ripemd v_a_scriptEnd v_a_other r_layout r_coin a_data a_main a_taken i_otherHeight i_ops i_free i_tx i_in i_messageIsThere g_data g_main res) args s 0 0 A) (F0 m 0 ls [])
set_option maxHeartbeats 8000000 in
set_option maxRecDepth 100000 in
theorem wb_Ma_branch_216 {p : Program} {l : Launch} {e : Env} {s : State} {m : MethodId} {args : Array Value} {below : List Frame} {meth : Method} {c : Code} {D : va_G} {cy : Nat → ClassId} {A : Nat → Prop} {ad : Nat → Nat} {o : Nat} {v_o_sha : Value} {r_signatures : Value} {v_o_ripemd : Value} {v_a_scriptEnd : Value} {v_a_other : Value} {r_layout : Value} {r_coin : Value} {a_data : Nat} {a_main : Nat} {a_taken : Nat} {i_otherHeight : Int32} {i_ops : Int32} {i_free : Int32} {i_tx : Int32} {i_in : Int32} {i_messageIsThere : Int32} {g_data : Nat → Int32} {g_main : Nat → Int32} {fu : Nat} (F : Fx p s m args meth c b_Ma_branch 3 "CoinKeeper$Machine" "branch" (some .boolean) D cy ad A) : I_Ma_branch_216 p l e s m args below meth c D cy A ad o v_o_sha r_signatures v_o_ripemd v_a_scriptEnd v_a_other r_layout r_coin a_data a_main a_taken i_otherHeight i_ops i_free i_tx i_in i_messageIsThere g_data g_main (xb_Ma_branch_216 fu i_otherHeight i_ops i_free i_tx i_in i_messageIsThere g_data g_main) := by
  obtain ⟨hx, hb, hr, hml, hown, hts, hlocks, hK, hA, hSt, hnm, hex⟩ := id F
  intro y0 y1 u0 u1 u2 u3 res hf H locs ls hP hD hS hl
  unfold xb_Ma_branch_216 at hf
  refine lv_isub hx hb d_Ma_branch_216 ?_
  refine lv_topi (fun v1 ev => ?_)
  have hf := bn ev hf
  clear ev
  refine va_put (D := D) (ci := 6) (v := .int v1) (ty := .int) (C := "CoinKeeper$Machine") (T := F_6) (N := 19) hx hb hts i_6 t_6 t_6_ok n_6 hown hK hP hD hS 0 rfl rfl 12 (by decide) (hts _ gw_216) (fun _ h9 => h9) rfl (by decide +kernel) rfl rfl (Nat.le_of_ble_eq_true rfl) d_Ma_branch_217 (fun H locs hP hD hS => ?_)
  have hP : va_P D classes [(o, .inr (6, [v_o_sha, r_signatures, v_o_ripemd, .ref a_data, v_a_scriptEnd, .ref a_main, v_a_other, .ref a_taken, .int u0, .int i_otherHeight, .int i_ops, .int u1, .int v1, .int i_free, r_layout, .int i_tx, .int i_in, r_coin, .int i_messageIsThere])), (a_data, .inl (cy 0, 14928, .inl g_data)), (a_main, .inl (cy 1, 204, .inl g_main)), (a_taken, .inl (cy 3, 202, .inl u3))] H := hP
  have hD : va_D A [(o, .inr (6, [v_o_sha, r_signatures, v_o_ripemd, .ref a_data, v_a_scriptEnd, .ref a_main, v_a_other, .ref a_taken, .int u0, .int i_otherHeight, .int i_ops, .int u1, .int v1, .int i_free, r_layout, .int i_tx, .int i_in, r_coin, .int i_messageIsThere])), (a_data, .inl (cy 0, 14928, .inl g_data)), (a_main, .inl (cy 1, 204, .inl g_main)), (a_taken, .inl (cy 3, 202, .inl u3))] := hD
  refine lv_iconst (v := 1) hx hb d_Ma_branch_220 (by decide) ?_
  obtain rfl := Option.some.inj hf
  exact q_rz hx hb hr hlocks hK hP hD hS (isb_n (v := 1) (by decide)) d_Ma_branch_221
set_option maxHeartbeats 8000000 in
set_option maxRecDepth 100000 in
theorem wb_Ma_branch_178 {p : Program} {l : Launch} {e : Env} {s : State} {m : MethodId} {args : Array Value} {below : List Frame} {meth : Method} {c : Code} {D : va_G} {cy : Nat → ClassId} {A : Nat → Prop} {ad : Nat → Nat} {o : Nat} {v_o_sha : Value} {r_signatures : Value} {v_o_ripemd : Value} {v_a_scriptEnd : Value} {v_a_other : Value} {r_layout : Value} {r_coin : Value} {a_data : Nat} {a_main : Nat} {a_taken : Nat} {i_otherHeight : Int32} {i_ops : Int32} {i_free : Int32} {i_tx : Int32} {i_in : Int32} {i_messageIsThere : Int32} {g_data : Nat → Int32} {g_main : Nat → Int32} {fu : Nat} (F : Fx p s m args meth c b_Ma_branch 3 "CoinKeeper$Machine" "branch" (some .boolean) D cy ad A) : I_Ma_branch_178 p l e s m args below meth c D cy A ad o v_o_sha r_signatures v_o_ripemd v_a_scriptEnd v_a_other r_layout r_coin a_data a_main a_taken i_otherHeight i_ops i_free i_tx i_in i_messageIsThere g_data g_main (xb_Ma_branch_178 fu i_otherHeight i_ops i_free i_tx i_in i_messageIsThere g_data g_main) := by
  obtain ⟨hx, hb, hr, hml, hown, hts, hlocks, hK, hA, hSt, hnm, hex⟩ := id F
  intro y0 y1 u0 u1 u2 u3 res hf H locs ls hP hD hS hl
  unfold xb_Ma_branch_178 at hf
  refine lv_iadd hx hb d_Ma_branch_178 ?_
  refine lv_topi (fun v1 ev => ?_)
  have hf := bn ev hf
  clear ev
  refine va_put (D := D) (ci := 6) (v := .int v1) (ty := .int) (C := "CoinKeeper$Machine") (T := F_6) (N := 19) hx hb hts i_6 t_6 t_6_ok n_6 hown hK hP hD hS 0 rfl rfl 12 (by decide) (hts _ gw_216) (fun _ h9 => h9) rfl (by decide +kernel) rfl rfl (Nat.le_of_ble_eq_true rfl) d_Ma_branch_179 (fun H locs hP hD hS => ?_)
  have hP : va_P D classes [(o, .inr (6, [v_o_sha, r_signatures, v_o_ripemd, .ref a_data, v_a_scriptEnd, .ref a_main, v_a_other, .ref a_taken, .int u0, .int i_otherHeight, .int i_ops, .int u1, .int v1, .int i_free, r_layout, .int i_tx, .int i_in, r_coin, .int i_messageIsThere])), (a_data, .inl (cy 0, 14928, .inl g_data)), (a_main, .inl (cy 1, 204, .inl g_main)), (a_taken, .inl (cy 3, 202, .inl u3))] H := hP
  have hD : va_D A [(o, .inr (6, [v_o_sha, r_signatures, v_o_ripemd, .ref a_data, v_a_scriptEnd, .ref a_main, v_a_other, .ref a_taken, .int u0, .int i_otherHeight, .int i_ops, .int u1, .int v1, .int i_free, r_layout, .int i_tx, .int i_in, r_coin, .int i_messageIsThere])), (a_data, .inl (cy 0, 14928, .inl g_data)), (a_main, .inl (cy 1, 204, .inl g_main)), (a_taken, .inl (cy 3, 202, .inl u3))] := hD
  refine lv_iconst (v := 1) hx hb d_Ma_branch_182 (by decide) ?_
  obtain rfl := Option.some.inj hf
  exact q_rz hx hb hr hlocks hK hP hD hS (isb_n (v := 1) (by decide)) d_Ma_branch_183
set_option maxHeartbeats 8000000 in
set_option maxRecDepth 100000 in
theorem wb_Ma_branch_153 {p : Program} {l : Launch} {e : Env} {s : State} {m : MethodId} {args : Array Value} {below : List Frame} {meth : Method} {c : Code} {D : va_G} {cy : Nat → ClassId} {A : Nat → Prop} {ad : Nat → Nat} {o : Nat} {v_o_sha : Value} {r_signatures : Value} {v_o_ripemd : Value} {v_a_scriptEnd : Value} {v_a_other : Value} {r_layout : Value} {r_coin : Value} {a_data : Nat} {a_main : Nat} {a_taken : Nat} {i_otherHeight : Int32} {i_ops : Int32} {i_free : Int32} {i_tx : Int32} {i_in : Int32} {i_messageIsThere : Int32} {g_data : Nat → Int32} {g_main : Nat → Int32} {fu : Nat} (F : Fx p s m args meth c b_Ma_branch 3 "CoinKeeper$Machine" "branch" (some .boolean) D cy ad A) : I_Ma_branch_153 p l e s m args below meth c D cy A ad o v_o_sha r_signatures v_o_ripemd v_a_scriptEnd v_a_other r_layout r_coin a_data a_main a_taken i_otherHeight i_ops i_free i_tx i_in i_messageIsThere g_data g_main (xb_Ma_branch_153 fu i_otherHeight i_ops i_free i_tx i_in i_messageIsThere g_data g_main) := by
  obtain ⟨hx, hb, hr, hml, hown, hts, hlocks, hK, hA, hSt, hnm, hex⟩ := id F
  intro y0 y1 u0 u1 u2 u3 res hf H locs ls hP hD hS hl
  unfold xb_Ma_branch_153 at hf
  obtain ⟨hg, hf⟩ := gdp hf
  refine va_zast hx hb hK hP hD hS 3 3 rfl rfl (inb_in hg) d_Ma_branch_153 (fun H locs hP hD hS => ?_)
  obtain ⟨f1, ev, hf⟩ := bne hf
  have hP : va_P D classes [(o, .inr (6, [v_o_sha, r_signatures, v_o_ripemd, .ref a_data, v_a_scriptEnd, .ref a_main, v_a_other, .ref a_taken, .int u0, .int i_otherHeight, .int i_ops, .int u1, .int u2, .int i_free, r_layout, .int i_tx, .int i_in, r_coin, .int i_messageIsThere])), (a_data, .inl (cy 0, 14928, .inl g_data)), (a_main, .inl (cy 1, 204, .inl g_main)), (a_taken, .inl (cy 3, 202, .inl f1))] H := by rw [ev]; exact hP
  have hD : va_D A [(o, .inr (6, [v_o_sha, r_signatures, v_o_ripemd, .ref a_data, v_a_scriptEnd, .ref a_main, v_a_other, .ref a_taken, .int u0, .int i_otherHeight, .int i_ops, .int u1, .int u2, .int i_free, r_layout, .int i_tx, .int i_in, r_coin, .int i_messageIsThere])), (a_data, .inl (cy 0, 14928, .inl g_data)), (a_main, .inl (cy 1, 204, .inl g_main)), (a_taken, .inl (cy 3, 202, .inl f1))] := by rw [ev]; exact hD
  clear ev
  refine lv_aload_n hx hb d_Ma_branch_154 rfl (lv_at hl 0 rfl) ?_
  refine lv_dup hx hb d_Ma_branch_155 rfl ?_
  refine va_get (D := D) (ci := 6) (v := .int u2) (C := "CoinKeeper$Machine") (T := F_6) (N := 19) hx hb hts i_6 hown hK hP 0 rfl rfl 12 (by decide) (hts _ gw_216) (fun _ h9 => h9) rfl d_Ma_branch_156 ?_
  refine lv_aload_n hx hb d_Ma_branch_159 rfl (lv_at hl 0 rfl) ?_
  refine va_get (D := D) (ci := 6) (v := .ref a_taken) (C := "CoinKeeper$Machine") (T := F_6) (N := 19) hx hb hts i_6 hown hK hP 0 rfl rfl 7 (by decide) (hts _ gw_211) (fun _ h9 => h9) rfl d_Ma_branch_160 ?_
  refine lv_aload_n hx hb d_Ma_branch_163 rfl (lv_at hl 0 rfl) ?_
  refine va_get (D := D) (ci := 6) (v := .int u1) (C := "CoinKeeper$Machine") (T := F_6) (N := 19) hx hb hts i_6 hown hK hP 0 rfl rfl 11 (by decide) (hts _ gw_215) (fun _ h9 => h9) rfl d_Ma_branch_164 ?_
  refine lv_iconst (v := 1) hx hb d_Ma_branch_167 (by decide) ?_
  refine lv_isub hx hb d_Ma_branch_168 ?_
  refine lv_topi (fun v2 ev => ?_)
  have hf := bn ev hf
  clear ev
  obtain ⟨hg, hf⟩ := gdp hf
  refine va_zald hx hb hK hP 3 3 rfl rfl (inb_in hg) d_Ma_branch_169 ?_
  refine lv_topi (fun v3 ev => ?_)
  have hf := bn ev hf
  clear ev
  refine lv_if_eq (tgt := 177) hx hb d_Ma_branch_170 (by decide) (fun cx => ?_) (fun cx => ?_)
  · have hf := ifp cx hf
    refine lv_iconst (v := 1) hx hb d_Ma_branch_177 (by decide) ?_
    exact wb_Ma_branch_178 (fu := fu) F _ _ _ _ _ _ _ hf _ _ _ hP hD hS (lv_sub hl [] rfl)
  · have hf := ifn cx hf
    refine lv_iconst (v := (-1)) hx hb d_Ma_branch_173 (by decide) ?_
    refine lv_goto (tgt := 178) hx hb d_Ma_branch_174 (by decide) ?_
    exact wb_Ma_branch_178 (fu := fu) F _ _ _ _ _ _ _ hf _ _ _ hP hD hS (lv_sub hl [] rfl)
set_option maxHeartbeats 8000000 in
set_option maxRecDepth 100000 in
theorem wb_Ma_branch_102 {p : Program} {l : Launch} {e : Env} {s : State} {m : MethodId} {args : Array Value} {below : List Frame} {meth : Method} {c : Code} {D : va_G} {cy : Nat → ClassId} {A : Nat → Prop} {ad : Nat → Nat} {o : Nat} {v_o_sha : Value} {r_signatures : Value} {v_o_ripemd : Value} {v_a_scriptEnd : Value} {v_a_other : Value} {r_layout : Value} {r_coin : Value} {a_data : Nat} {a_main : Nat} {a_taken : Nat} {i_otherHeight : Int32} {i_ops : Int32} {i_free : Int32} {i_tx : Int32} {i_in : Int32} {i_messageIsThere : Int32} {g_data : Nat → Int32} {g_main : Nat → Int32} {fu : Nat} (F : Fx p s m args meth c b_Ma_branch 3 "CoinKeeper$Machine" "branch" (some .boolean) D cy ad A) : I_Ma_branch_102 p l e s m args below meth c D cy A ad o v_o_sha r_signatures v_o_ripemd v_a_scriptEnd v_a_other r_layout r_coin a_data a_main a_taken i_otherHeight i_ops i_free i_tx i_in i_messageIsThere g_data g_main (xb_Ma_branch_102 fu i_otherHeight i_ops i_free i_tx i_in i_messageIsThere g_data g_main) := by
  obtain ⟨hx, hb, hr, hml, hown, hts, hlocks, hK, hA, hSt, hnm, hex⟩ := id F
  intro y0 y1 u0 u1 u2 u3 res hf H locs ls hP hD hS hl
  unfold xb_Ma_branch_102 at hf
  refine lv_iadd hx hb d_Ma_branch_102 ?_
  refine lv_topi (fun v1 ev => ?_)
  have hf := bn ev hf
  clear ev
  refine va_put (D := D) (ci := 6) (v := .int v1) (ty := .int) (C := "CoinKeeper$Machine") (T := F_6) (N := 19) hx hb hts i_6 t_6 t_6_ok n_6 hown hK hP hD hS 0 rfl rfl 12 (by decide) (hts _ gw_216) (fun _ h9 => h9) rfl (by decide +kernel) rfl rfl (Nat.le_of_ble_eq_true rfl) d_Ma_branch_103 (fun H locs hP hD hS => ?_)
  have hP : va_P D classes [(o, .inr (6, [v_o_sha, r_signatures, v_o_ripemd, .ref a_data, v_a_scriptEnd, .ref a_main, v_a_other, .ref a_taken, .int u0, .int i_otherHeight, .int i_ops, .int u1, .int v1, .int i_free, r_layout, .int i_tx, .int i_in, r_coin, .int i_messageIsThere])), (a_data, .inl (cy 0, 14928, .inl g_data)), (a_main, .inl (cy 1, 204, .inl g_main)), (a_taken, .inl (cy 3, 202, .inl u3))] H := hP
  have hD : va_D A [(o, .inr (6, [v_o_sha, r_signatures, v_o_ripemd, .ref a_data, v_a_scriptEnd, .ref a_main, v_a_other, .ref a_taken, .int u0, .int i_otherHeight, .int i_ops, .int u1, .int v1, .int i_free, r_layout, .int i_tx, .int i_in, r_coin, .int i_messageIsThere])), (a_data, .inl (cy 0, 14928, .inl g_data)), (a_main, .inl (cy 1, 204, .inl g_main)), (a_taken, .inl (cy 3, 202, .inl u3))] := hD
  refine lv_iconst (v := 1) hx hb d_Ma_branch_106 (by decide) ?_
  obtain rfl := Option.some.inj hf
  exact q_rz hx hb hr hlocks hK hP hD hS (isb_n (v := 1) (by decide)) d_Ma_branch_107
set_option maxHeartbeats 8000000 in
set_option maxRecDepth 100000 in
theorem wb_Ma_branch_68 {p : Program} {l : Launch} {e : Env} {s : State} {m : MethodId} {args : Array Value} {below : List Frame} {meth : Method} {c : Code} {D : va_G} {cy : Nat → ClassId} {A : Nat → Prop} {ad : Nat → Nat} {o : Nat} {v_o_sha : Value} {r_signatures : Value} {v_o_ripemd : Value} {v_a_scriptEnd : Value} {v_a_other : Value} {r_layout : Value} {r_coin : Value} {a_data : Nat} {a_main : Nat} {a_taken : Nat} {i_otherHeight : Int32} {i_ops : Int32} {i_free : Int32} {i_tx : Int32} {i_in : Int32} {i_messageIsThere : Int32} {g_data : Nat → Int32} {g_main : Nat → Int32} {fu : Nat} (F : Fx p s m args meth c b_Ma_branch 3 "CoinKeeper$Machine" "branch" (some .boolean) D cy ad A) : I_Ma_branch_68 p l e s m args below meth c D cy A ad o v_o_sha r_signatures v_o_ripemd v_a_scriptEnd v_a_other r_layout r_coin a_data a_main a_taken i_otherHeight i_ops i_free i_tx i_in i_messageIsThere g_data g_main (xb_Ma_branch_68 fu i_otherHeight i_ops i_free i_tx i_in i_messageIsThere g_data g_main) := by
  obtain ⟨hx, hb, hr, hml, hown, hts, hlocks, hK, hA, hSt, hnm, hex⟩ := id F
  intro x2 u0 u1 u2 u3 res hf H locs ls hP hD hS hl
  unfold xb_Ma_branch_68 at hf
  refine lv_aload_n hx hb d_Ma_branch_68 rfl (lv_at hl 0 rfl) ?_
  refine va_get (D := D) (ci := 6) (v := .ref a_taken) (C := "CoinKeeper$Machine") (T := F_6) (N := 19) hx hb hts i_6 hown hK hP 0 rfl rfl 7 (by decide) (hts _ gw_211) (fun _ h9 => h9) rfl d_Ma_branch_69 ?_
  refine lv_aload_n hx hb d_Ma_branch_72 rfl (lv_at hl 0 rfl) ?_
  refine va_get (D := D) (ci := 6) (v := .int u1) (C := "CoinKeeper$Machine") (T := F_6) (N := 19) hx hb hts i_6 hown hK hP 0 rfl rfl 11 (by decide) (hts _ gw_215) (fun _ h9 => h9) rfl d_Ma_branch_73 ?_
  refine lv_iload_n hx hb d_Ma_branch_76 rfl (lv_at hl 1 rfl) ?_
  obtain ⟨hg, hf⟩ := gdp hf
  refine va_zast hx hb hK hP hD hS 3 3 rfl rfl (inb_in hg) d_Ma_branch_77 (fun H locs hP hD hS => ?_)
  obtain ⟨f1, ev, hf⟩ := bne hf
  have hP : va_P D classes [(o, .inr (6, [v_o_sha, r_signatures, v_o_ripemd, .ref a_data, v_a_scriptEnd, .ref a_main, v_a_other, .ref a_taken, .int u0, .int i_otherHeight, .int i_ops, .int u1, .int u2, .int i_free, r_layout, .int i_tx, .int i_in, r_coin, .int i_messageIsThere])), (a_data, .inl (cy 0, 14928, .inl g_data)), (a_main, .inl (cy 1, 204, .inl g_main)), (a_taken, .inl (cy 3, 202, .inl f1))] H := by rw [ev]; exact hP
  have hD : va_D A [(o, .inr (6, [v_o_sha, r_signatures, v_o_ripemd, .ref a_data, v_a_scriptEnd, .ref a_main, v_a_other, .ref a_taken, .int u0, .int i_otherHeight, .int i_ops, .int u1, .int u2, .int i_free, r_layout, .int i_tx, .int i_in, r_coin, .int i_messageIsThere])), (a_data, .inl (cy 0, 14928, .inl g_data)), (a_main, .inl (cy 1, 204, .inl g_main)), (a_taken, .inl (cy 3, 202, .inl f1))] := by rw [ev]; exact hD
  clear ev
  refine lv_aload_n hx hb d_Ma_branch_78 rfl (lv_at hl 0 rfl) ?_
  refine lv_dup hx hb d_Ma_branch_79 rfl ?_
  refine va_get (D := D) (ci := 6) (v := .int u1) (C := "CoinKeeper$Machine") (T := F_6) (N := 19) hx hb hts i_6 hown hK hP 0 rfl rfl 11 (by decide) (hts _ gw_215) (fun _ h9 => h9) rfl d_Ma_branch_80 ?_
  refine lv_iconst (v := 1) hx hb d_Ma_branch_83 (by decide) ?_
  refine lv_iadd hx hb d_Ma_branch_84 ?_
  refine lv_topi (fun v2 ev => ?_)
  have hf := bn ev hf
  clear ev
  refine va_put (D := D) (ci := 6) (v := .int v2) (ty := .int) (C := "CoinKeeper$Machine") (T := F_6) (N := 19) hx hb hts i_6 t_6 t_6_ok n_6 hown hK hP hD hS 0 rfl rfl 11 (by decide) (hts _ gw_215) (fun _ h9 => h9) rfl (by decide +kernel) rfl rfl (Nat.le_of_ble_eq_true rfl) d_Ma_branch_85 (fun H locs hP hD hS => ?_)
  have hP : va_P D classes [(o, .inr (6, [v_o_sha, r_signatures, v_o_ripemd, .ref a_data, v_a_scriptEnd, .ref a_main, v_a_other, .ref a_taken, .int u0, .int i_otherHeight, .int i_ops, .int v2, .int u2, .int i_free, r_layout, .int i_tx, .int i_in, r_coin, .int i_messageIsThere])), (a_data, .inl (cy 0, 14928, .inl g_data)), (a_main, .inl (cy 1, 204, .inl g_main)), (a_taken, .inl (cy 3, 202, .inl f1))] H := hP
  have hD : va_D A [(o, .inr (6, [v_o_sha, r_signatures, v_o_ripemd, .ref a_data, v_a_scriptEnd, .ref a_main, v_a_other, .ref a_taken, .int u0, .int i_otherHeight, .int i_ops, .int v2, .int u2, .int i_free, r_layout, .int i_tx, .int i_in, r_coin, .int i_messageIsThere])), (a_data, .inl (cy 0, 14928, .inl g_data)), (a_main, .inl (cy 1, 204, .inl g_main)), (a_taken, .inl (cy 3, 202, .inl f1))] := hD
  refine lv_aload_n hx hb d_Ma_branch_88 rfl (lv_at hl 0 rfl) ?_
  refine lv_dup hx hb d_Ma_branch_89 rfl ?_
  refine va_get (D := D) (ci := 6) (v := .int u2) (C := "CoinKeeper$Machine") (T := F_6) (N := 19) hx hb hts i_6 hown hK hP 0 rfl rfl 12 (by decide) (hts _ gw_216) (fun _ h9 => h9) rfl d_Ma_branch_90 ?_
  refine lv_iload_n hx hb d_Ma_branch_93 rfl (lv_at hl 1 rfl) ?_
  refine lv_if_eq (tgt := 101) hx hb d_Ma_branch_94 (by decide) (fun cx => ?_) (fun cx => ?_)
  · have hf := ifp cx hf
    refine lv_iconst (v := 1) hx hb d_Ma_branch_101 (by decide) ?_
    exact wb_Ma_branch_102 (fu := fu) F _ _ _ _ _ _ _ hf _ _ _ hP hD hS (lv_sub hl [] rfl)
  · have hf := ifn cx hf
    refine lv_iconst (v := 0) hx hb d_Ma_branch_97 (by decide) ?_
    refine lv_goto (tgt := 102) hx hb d_Ma_branch_98 (by decide) ?_
    exact wb_Ma_branch_102 (fu := fu) F _ _ _ _ _ _ _ hf _ _ _ hP hD hS (lv_sub hl [] rfl)
set_option maxHeartbeats 8000000 in
set_option maxRecDepth 100000 in
theorem wb_Ma_branch_67 {p : Program} {l : Launch} {e : Env} {s : State} {m : MethodId} {args : Array Value} {below : List Frame} {meth : Method} {c : Code} {D : va_G} {cy : Nat → ClassId} {A : Nat → Prop} {ad : Nat → Nat} {o : Nat} {v_o_sha : Value} {r_signatures : Value} {v_o_ripemd : Value} {v_a_scriptEnd : Value} {v_a_other : Value} {r_layout : Value} {r_coin : Value} {a_data : Nat} {a_main : Nat} {a_taken : Nat} {i_otherHeight : Int32} {i_ops : Int32} {i_free : Int32} {i_tx : Int32} {i_in : Int32} {i_messageIsThere : Int32} {g_data : Nat → Int32} {g_main : Nat → Int32} {fu : Nat} (F : Fx p s m args meth c b_Ma_branch 3 "CoinKeeper$Machine" "branch" (some .boolean) D cy ad A) : I_Ma_branch_67 p l e s m args below meth c D cy A ad o v_o_sha r_signatures v_o_ripemd v_a_scriptEnd v_a_other r_layout r_coin a_data a_main a_taken i_otherHeight i_ops i_free i_tx i_in i_messageIsThere g_data g_main (xb_Ma_branch_67 fu i_otherHeight i_ops i_free i_tx i_in i_messageIsThere g_data g_main) := by
  obtain ⟨hx, hb, hr, hml, hown, hts, hlocks, hK, hA, hSt, hnm, hex⟩ := id F
  intro y0 u0 u1 u2 u3 res hf H locs ls hP hD hS hl
  unfold xb_Ma_branch_67 at hf
  refine lv_istore_n (lv' := [(2, .int y0), (0, .ref o)]) hx hb d_Ma_branch_67 rfl hl (by decide) rfl (fun ls hl => ?_)
  exact wb_Ma_branch_68 (fu := fu) F _ _ _ _ _ _ hf _ _ _ hP hD hS (lv_sub hl [1, 0] rfl)
set_option maxHeartbeats 8000000 in
set_option maxRecDepth 100000 in
theorem wb_Ma_branch_59 {p : Program} {l : Launch} {e : Env} {s : State} {m : MethodId} {args : Array Value} {below : List Frame} {meth : Method} {c : Code} {D : va_G} {cy : Nat → ClassId} {A : Nat → Prop} {ad : Nat → Nat} {o : Nat} {v_o_sha : Value} {r_signatures : Value} {v_o_ripemd : Value} {v_a_scriptEnd : Value} {v_a_other : Value} {r_layout : Value} {r_coin : Value} {a_data : Nat} {a_main : Nat} {a_taken : Nat} {i_otherHeight : Int32} {i_ops : Int32} {i_free : Int32} {i_tx : Int32} {i_in : Int32} {i_messageIsThere : Int32} {g_data : Nat → Int32} {g_main : Nat → Int32} {fu : Nat} (F : Fx p s m args meth c b_Ma_branch 3 "CoinKeeper$Machine" "branch" (some .boolean) D cy ad A) : I_Ma_branch_59 p l e s m args below meth c D cy A ad o v_o_sha r_signatures v_o_ripemd v_a_scriptEnd v_a_other r_layout r_coin a_data a_main a_taken i_otherHeight i_ops i_free i_tx i_in i_messageIsThere g_data g_main (xb_Ma_branch_59 fu i_otherHeight i_ops i_free i_tx i_in i_messageIsThere g_data g_main) := by
  obtain ⟨hx, hb, hr, hml, hown, hts, hlocks, hK, hA, hSt, hnm, hex⟩ := id F
  intro y0 y1 u0 u1 u2 u3 res hf H locs ls hP hD hS hl
  unfold xb_Ma_branch_59 at hf
  refine lv_icmp_ne (tgt := 66) hx hb d_Ma_branch_59 (by decide) (fun cx => ?_) (fun cx => ?_)
  · have hf := ifn cx hf
    refine lv_iconst (v := 0) hx hb d_Ma_branch_66 (by decide) ?_
    exact wb_Ma_branch_67 (fu := fu) F _ _ _ _ _ _ hf _ _ _ hP hD hS (lv_sub hl [0] rfl)
  · have hf := ifp cx hf
    refine lv_iconst (v := 1) hx hb d_Ma_branch_62 (by decide) ?_
    refine lv_goto (tgt := 67) hx hb d_Ma_branch_63 (by decide) ?_
    exact wb_Ma_branch_67 (fu := fu) F _ _ _ _ _ _ hf _ _ _ hP hD hS (lv_sub hl [0] rfl)
set_option maxHeartbeats 8000000 in
set_option maxRecDepth 100000 in
theorem we_Ma_branch {p : Program} {l : Launch} {e : Env} {s : State} {m : MethodId} {args : Array Value} {below : List Frame} {meth : Method} {c : Code} {D : va_G} {cy : Nat → ClassId} {A : Nat → Prop} {ad : Nat → Nat} {o : Nat} {v_o_sha : Value} {r_signatures : Value} {v_o_ripemd : Value} {v_a_scriptEnd : Value} {v_a_other : Value} {r_layout : Value} {r_coin : Value} {a_data : Nat} {a_main : Nat} {a_taken : Nat} {i_otherHeight : Int32} {i_ops : Int32} {i_free : Int32} {i_tx : Int32} {i_in : Int32} {i_messageIsThere : Int32} {g_data : Nat → Int32} {g_main : Nat → Int32} {fu : Nat} (F : Fx p s m args meth c b_Ma_branch 3 "CoinKeeper$Machine" "branch" (some .boolean) D cy ad A) : I_Ma_branch_e p l e s m args below meth c D cy A ad o v_o_sha r_signatures v_o_ripemd v_a_scriptEnd v_a_other r_layout r_coin a_data a_main a_taken i_otherHeight i_ops i_free i_tx i_in i_messageIsThere g_data g_main (x_Ma_branch fu i_otherHeight i_ops i_free i_tx i_in i_messageIsThere g_data g_main) := by
  obtain ⟨hx, hb, hr, hml, hown, hts, hlocks, hK, hA, hSt, hnm, hex⟩ := id F
  intro a1 u0 u1 u2 u3 res hf H locs ls hP hD hS hl
  unfold x_Ma_branch at hf
  refine lv_iload_n hx hb d_Ma_branch_0 rfl (lv_at hl 1 rfl) ?_
  refine lv_bipush (v := 100) hx hb d_Ma_branch_1 (by decide) ?_
  refine lv_icmp_gt (tgt := 108) hx hb d_Ma_branch_3 (by decide) (fun cx => ?_) (fun cx => ?_)
  · have hf := ifp cx hf
    refine lv_aload_n hx hb d_Ma_branch_108 rfl (lv_at hl 0 rfl) ?_
    refine va_get (D := D) (ci := 6) (v := .int u1) (C := "CoinKeeper$Machine") (T := F_6) (N := 19) hx hb hts i_6 hown hK hP 0 rfl rfl 11 (by decide) (hts _ gw_215) (fun _ h9 => h9) rfl d_Ma_branch_109 ?_
    refine lv_iconst (v := 1) hx hb d_Ma_branch_112 (by decide) ?_
    refine lv_icmp_ge (tgt := 118) hx hb d_Ma_branch_113 (by decide) (fun cx => ?_) (fun cx => ?_)
    · have hf := ifp cx hf
      refine lv_iload_n hx hb d_Ma_branch_118 rfl (lv_at hl 1 rfl) ?_
      refine lv_bipush (v := 103) hx hb d_Ma_branch_119 (by decide) ?_
      refine lv_icmp_ne (tgt := 184) hx hb d_Ma_branch_121 (by decide) (fun cx => ?_) (fun cx => ?_)
      · have hf := ifn cx hf
        refine lv_aload_n hx hb d_Ma_branch_184 rfl (lv_at hl 0 rfl) ?_
        refine lv_dup hx hb d_Ma_branch_185 rfl ?_
        refine va_get (D := D) (ci := 6) (v := .int u1) (C := "CoinKeeper$Machine") (T := F_6) (N := 19) hx hb hts i_6 hown hK hP 0 rfl rfl 11 (by decide) (hts _ gw_215) (fun _ h9 => h9) rfl d_Ma_branch_186 ?_
        refine lv_iconst (v := 1) hx hb d_Ma_branch_189 (by decide) ?_
        refine lv_isub hx hb d_Ma_branch_190 ?_
        refine lv_topi (fun v1 ev => ?_)
        have hf := bn ev hf
        clear ev
        refine va_put (D := D) (ci := 6) (v := .int v1) (ty := .int) (C := "CoinKeeper$Machine") (T := F_6) (N := 19) hx hb hts i_6 t_6 t_6_ok n_6 hown hK hP hD hS 0 rfl rfl 11 (by decide) (hts _ gw_215) (fun _ h9 => h9) rfl (by decide +kernel) rfl rfl (Nat.le_of_ble_eq_true rfl) d_Ma_branch_191 (fun H locs hP hD hS => ?_)
        have hP : va_P D classes [(o, .inr (6, [v_o_sha, r_signatures, v_o_ripemd, .ref a_data, v_a_scriptEnd, .ref a_main, v_a_other, .ref a_taken, .int u0, .int i_otherHeight, .int i_ops, .int v1, .int u2, .int i_free, r_layout, .int i_tx, .int i_in, r_coin, .int i_messageIsThere])), (a_data, .inl (cy 0, 14928, .inl g_data)), (a_main, .inl (cy 1, 204, .inl g_main)), (a_taken, .inl (cy 3, 202, .inl u3))] H := hP
        have hD : va_D A [(o, .inr (6, [v_o_sha, r_signatures, v_o_ripemd, .ref a_data, v_a_scriptEnd, .ref a_main, v_a_other, .ref a_taken, .int u0, .int i_otherHeight, .int i_ops, .int v1, .int u2, .int i_free, r_layout, .int i_tx, .int i_in, r_coin, .int i_messageIsThere])), (a_data, .inl (cy 0, 14928, .inl g_data)), (a_main, .inl (cy 1, 204, .inl g_main)), (a_taken, .inl (cy 3, 202, .inl u3))] := hD
        refine lv_aload_n hx hb d_Ma_branch_194 rfl (lv_at hl 0 rfl) ?_
        refine lv_dup hx hb d_Ma_branch_195 rfl ?_
        refine va_get (D := D) (ci := 6) (v := .int u2) (C := "CoinKeeper$Machine") (T := F_6) (N := 19) hx hb hts i_6 hown hK hP 0 rfl rfl 12 (by decide) (hts _ gw_216) (fun _ h9 => h9) rfl d_Ma_branch_196 ?_
        refine lv_aload_n hx hb d_Ma_branch_199 rfl (lv_at hl 0 rfl) ?_
        refine va_get (D := D) (ci := 6) (v := .ref a_taken) (C := "CoinKeeper$Machine") (T := F_6) (N := 19) hx hb hts i_6 hown hK hP 0 rfl rfl 7 (by decide) (hts _ gw_211) (fun _ h9 => h9) rfl d_Ma_branch_200 ?_
        refine lv_aload_n hx hb d_Ma_branch_203 rfl (lv_at hl 0 rfl) ?_
        refine va_get (D := D) (ci := 6) (v := .int v1) (C := "CoinKeeper$Machine") (T := F_6) (N := 19) hx hb hts i_6 hown hK hP 0 rfl rfl 11 (by decide) (hts _ gw_215) (fun _ h9 => h9) rfl d_Ma_branch_204 ?_
        obtain ⟨hg, hf⟩ := gdp hf
        refine va_zald hx hb hK hP 3 3 rfl rfl (inb_in hg) d_Ma_branch_207 ?_
        refine lv_topi (fun v2 ev => ?_)
        have hf := bn ev hf
        clear ev
        refine lv_if_eq (tgt := 215) hx hb d_Ma_branch_208 (by decide) (fun cx => ?_) (fun cx => ?_)
        · have hf := ifp cx hf
          refine lv_iconst (v := 1) hx hb d_Ma_branch_215 (by decide) ?_
          exact wb_Ma_branch_216 (fu := fu) F _ _ _ _ _ _ _ hf _ _ _ hP hD hS (lv_sub hl [] rfl)
        · have hf := ifn cx hf
          refine lv_iconst (v := 0) hx hb d_Ma_branch_211 (by decide) ?_
          refine lv_goto (tgt := 216) hx hb d_Ma_branch_212 (by decide) ?_
          exact wb_Ma_branch_216 (fu := fu) F _ _ _ _ _ _ _ hf _ _ _ hP hD hS (lv_sub hl [] rfl)
      · have hf := ifp cx hf
        refine lv_aload_n hx hb d_Ma_branch_124 rfl (lv_at hl 0 rfl) ?_
        refine va_get (D := D) (ci := 6) (v := .ref a_taken) (C := "CoinKeeper$Machine") (T := F_6) (N := 19) hx hb hts i_6 hown hK hP 0 rfl rfl 7 (by decide) (hts _ gw_211) (fun _ h9 => h9) rfl d_Ma_branch_125 ?_
        refine lv_aload_n hx hb d_Ma_branch_128 rfl (lv_at hl 0 rfl) ?_
        refine va_get (D := D) (ci := 6) (v := .int u1) (C := "CoinKeeper$Machine") (T := F_6) (N := 19) hx hb hts i_6 hown hK hP 0 rfl rfl 11 (by decide) (hts _ gw_215) (fun _ h9 => h9) rfl d_Ma_branch_129 ?_
        refine lv_iconst (v := 1) hx hb d_Ma_branch_132 (by decide) ?_
        refine lv_isub hx hb d_Ma_branch_133 ?_
        refine lv_topi (fun v3 ev => ?_)
        have hf := bn ev hf
        clear ev
        refine lv_aload_n hx hb d_Ma_branch_134 rfl (lv_at hl 0 rfl) ?_
        refine va_get (D := D) (ci := 6) (v := .ref a_taken) (C := "CoinKeeper$Machine") (T := F_6) (N := 19) hx hb hts i_6 hown hK hP 0 rfl rfl 7 (by decide) (hts _ gw_211) (fun _ h9 => h9) rfl d_Ma_branch_135 ?_
        refine lv_aload_n hx hb d_Ma_branch_138 rfl (lv_at hl 0 rfl) ?_
        refine va_get (D := D) (ci := 6) (v := .int u1) (C := "CoinKeeper$Machine") (T := F_6) (N := 19) hx hb hts i_6 hown hK hP 0 rfl rfl 11 (by decide) (hts _ gw_215) (fun _ h9 => h9) rfl d_Ma_branch_139 ?_
        refine lv_iconst (v := 1) hx hb d_Ma_branch_142 (by decide) ?_
        refine lv_isub hx hb d_Ma_branch_143 ?_
        refine lv_topi (fun v4 ev => ?_)
        have hf := bn ev hf
        clear ev
        obtain ⟨hg, hf⟩ := gdp hf
        refine va_zald hx hb hK hP 3 3 rfl rfl (inb_in hg) d_Ma_branch_144 ?_
        refine lv_topi (fun v5 ev => ?_)
        have hf := bn ev hf
        clear ev
        refine lv_if_ne (tgt := 152) hx hb d_Ma_branch_145 (by decide) (fun cx => ?_) (fun cx => ?_)
        · have hf := ifn cx hf
          refine lv_iconst (v := 0) hx hb d_Ma_branch_152 (by decide) ?_
          exact wb_Ma_branch_153 (fu := fu) F _ _ _ _ _ _ _ hf _ _ _ hP hD hS (lv_sub hl [0] rfl)
        · have hf := ifp cx hf
          refine lv_iconst (v := 1) hx hb d_Ma_branch_148 (by decide) ?_
          refine lv_goto (tgt := 153) hx hb d_Ma_branch_149 (by decide) ?_
          exact wb_Ma_branch_153 (fu := fu) F _ _ _ _ _ _ _ hf _ _ _ hP hD hS (lv_sub hl [0] rfl)
    · have hf := ifn cx hf
      refine lv_iconst (v := 0) hx hb d_Ma_branch_116 (by decide) ?_
      obtain rfl := Option.some.inj hf
      exact q_rz hx hb hr hlocks hK hP hD hS (isb_n (v := 0) (by decide)) d_Ma_branch_117
  · have hf := ifn cx hf
    refine lv_iconst (v := 0) hx hb d_Ma_branch_6 (by decide) ?_
    refine lv_istore_n (lv' := [(2, .int (0 : Int32)), (0, .ref o), (1, .int a1)]) hx hb d_Ma_branch_7 rfl hl (by decide) rfl (fun ls hl => ?_)
    refine lv_aload_n hx hb d_Ma_branch_8 rfl (lv_at hl 1 rfl) ?_
    refine va_get (D := D) (ci := 6) (v := .int u2) (C := "CoinKeeper$Machine") (T := F_6) (N := 19) hx hb hts i_6 hown hK hP 0 rfl rfl 12 (by decide) (hts _ gw_216) (fun _ h9 => h9) rfl d_Ma_branch_9 ?_
    refine lv_if_ne (tgt := 68) hx hb d_Ma_branch_12 (by decide) (fun cx => ?_) (fun cx => ?_)
    · have hf := ifn cx hf
      exact wb_Ma_branch_68 (fu := fu) F _ _ _ _ _ _ hf _ _ _ hP hD hS (lv_sub hl [1, 0] rfl)
    · have hf := ifp cx hf
      refine lv_aload_n hx hb d_Ma_branch_15 rfl (lv_at hl 1 rfl) ?_
      refine va_get (D := D) (ci := 6) (v := .int u0) (C := "CoinKeeper$Machine") (T := F_6) (N := 19) hx hb hts i_6 hown hK hP 0 rfl rfl 8 (by decide) (hts _ gw_212) (fun _ h9 => h9) rfl d_Ma_branch_16 ?_
      refine lv_iconst (v := 1) hx hb d_Ma_branch_19 (by decide) ?_
      refine lv_icmp_ge (tgt := 25) hx hb d_Ma_branch_20 (by decide) (fun cx => ?_) (fun cx => ?_)
      · have hf := ifp cx hf
        refine lv_aload_n hx hb d_Ma_branch_25 rfl (lv_at hl 1 rfl) ?_
        refine lv_dup hx hb d_Ma_branch_26 rfl ?_
        refine va_get (D := D) (ci := 6) (v := .int u0) (C := "CoinKeeper$Machine") (T := F_6) (N := 19) hx hb hts i_6 hown hK hP 0 rfl rfl 8 (by decide) (hts _ gw_212) (fun _ h9 => h9) rfl d_Ma_branch_27 ?_
        refine lv_iconst (v := 1) hx hb d_Ma_branch_30 (by decide) ?_
        refine lv_isub hx hb d_Ma_branch_31 ?_
        refine lv_topi (fun v6 ev => ?_)
        have hf := bn ev hf
        clear ev
        refine va_put (D := D) (ci := 6) (v := .int v6) (ty := .int) (C := "CoinKeeper$Machine") (T := F_6) (N := 19) hx hb hts i_6 t_6 t_6_ok n_6 hown hK hP hD hS 0 rfl rfl 8 (by decide) (hts _ gw_212) (fun _ h9 => h9) rfl (by decide +kernel) rfl rfl (Nat.le_of_ble_eq_true rfl) d_Ma_branch_32 (fun H locs hP hD hS => ?_)
        have hP : va_P D classes [(o, .inr (6, [v_o_sha, r_signatures, v_o_ripemd, .ref a_data, v_a_scriptEnd, .ref a_main, v_a_other, .ref a_taken, .int v6, .int i_otherHeight, .int i_ops, .int u1, .int u2, .int i_free, r_layout, .int i_tx, .int i_in, r_coin, .int i_messageIsThere])), (a_data, .inl (cy 0, 14928, .inl g_data)), (a_main, .inl (cy 1, 204, .inl g_main)), (a_taken, .inl (cy 3, 202, .inl u3))] H := hP
        have hD : va_D A [(o, .inr (6, [v_o_sha, r_signatures, v_o_ripemd, .ref a_data, v_a_scriptEnd, .ref a_main, v_a_other, .ref a_taken, .int v6, .int i_otherHeight, .int i_ops, .int u1, .int u2, .int i_free, r_layout, .int i_tx, .int i_in, r_coin, .int i_messageIsThere])), (a_data, .inl (cy 0, 14928, .inl g_data)), (a_main, .inl (cy 1, 204, .inl g_main)), (a_taken, .inl (cy 3, 202, .inl u3))] := hD
        refine lv_aload_n hx hb d_Ma_branch_35 rfl (lv_at hl 1 rfl) ?_
        refine lv_aload_n hx hb d_Ma_branch_36 rfl (lv_at hl 1 rfl) ?_
        refine va_get (D := D) (ci := 6) (v := .ref a_main) (C := "CoinKeeper$Machine") (T := F_6) (N := 19) hx hb hts i_6 hown hK hP 0 rfl rfl 5 (by decide) (hts _ gw_209) (fun _ h9 => h9) rfl d_Ma_branch_37 ?_
        refine lv_aload_n hx hb d_Ma_branch_40 rfl (lv_at hl 1 rfl) ?_
        refine va_get (D := D) (ci := 6) (v := .int v6) (C := "CoinKeeper$Machine") (T := F_6) (N := 19) hx hb hts i_6 hown hK hP 0 rfl rfl 8 (by decide) (hts _ gw_212) (fun _ h9 => h9) rfl d_Ma_branch_41 ?_
        obtain ⟨hg, hf⟩ := gdp hf
        refine va_iald hx hb hK hP 2 1 rfl rfl (inb_in hg) d_Ma_branch_44 ?_
        refine lv_topi (fun v7 ev => ?_)
        have hf := bn ev hf
        clear ev
        obtain ⟨v8, hc, hf⟩ := bdp1 hf
        refine q_ai (wr := [(a_main, .inl (cy 1, 204, .inl g_main)), (a_taken, .inl (cy 3, 202, .inl u3))]) (va_runV (C := "CoinKeeper$Machine") (As := [.int v7]) (rest := []) ⟨hx, hb, hml, hown, hts⟩ (c_Ma_isTrue l D cy ad fu o v_o_sha r_signatures v_o_ripemd v_a_scriptEnd (.ref a_main) v_a_other (.ref a_taken) r_layout r_coin a_data v6 i_otherHeight i_ops u1 u2 i_free i_tx i_in i_messageIsThere g_data v7 _ hc H.size) ⟨q_cB hts gw_996 gw_6 gw_993 hdc_41 ⟨by decide, by decide⟩, hts _ gw_995, hts _ gs_30⟩ (q_preV (q_pre (hP.sub [0, 1] rfl) (hD.sub [0, 1] (by decide) rfl) hK hSt hS (va_free hD hS hA [0, 1] rfl) _) (va_recv hK (hP.sub [0, 1] rfl) (ci := 6) (q0 := 0) rfl rfl)) rfl rfl hl.1 rfl (lv_room (Nat.le_of_ble_eq_true rfl)) d_Ma_branch_45 ⟨Nat.le_of_ble_eq_true rfl, Nat.le_of_ble_eq_true rfl⟩) hP hD hS hA [0, 1] [2, 3] rfl rfl (by decide) (by decide) (fun H locs hP hD hS => ?_)
        clear hc
        have hP : va_P D classes [(a_main, .inl (cy 1, 204, .inl g_main)), (a_taken, .inl (cy 3, 202, .inl u3)), (o, .inr (6, [v_o_sha, r_signatures, v_o_ripemd, .ref a_data, v_a_scriptEnd, .ref a_main, v_a_other, .ref a_taken, .int v6, .int i_otherHeight, .int i_ops, .int u1, .int u2, .int i_free, r_layout, .int i_tx, .int i_in, r_coin, .int i_messageIsThere])), (a_data, .inl (cy 0, 14928, .inl g_data))] H := hP
        have hD : va_D A [(a_main, .inl (cy 1, 204, .inl g_main)), (a_taken, .inl (cy 3, 202, .inl u3)), (o, .inr (6, [v_o_sha, r_signatures, v_o_ripemd, .ref a_data, v_a_scriptEnd, .ref a_main, v_a_other, .ref a_taken, .int v6, .int i_otherHeight, .int i_ops, .int u1, .int u2, .int i_free, r_layout, .int i_tx, .int i_in, r_coin, .int i_messageIsThere])), (a_data, .inl (cy 0, 14928, .inl g_data))] := hD
        refine lv_iload_n hx hb d_Ma_branch_48 rfl (lv_at hl 2 rfl) ?_
        refine lv_bipush (v := 99) hx hb d_Ma_branch_49 (by decide) ?_
        refine lv_icmp_ne (tgt := 58) hx hb d_Ma_branch_51 (by decide) (fun cx => ?_) (fun cx => ?_)
        · have hf := ifn cx hf
          refine lv_iconst (v := 0) hx hb d_Ma_branch_58 (by decide) ?_
          exact wb_Ma_branch_59 (fu := fu) F _ _ _ _ _ _ _ hf _ _ _ (hP.sub (ws' := [(o, .inr (6, [v_o_sha, r_signatures, v_o_ripemd, .ref a_data, v_a_scriptEnd, .ref a_main, v_a_other, .ref a_taken, .int v6, .int i_otherHeight, .int i_ops, .int u1, .int u2, .int i_free, r_layout, .int i_tx, .int i_in, r_coin, .int i_messageIsThere])), (a_data, .inl (cy 0, 14928, .inl g_data)), (a_main, .inl (cy 1, 204, .inl g_main)), (a_taken, .inl (cy 3, 202, .inl u3))]) [2, 3, 0, 1] rfl) (hD.sub (ws' := [(o, .inr (6, [v_o_sha, r_signatures, v_o_ripemd, .ref a_data, v_a_scriptEnd, .ref a_main, v_a_other, .ref a_taken, .int v6, .int i_otherHeight, .int i_ops, .int u1, .int u2, .int i_free, r_layout, .int i_tx, .int i_in, r_coin, .int i_messageIsThere])), (a_data, .inl (cy 0, 14928, .inl g_data)), (a_main, .inl (cy 1, 204, .inl g_main)), (a_taken, .inl (cy 3, 202, .inl u3))]) [2, 3, 0, 1] (by decide) rfl) hS (lv_sub hl [1] rfl)
        · have hf := ifp cx hf
          refine lv_iconst (v := 1) hx hb d_Ma_branch_54 (by decide) ?_
          refine lv_goto (tgt := 59) hx hb d_Ma_branch_55 (by decide) ?_
          exact wb_Ma_branch_59 (fu := fu) F _ _ _ _ _ _ _ hf _ _ _ (hP.sub (ws' := [(o, .inr (6, [v_o_sha, r_signatures, v_o_ripemd, .ref a_data, v_a_scriptEnd, .ref a_main, v_a_other, .ref a_taken, .int v6, .int i_otherHeight, .int i_ops, .int u1, .int u2, .int i_free, r_layout, .int i_tx, .int i_in, r_coin, .int i_messageIsThere])), (a_data, .inl (cy 0, 14928, .inl g_data)), (a_main, .inl (cy 1, 204, .inl g_main)), (a_taken, .inl (cy 3, 202, .inl u3))]) [2, 3, 0, 1] rfl) (hD.sub (ws' := [(o, .inr (6, [v_o_sha, r_signatures, v_o_ripemd, .ref a_data, v_a_scriptEnd, .ref a_main, v_a_other, .ref a_taken, .int v6, .int i_otherHeight, .int i_ops, .int u1, .int u2, .int i_free, r_layout, .int i_tx, .int i_in, r_coin, .int i_messageIsThere])), (a_data, .inl (cy 0, 14928, .inl g_data)), (a_main, .inl (cy 1, 204, .inl g_main)), (a_taken, .inl (cy 3, 202, .inl u3))]) [2, 3, 0, 1] (by decide) rfl) hS (lv_sub hl [1] rfl)
      · have hf := ifn cx hf
        refine lv_iconst (v := 0) hx hb d_Ma_branch_23 (by decide) ?_
        obtain rfl := Option.some.inj hf
        exact q_rz hx hb hr hlocks hK hP hD hS (isb_n (v := 0) (by decide)) d_Ma_branch_24
theorem c_Ma_branch (l : Launch) (D : va_G) (cy : Nat → ClassId) (ad : Nat → Nat) (fu : Nat) (o : Nat) (v_o_sha : Value) (r_signatures : Value) (v_o_ripemd : Value) (v_a_scriptEnd : Value) (v_a_other : Value) (r_layout : Value) (r_coin : Value) (a_data : Nat) (a_main : Nat) (a_taken : Nat) (i_otherHeight : Int32) (i_ops : Int32) (i_free : Int32) (i_tx : Int32) (i_in : Int32) (i_messageIsThere : Int32) (g_data : Nat → Int32) (g_main : Nat → Int32) (a1 : Int32) (u0 : Int32) (u1 : Int32) (u2 : Int32) (u3 : Nat → Int32) (res : Int32 × Int32 × Int32 × Int32 × (Nat → Int32)) (hf : x_Ma_branch fu i_otherHeight i_ops i_free i_tx i_in i_messageIsThere g_data g_main a1 u0 u1 u2 u3 = some res) (sz : Nat) : Met l ({ cls := "CoinKeeper$Machine", name := "branch", desc := "(I)Z" } : Jvm.MethodName) (.code ({ cls := "CoinKeeper$Machine", name := "branch", desc := "(I)Z" } : Jvm.MethodName) b_Ma_branch 3 (some .boolean) :: gw) rm_Ma_branch (va_Pc [.ref o, .int a1] (Pr D cy ad [(o, .inr (6, [v_o_sha, r_signatures, v_o_ripemd, .ref a_data, v_a_scriptEnd, .ref a_main, v_a_other, .ref a_taken, .int u0, .int i_otherHeight, .int i_ops, .int u1, .int u2, .int i_free, r_layout, .int i_tx, .int i_in, r_coin, .int i_messageIsThere])), (a_data, .inl (cy 0, 14928, .inl g_data)), (a_main, .inl (cy 1, 204, .inl g_main)), (a_taken, .inl (cy 3, 202, .inl u3))] sz)) (q_Ma_branch D cy (va_A [(o, .inr (6, [v_o_sha, r_signatures, v_o_ripemd, .ref a_data, v_a_scriptEnd, .ref a_main, v_a_other, .ref a_taken, .int u0, .int i_otherHeight, .int i_ops, .int u1, .int u2, .int i_free, r_layout, .int i_tx, .int i_in, r_coin, .int i_messageIsThere])), (a_data, .inl (cy 0, 14928, .inl g_data)), (a_main, .inl (cy 1, 204, .inl g_main)), (a_taken, .inl (cy 3, 202, .inl u3))] sz) o v_o_sha r_signatures v_o_ripemd v_a_scriptEnd v_a_other r_layout r_coin a_data a_main a_taken i_otherHeight i_ops i_free i_tx i_in i_messageIsThere g_data g_main res) 0 0 (va_A [(o, .inr (6, [v_o_sha, r_signatures, v_o_ripemd, .ref a_data, v_a_scriptEnd, .ref a_main, v_a_other, .ref a_taken, .int u0, .int i_otherHeight, .int i_ops, .int u1, .int u2, .int i_free, r_layout, .int i_tx, .int i_in, r_coin, .int i_messageIsThere])), (a_data, .inl (cy 0, 14928, .inl g_data)), (a_main, .inl (cy 1, 204, .inl g_main)), (a_taken, .inl (cy 3, 202, .inl u3))] sz) :=
  q_met (Qc := fun A => q_Ma_branch D cy A o v_o_sha r_signatures v_o_ripemd v_a_scriptEnd v_a_other r_layout r_coin a_data a_main a_taken i_otherHeight i_ops i_free i_tx i_in i_messageIsThere g_data g_main res) (by decide) rfl rfl (Nat.le_of_ble_eq_true rfl) (fun p e s m below meth c ls F hP hD hS hl => we_Ma_branch (fu := fu) F a1 u0 u1 u2 u3 res hf _ _ _ hP hD hS hl) sz
