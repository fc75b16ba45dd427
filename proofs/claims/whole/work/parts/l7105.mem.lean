def FxMW (p : Program) (s : State) (m : MethodId) (args : Array Value) (meth : Method) (c : Code) (cc : ByteArray) (nL : Nat) (own nm : String) (rt : Option FieldType) (D : va_G) (cy : Nat → ClassId) (ad : Nat → Nat) (mi : Nat) (A : Nat → Prop) (hh : List (Nat × Nat × Nat × Nat)) : Prop := FxW p s m args meth c cc nL own nm rt D cy ad A hh ∧ va_Mi "[Ljava/lang/Object;" mi s
section EX9
variable {l : Launch} {cc : ByteArray} {D : va_G} {cy : Nat → ClassId} {ad : Nat → Nat} {mi : Nat} {wc : va_W} {mc ms nL : Nat} {own : String} {y : MethodName} {ret : Option FieldType} {rm : Room} {hh : List (Nat × Nat × Nat × Nat)}
theorem q_metMW {nm : String} {av : List Value} {Qd : (Nat → Prop) → Array Value → State → Outcome → State → Prop} (hy : plainName y.cls = true) (hown : y.cls = own) (hnm : y.name = nm) (hlen : (lg_sl av).length ≤ nL)
    (body : ∀ (p : Program) (e : Env) (s : State) (m : MethodId) (below : List Frame) (meth : Method) (c : Code) (ls : Array Slot), FxMW p s m av.toArray meth c cc nL own nm ret D cy ad mi (va_A wc s.heap.size) hh → va_P D classes wc s.heap → va_D (va_A wc s.heap.size) wc → va_S (va_A wc s.heap.size) s.heap s.heap [] → lv_has ls nL (lv_args 0 av) → W p l e rm s m av.toArray below meth c s.heap [] 0 0 (MQ below (Qd (va_A wc s.heap.size)) av.toArray s mc ms (va_A wc s.heap.size)) (F0 m 0 ls []))
    (sz : Nat) : Met l y (.codeWith y cc nL ret hh :: gw) rm (va_Pc av (PrM D cy ad mi wc sz)) (Qd (va_A wc sz)) mc ms (va_A wc sz) := by
  refine va_MetW (cc := cc) (maxL := nL) (ret := ret) (hh := hh) hy rfl ?_
  intro p e s m args below meth c s₁ B hml hv
  obtain ⟨rfl, ⟨hsz, hP, hK, hD0, hSt⟩, hT, hMi⟩ := hv
  subst hsz
  subst hown
  subst hnm
  have hts := atoms_spec (ws := .codeWith y cc nL ret hh :: gw) B.pre
  have hl := lv_entry av (n := nL) hlen
  obtain ⟨m9, meth9, c9, hn9, hm9, hc9, -, -, hx9, -⟩ := Cond.codeWith_spec (hts _ List.mem_cons_self)
  cases B.named.symm.trans hn9
  cases B.method.symm.trans hm9
  have hc0 := (Stand.of_body B).code
  cases hc0.symm.trans hc9
  rw [lg_entry_eq]
  exact body p e s m below meth c _ ⟨⟨B.exec, B.bytes, B.returns, hml, findClass_of_methodNamed B.named, fun w h => hts w (List.mem_cons_of_mem _ h), B.notSynchronized, hK, fun q h => Or.inr h, hSt, (name_of_methodNamed B.named B.method).1, hx9, hT⟩, hMi⟩ hP hD0.self va_S.rf hl
end EX9
abbrev b_L_feed : ByteArray := method_3_code
theorem d_L_feed_0 : decode b_L_feed 0 = .ok (.aload 6, 2) := by decide +kernel
theorem d_L_feed_2 : decode b_L_feed 2 = .ok (.iconst 0, 1) := by decide +kernel
theorem d_L_feed_3 : decode b_L_feed 3 = .ok (.aload_n 0, 1) := by decide +kernel
theorem d_L_feed_4 : decode b_L_feed 4 = .ok (.iload_n 1, 1) := by decide +kernel
theorem d_L_feed_5 : decode b_L_feed 5 = .ok (.iload_n 2, 1) := by decide +kernel
theorem d_L_feed_6 : decode b_L_feed 6 = .ok (.iload_n 3, 1) := by decide +kernel
theorem d_L_feed_7 : decode b_L_feed 7 = .ok (.iload 4, 2) := by decide +kernel
theorem d_L_feed_9 : decode b_L_feed 9 = .ok (.iload 5, 2) := by decide +kernel
theorem d_L_feed_11 : decode b_L_feed 11 = .ok (.invokevirtual 7, 3) := by decide +kernel
theorem d_L_feed_14 : decode b_L_feed 14 = .ok (.i2l, 1) := by decide +kernel
theorem d_L_feed_15 : decode b_L_feed 15 = .ok (.lastore, 1) := by decide +kernel
theorem d_L_feed_16 : decode b_L_feed 16 = .ok (.goto 7, 3) := by decide +kernel
theorem d_L_feed_19 : decode b_L_feed 19 = .ok (.astore 7, 2) := by decide +kernel
theorem d_L_feed_21 : decode b_L_feed 21 = .ok (.iconst 1, 1) := by decide +kernel
theorem d_L_feed_22 : decode b_L_feed 22 = .ok (.ireturn, 1) := by decide +kernel
theorem d_L_feed_23 : decode b_L_feed 23 = .ok (.iconst 0, 1) := by decide +kernel
theorem d_L_feed_24 : decode b_L_feed 24 = .ok (.ireturn, 1) := by decide +kernel
abbrev rmw_mL_feed (MC MS : Nat) : Room := { frames := 7, cells := MC, slots := MS, locals := 106 }
def Iw_mL_feed_e (p : Program) (l : Launch) (e : Env) (s : State) (m : MethodId) (args : Array Value) (below : List Frame) (meth : Method) (c : Code) (D : va_G) (cy : Nat → ClassId) (A : Nat → Prop) (ad : Nat → Nat) (mi MC MS : Nat) (Φ : Int32 → Mm → Prop) (k : Nat → Nat → Mm → Nat → Int32 → Int32 → Int32 → Int32 → Int32 → Nat → Prop) : Prop :=
  ∀ (κ σ : Nat) (M : Mm) (a0 : Nat) (a1 : Int32) (a2 : Int32) (a3 : Int32) (a4 : Int32) (a5 : Int32) (a6 : Nat), k κ σ M a0 a1 a2 a3 a4 a5 a6 → κ ≤ MC → σ ≤ MS → ∀ (H : Heap) (locs : List Loc) (ls : Array Slot), va_P D classes (mw M) H → va_D A (mw M) → va_S A s.heap H locs → lv_has ls 8 [(0, .ref a0), (1, .int a1), (2, .int a2), (3, .int a3), (4, .int a4), (5, .int a5), (6, .ref a6)] → W p l e (rmw_mL_feed MC MS) s m args below meth c H locs κ σ (MQ below (va_Qi Φ (fun u t => Po D cy A (mw u) t) A) args s MC MS A) (F0 m 0 ls [])
theorem hdt_103 : ({ cls := "CoinKeeper", name := "feed", desc := "(IIIII)I" } : Jvm.MethodName).cls ≠ "java/lang/invoke/MethodHandle" ∧ ({ cls := "CoinKeeper", name := "feed", desc := "(IIIII)I" } : Jvm.MethodName).cls ≠ "java/lang/invoke/VarHandle" ∧ (parseMethodDescriptor ({ cls := "CoinKeeper", name := "feed", desc := "(IIIII)I" } : Jvm.MethodName).desc).map (fun d => d.parameters.length) = some 5 := by decide +kernel
set_option maxHeartbeats 8000000 in
set_option maxRecDepth 100000 in
theorem wew_mL_feed {p : Program} {l : Launch} {e : Env} {s : State} {m : MethodId} {args : Array Value} {below : List Frame} {meth : Method} {c : Code} {D : va_G} {cy : Nat → ClassId} {A : Nat → Prop} {ad : Nat → Nat} {mi MC MS : Nat} {Φ : Int32 → Mm → Prop} {fu : Nat} (hlt : ∀ e, l.admits e → e.platform.stackTraces = false) (F : FxMW p s m args meth c b_L_feed 8 "CoinKeeperLaw" "feed" (some .int) D cy ad mi A [(0, 16, 19, 13)]) : Iw_mL_feed_e p l e s m args below meth c D cy A ad mi MC MS Φ (xw_mL_feed fu MC MS cy ad mi Φ) := by
  obtain ⟨⟨hx, hb, hr, hml, hown, hts, hlocks, hK, hA, hSt, hnm, hxt, hT⟩, hMi⟩ := id F
  intro κ σ M a0 a1 a2 a3 a4 a5 a6 hf hkc hks H locs ls hP hD hS hl
  unfold xw_mL_feed at hf
  refine lv_aload hx hb d_L_feed_0 (lv_at hl 6 rfl) ?_
  refine lv_iconst (v := 0) hx hb d_L_feed_2 (by decide) ?_
  refine lv_aload_n hx hb d_L_feed_3 rfl (lv_at hl 0 rfl) ?_
  refine lv_iload_n hx hb d_L_feed_4 rfl (lv_at hl 1 rfl) ?_
  refine lv_iload_n hx hb d_L_feed_5 rfl (lv_at hl 2 rfl) ?_
  refine lv_iload_n hx hb d_L_feed_6 rfl (lv_at hl 3 rfl) ?_
  refine lv_iload hx hb d_L_feed_7 (lv_at hl 4 rfl) ?_
  refine lv_iload hx hb d_L_feed_9 (lv_at hl 5 rfl) ?_
  rcases hf with hf | hf
  · obtain ⟨ht, ⟨hkc, hks⟩, fs_, hm_, hf⟩ := hf
    obtain ⟨ix_, hi_⟩ := m_ix hm_
    refine q_thr (C := "CoinKeeper") (As := [.int a1, .int a2, .int a3, .int a4, .int a5]) (rest := [.int (0 : Int32), .ref a6]) ⟨hx, hb, hml, hown, hts⟩ (tn_mK_feed_S l hlt D cy ad mi a0 a1 a2 a3 a4 a5 M ht H.size) ⟨q_cB hts gw_575 gw_1 gw_572 hdt_103 ⟨Nat.le_of_ble_eq_true rfl, Nat.le_of_ble_eq_true rfl⟩, hts _ gw_573, hts _ gw_574⟩ (q_preVM (q_preM hP hD hK hSt hT hMi hS (m_free hD hS hA) _) (va_recv hK hP (ci := 0) (q0 := ix_) rfl hi_)) rfl hl.1 (Nat.le_of_ble_eq_true rfl) d_L_feed_11 ⟨hkc, hks⟩ hxt rfl (by decide) (hts _ gw_571) (hSt.2.1 _ (List.mem_of_getElem? (i := 7) rfl)) hP hS (fun thx H hP hS => ?_)
    refine lv_astore (lv' := [(7, .ref thx), (0, .ref a0), (1, .int a1), (2, .int a2), (3, .int a3), (4, .int a4), (5, .int a5), (6, .ref a6)]) hx hb d_L_feed_19 hl (by decide) rfl (fun ls hl => ?_)
    refine lv_iconst (v := 1) hx hb d_L_feed_21 (by decide) ?_
    refine W.widen (k := MC) (n := MS) hkc hks ?_
    exact m_ri hf hx hb hr hlocks hK hP hD hS d_L_feed_22
  · obtain ⟨fs_, hm_, hf⟩ := hf
    obtain ⟨ix_, hi_⟩ := m_ix hm_
    obtain ⟨mc1, ms2, ⟨hc_, hd_⟩, hf⟩ := hf
    refine mm_ai (va_runV (C := "CoinKeeper") (As := [.int a1, .int a2, .int a3, .int a4, .int a5]) (rest := [.int (0 : Int32), .ref a6]) ⟨hx, hb, hml, hown, hts⟩ (cw_mK_feed l D cy ad mi fu mc1 ms2 a0 a1 a2 a3 a4 a5 M _ hf H.size) ⟨q_cB hts gw_575 gw_1 gw_572 hdt_103 ⟨Nat.le_of_ble_eq_true rfl, Nat.le_of_ble_eq_true rfl⟩, hts _ gw_573, hts _ gw_574⟩ (q_preVM (q_preM hP hD hK hSt hT hMi hS (m_free hD hS hA) _) (va_recv hK hP (ci := 0) (q0 := ix_) rfl hi_)) rfl rfl hl.1 rfl (lv_room (Nat.le_of_ble_eq_true rfl)) d_L_feed_11 ⟨hc_, hd_⟩) hD hS hA (fun v4 M3 H locs hf hP hD hS => ?_)
    have hkc : κ + mc1 ≤ MC := hc_
    have hks : σ + ms2 ≤ MS := hd_
    clear hc_ hd_
    refine lv_i2l hx hb d_L_feed_14 rfl ?_
    refine lv_topl (fun v5 ev => ?_)
    have hf := bnQ ev hf
    clear ev
    obtain ⟨n_, f_, hm_, hin_, hf⟩ := hf
    obtain ⟨ix_, hi_⟩ := m_ix hm_
    have hE_ := m_set (y := .inl (cy 2, n_, .inr (.inl (vp_updL f_ (0 : Int32).toNatClampNeg v5)))) hD hi_
    refine va_last hx hb hK hP hD hS ix_ 2 hi_ rfl (inb_in hin_) d_L_feed_15 (fun H locs hP hD hS => ?_)
    obtain ⟨M6, eM_⟩ : ∃ z, z = mu M3 a6 (.inl (cy 2, n_, .inr (.inl (vp_updL f_ (0 : Int32).toNatClampNeg v5)))) := ⟨_, rfl⟩
    rw [← eM_] at hf hE_
    rw [hE_] at hP hD
    clear hE_ eM_ hi_ hm_
    refine lv_goto (tgt := 23) hx hb d_L_feed_16 (by decide) ?_
    refine lv_iconst (v := 0) hx hb d_L_feed_23 (by decide) ?_
    refine W.widen (k := MC) (n := MS) hkc hks ?_
    exact m_ri hf hx hb hr hlocks hK hP hD hS d_L_feed_24
theorem cw_mL_feed (l : Launch) (hlt : ∀ e, l.admits e → e.platform.stackTraces = false) (D : va_G) (cy : Nat → ClassId) (ad : Nat → Nat) (mi fu MC MS : Nat) (a0 : Nat) (a1 : Int32) (a2 : Int32) (a3 : Int32) (a4 : Int32) (a5 : Int32) (a6 : Nat) (M : Mm) (Φ : Int32 → Mm → Prop) (hf : xw_mL_feed fu MC MS cy ad mi Φ 0 0 M a0 a1 a2 a3 a4 a5 a6) (sz : Nat) : Met l ({ cls := "CoinKeeperLaw", name := "feed", desc := "(LCoinKeeper;IIIII[J)I" } : Jvm.MethodName) (.codeWith ({ cls := "CoinKeeperLaw", name := "feed", desc := "(LCoinKeeper;IIIII[J)I" } : Jvm.MethodName) b_L_feed 8 (some .int) [(0, 16, 19, 13)] :: gw) (rmw_mL_feed MC MS) (va_Pc [.ref a0, .int a1, .int a2, .int a3, .int a4, .int a5, .ref a6] (PrM D cy ad mi (mw M) sz)) (va_Qi Φ (fun u t => Po D cy (va_A (mw M) sz) (mw u) t) (va_A (mw M) sz)) MC MS (va_A (mw M) sz) :=
  q_metMW (Qd := fun A => va_Qi Φ (fun u t => Po D cy A (mw u) t) A) (by decide) rfl rfl (Nat.le_of_ble_eq_true rfl) (fun p e s m below meth c ls F hP hD hS hl => wew_mL_feed (fu := fu) hlt F 0 0 M a0 a1 a2 a3 a4 a5 a6 hf (Nat.zero_le _) (Nat.zero_le _) _ _ _ hP hD hS hl) sz
abbrev b_L_end : ByteArray := method_4_code
theorem d_L_end_0 : decode b_L_end 0 = .ok (.aload_n 2, 1) := by decide +kernel
theorem d_L_end_1 : decode b_L_end 1 = .ok (.iconst 0, 1) := by decide +kernel
theorem d_L_end_2 : decode b_L_end 2 = .ok (.aload_n 0, 1) := by decide +kernel
theorem d_L_end_3 : decode b_L_end 3 = .ok (.iload_n 1, 1) := by decide +kernel
theorem d_L_end_4 : decode b_L_end 4 = .ok (.invokevirtual 15, 3) := by decide +kernel
theorem d_L_end_7 : decode b_L_end 7 = .ok (.i2l, 1) := by decide +kernel
theorem d_L_end_8 : decode b_L_end 8 = .ok (.lastore, 1) := by decide +kernel
theorem d_L_end_9 : decode b_L_end 9 = .ok (.goto 6, 3) := by decide +kernel
theorem d_L_end_12 : decode b_L_end 12 = .ok (.astore_n 3, 1) := by decide +kernel
theorem d_L_end_13 : decode b_L_end 13 = .ok (.iconst 1, 1) := by decide +kernel
theorem d_L_end_14 : decode b_L_end 14 = .ok (.ireturn, 1) := by decide +kernel
theorem d_L_end_15 : decode b_L_end 15 = .ok (.iconst 0, 1) := by decide +kernel
theorem d_L_end_16 : decode b_L_end 16 = .ok (.ireturn, 1) := by decide +kernel
abbrev rmw_mL_end (MC MS : Nat) : Room := { frames := 7, cells := MC, slots := MS, locals := 102 }
def Iw_mL_end_e (p : Program) (l : Launch) (e : Env) (s : State) (m : MethodId) (args : Array Value) (below : List Frame) (meth : Method) (c : Code) (D : va_G) (cy : Nat → ClassId) (A : Nat → Prop) (ad : Nat → Nat) (mi MC MS : Nat) (Φ : Int32 → Mm → Prop) (k : Nat → Nat → Mm → Nat → Int32 → Nat → Prop) : Prop :=
  ∀ (κ σ : Nat) (M : Mm) (a0 : Nat) (a1 : Int32) (a2 : Nat), k κ σ M a0 a1 a2 → κ ≤ MC → σ ≤ MS → ∀ (H : Heap) (locs : List Loc) (ls : Array Slot), va_P D classes (mw M) H → va_D A (mw M) → va_S A s.heap H locs → lv_has ls 4 [(0, .ref a0), (1, .int a1), (2, .ref a2)] → W p l e (rmw_mL_end MC MS) s m args below meth c H locs κ σ (MQ below (va_Qi Φ (fun u t => Po D cy A (mw u) t) A) args s MC MS A) (F0 m 0 ls [])
theorem hdt_104 : ({ cls := "CoinKeeper", name := "end", desc := "(I)I" } : Jvm.MethodName).cls ≠ "java/lang/invoke/MethodHandle" ∧ ({ cls := "CoinKeeper", name := "end", desc := "(I)I" } : Jvm.MethodName).cls ≠ "java/lang/invoke/VarHandle" ∧ (parseMethodDescriptor ({ cls := "CoinKeeper", name := "end", desc := "(I)I" } : Jvm.MethodName).desc).map (fun d => d.parameters.length) = some 1 := by decide +kernel
set_option maxHeartbeats 8000000 in
set_option maxRecDepth 100000 in
theorem wew_mL_end {p : Program} {l : Launch} {e : Env} {s : State} {m : MethodId} {args : Array Value} {below : List Frame} {meth : Method} {c : Code} {D : va_G} {cy : Nat → ClassId} {A : Nat → Prop} {ad : Nat → Nat} {mi MC MS : Nat} {Φ : Int32 → Mm → Prop} {fu : Nat} (hlt : ∀ e, l.admits e → e.platform.stackTraces = false) (F : FxMW p s m args meth c b_L_end 4 "CoinKeeperLaw" "end" (some .int) D cy ad mi A [(0, 9, 12, 19)]) : Iw_mL_end_e p l e s m args below meth c D cy A ad mi MC MS Φ (xw_mL_end fu MC MS cy ad mi Φ) := by
  obtain ⟨⟨hx, hb, hr, hml, hown, hts, hlocks, hK, hA, hSt, hnm, hxt, hT⟩, hMi⟩ := id F
  intro κ σ M a0 a1 a2 hf hkc hks H locs ls hP hD hS hl
  unfold xw_mL_end at hf
  refine lv_aload_n hx hb d_L_end_0 rfl (lv_at hl 2 rfl) ?_
  refine lv_iconst (v := 0) hx hb d_L_end_1 (by decide) ?_
  refine lv_aload_n hx hb d_L_end_2 rfl (lv_at hl 0 rfl) ?_
  refine lv_iload_n hx hb d_L_end_3 rfl (lv_at hl 1 rfl) ?_
  rcases hf with hf | hf
  · obtain ⟨ht, ⟨hkc, hks⟩, fs_, hm_, hf⟩ := hf
    obtain ⟨ix_, hi_⟩ := m_ix hm_
    refine q_thr (C := "CoinKeeper") (As := [.int a1]) (rest := [.int (0 : Int32), .ref a2]) ⟨hx, hb, hml, hown, hts⟩ (tn_mK_end_A l hlt D cy ad mi a0 a1 M ht H.size) ⟨q_cB hts gw_650 gw_1 gw_647 hdt_104 ⟨Nat.le_of_ble_eq_true rfl, Nat.le_of_ble_eq_true rfl⟩, hts _ gw_648, hts _ gw_649⟩ (q_preVM (q_preM hP hD hK hSt hT hMi hS (m_free hD hS hA) _) (va_recv hK hP (ci := 0) (q0 := ix_) rfl hi_)) rfl hl.1 (Nat.le_of_ble_eq_true rfl) d_L_end_4 ⟨hkc, hks⟩ hxt rfl (by decide) (hts _ gw_646) (hSt.2.1 _ (List.mem_of_getElem? (i := 14) rfl)) hP hS (fun thx H hP hS => ?_)
    refine lv_astore_n (lv' := [(3, .ref thx), (0, .ref a0), (1, .int a1), (2, .ref a2)]) hx hb d_L_end_12 rfl hl (by decide) rfl (fun ls hl => ?_)
    refine lv_iconst (v := 1) hx hb d_L_end_13 (by decide) ?_
    refine W.widen (k := MC) (n := MS) hkc hks ?_
    exact m_ri hf hx hb hr hlocks hK hP hD hS d_L_end_14
  · obtain ⟨fs_, hm_, hf⟩ := hf
    obtain ⟨ix_, hi_⟩ := m_ix hm_
    obtain ⟨mc1, ms2, ⟨hc_, hd_⟩, hf⟩ := hf
    refine mm_ai (va_runV (C := "CoinKeeper") (As := [.int a1]) (rest := [.int (0 : Int32), .ref a2]) ⟨hx, hb, hml, hown, hts⟩ (cw_mK_end l D cy ad mi fu mc1 ms2 a0 a1 M _ hf H.size) ⟨q_cB hts gw_650 gw_1 gw_647 hdt_104 ⟨Nat.le_of_ble_eq_true rfl, Nat.le_of_ble_eq_true rfl⟩, hts _ gw_648, hts _ gw_649⟩ (q_preVM (q_preM hP hD hK hSt hT hMi hS (m_free hD hS hA) _) (va_recv hK hP (ci := 0) (q0 := ix_) rfl hi_)) rfl rfl hl.1 rfl (lv_room (Nat.le_of_ble_eq_true rfl)) d_L_end_4 ⟨hc_, hd_⟩) hD hS hA (fun v4 M3 H locs hf hP hD hS => ?_)
    have hkc : κ + mc1 ≤ MC := hc_
    have hks : σ + ms2 ≤ MS := hd_
    clear hc_ hd_
    refine lv_i2l hx hb d_L_end_7 rfl ?_
    refine lv_topl (fun v5 ev => ?_)
    have hf := bnQ ev hf
    clear ev
    obtain ⟨n_, f_, hm_, hin_, hf⟩ := hf
    obtain ⟨ix_, hi_⟩ := m_ix hm_
    have hE_ := m_set (y := .inl (cy 2, n_, .inr (.inl (vp_updL f_ (0 : Int32).toNatClampNeg v5)))) hD hi_
    refine va_last hx hb hK hP hD hS ix_ 2 hi_ rfl (inb_in hin_) d_L_end_8 (fun H locs hP hD hS => ?_)
    obtain ⟨M6, eM_⟩ : ∃ z, z = mu M3 a2 (.inl (cy 2, n_, .inr (.inl (vp_updL f_ (0 : Int32).toNatClampNeg v5)))) := ⟨_, rfl⟩
    rw [← eM_] at hf hE_
    rw [hE_] at hP hD
    clear hE_ eM_ hi_ hm_
    refine lv_goto (tgt := 15) hx hb d_L_end_9 (by decide) ?_
    refine lv_iconst (v := 0) hx hb d_L_end_15 (by decide) ?_
    refine W.widen (k := MC) (n := MS) hkc hks ?_
    exact m_ri hf hx hb hr hlocks hK hP hD hS d_L_end_16
theorem cw_mL_end (l : Launch) (hlt : ∀ e, l.admits e → e.platform.stackTraces = false) (D : va_G) (cy : Nat → ClassId) (ad : Nat → Nat) (mi fu MC MS : Nat) (a0 : Nat) (a1 : Int32) (a2 : Nat) (M : Mm) (Φ : Int32 → Mm → Prop) (hf : xw_mL_end fu MC MS cy ad mi Φ 0 0 M a0 a1 a2) (sz : Nat) : Met l ({ cls := "CoinKeeperLaw", name := "end", desc := "(LCoinKeeper;I[J)I" } : Jvm.MethodName) (.codeWith ({ cls := "CoinKeeperLaw", name := "end", desc := "(LCoinKeeper;I[J)I" } : Jvm.MethodName) b_L_end 4 (some .int) [(0, 9, 12, 19)] :: gw) (rmw_mL_end MC MS) (va_Pc [.ref a0, .int a1, .ref a2] (PrM D cy ad mi (mw M) sz)) (va_Qi Φ (fun u t => Po D cy (va_A (mw M) sz) (mw u) t) (va_A (mw M) sz)) MC MS (va_A (mw M) sz) :=
  q_metMW (Qd := fun A => va_Qi Φ (fun u t => Po D cy A (mw u) t) A) (by decide) rfl rfl (Nat.le_of_ble_eq_true rfl) (fun p e s m below meth c ls F hP hD hS hl => wew_mL_end (fu := fu) hlt F 0 0 M a0 a1 a2 hf (Nat.zero_le _) (Nat.zero_le _) _ _ _ hP hD hS hl) sz
abbrev b_L_submit : ByteArray := method_5_code
theorem d_L_submit_0 : decode b_L_submit 0 = .ok (.aload_n 1, 1) := by decide +kernel
theorem d_L_submit_1 : decode b_L_submit 1 = .ok (.iconst 0, 1) := by decide +kernel
theorem d_L_submit_2 : decode b_L_submit 2 = .ok (.aload_n 0, 1) := by decide +kernel
theorem d_L_submit_3 : decode b_L_submit 3 = .ok (.invokevirtual 21, 3) := by decide +kernel
theorem d_L_submit_6 : decode b_L_submit 6 = .ok (.i2l, 1) := by decide +kernel
theorem d_L_submit_7 : decode b_L_submit 7 = .ok (.lastore, 1) := by decide +kernel
theorem d_L_submit_8 : decode b_L_submit 8 = .ok (.goto 6, 3) := by decide +kernel
theorem d_L_submit_11 : decode b_L_submit 11 = .ok (.astore_n 2, 1) := by decide +kernel
theorem d_L_submit_12 : decode b_L_submit 12 = .ok (.iconst 1, 1) := by decide +kernel
theorem d_L_submit_13 : decode b_L_submit 13 = .ok (.ireturn, 1) := by decide +kernel
theorem d_L_submit_14 : decode b_L_submit 14 = .ok (.iconst 0, 1) := by decide +kernel
theorem d_L_submit_15 : decode b_L_submit 15 = .ok (.ireturn, 1) := by decide +kernel
abbrev rmw_mL_submit (MC MS : Nat) : Room := { frames := 14, cells := MC, slots := MS, locals := 324 }
def Iw_mL_submit_e (p : Program) (l : Launch) (e : Env) (s : State) (m : MethodId) (args : Array Value) (below : List Frame) (meth : Method) (c : Code) (D : va_G) (cy : Nat → ClassId) (A : Nat → Prop) (ad : Nat → Nat) (mi MC MS : Nat) (Φ : Int32 → Mm → Prop) (k : Nat → Nat → Mm → Nat → Nat → Prop) : Prop :=
  ∀ (κ σ : Nat) (M : Mm) (a0 : Nat) (a1 : Nat), k κ σ M a0 a1 → κ ≤ MC → σ ≤ MS → ∀ (H : Heap) (locs : List Loc) (ls : Array Slot), va_P D classes (mw M) H → va_D A (mw M) → va_S A s.heap H locs → lv_has ls 3 [(0, .ref a0), (1, .ref a1)] → W p l e (rmw_mL_submit MC MS) s m args below meth c H locs κ σ (MQ below (va_Qi Φ (fun u t => Po D cy A (mw u) t) A) args s MC MS A) (F0 m 0 ls [])
theorem hdt_105 : ({ cls := "CoinKeeper", name := "submit", desc := "()I" } : Jvm.MethodName).cls ≠ "java/lang/invoke/MethodHandle" ∧ ({ cls := "CoinKeeper", name := "submit", desc := "()I" } : Jvm.MethodName).cls ≠ "java/lang/invoke/VarHandle" ∧ (parseMethodDescriptor ({ cls := "CoinKeeper", name := "submit", desc := "()I" } : Jvm.MethodName).desc).map (fun d => d.parameters.length) = some 0 := by decide +kernel
set_option maxHeartbeats 8000000 in
set_option maxRecDepth 100000 in
theorem wew_mL_submit {p : Program} {l : Launch} {e : Env} {s : State} {m : MethodId} {args : Array Value} {below : List Frame} {meth : Method} {c : Code} {D : va_G} {cy : Nat → ClassId} {A : Nat → Prop} {ad : Nat → Nat} {mi MC MS : Nat} {Φ : Int32 → Mm → Prop} {fu : Nat} (hlt : ∀ e, l.admits e → e.platform.stackTraces = false) (F : FxMW p s m args meth c b_L_submit 3 "CoinKeeperLaw" "submit" (some .int) D cy ad mi A [(0, 8, 11, 13)]) : Iw_mL_submit_e p l e s m args below meth c D cy A ad mi MC MS Φ (xw_mL_submit fu MC MS cy ad mi Φ) := by
  obtain ⟨⟨hx, hb, hr, hml, hown, hts, hlocks, hK, hA, hSt, hnm, hxt, hT⟩, hMi⟩ := id F
  intro κ σ M a0 a1 hf hkc hks H locs ls hP hD hS hl
  unfold xw_mL_submit at hf
  refine lv_aload_n hx hb d_L_submit_0 rfl (lv_at hl 1 rfl) ?_
  refine lv_iconst (v := 0) hx hb d_L_submit_1 (by decide) ?_
  refine lv_aload_n hx hb d_L_submit_2 rfl (lv_at hl 0 rfl) ?_
  obtain ⟨fs_, hm_, hf⟩ := hf
  obtain ⟨ix_, hi_⟩ := m_ix hm_
  obtain ⟨mc1, ms2, ⟨hc_, hd_⟩, hf⟩ := hf
  refine mm_ai (va_runV (C := "CoinKeeper") (As := []) (rest := [.int (0 : Int32), .ref a1]) ⟨hx, hb, hml, hown, hts⟩ (cw_mK_submit l D cy ad mi fu mc1 ms2 a0 M _ hf H.size) ⟨q_cB hts gw_672 gw_1 gw_669 hdt_105 ⟨Nat.le_of_ble_eq_true rfl, Nat.le_of_ble_eq_true rfl⟩, hts _ gw_670, hts _ gw_671⟩ (q_preVM (q_preM hP hD hK hSt hT hMi hS (m_free hD hS hA) _) (va_recv hK hP (ci := 0) (q0 := ix_) rfl hi_)) rfl rfl hl.1 rfl (lv_room (Nat.le_of_ble_eq_true rfl)) d_L_submit_3 ⟨hc_, hd_⟩) hD hS hA (fun v4 M3 H locs hf hP hD hS => ?_)
  have hkc : κ + mc1 ≤ MC := hc_
  have hks : σ + ms2 ≤ MS := hd_
  clear hc_ hd_
  refine lv_i2l hx hb d_L_submit_6 rfl ?_
  refine lv_topl (fun v5 ev => ?_)
  have hf := bnQ ev hf
  clear ev
  obtain ⟨n_, f_, hm_, hin_, hf⟩ := hf
  obtain ⟨ix_, hi_⟩ := m_ix hm_
  have hE_ := m_set (y := .inl (cy 2, n_, .inr (.inl (vp_updL f_ (0 : Int32).toNatClampNeg v5)))) hD hi_
  refine va_last hx hb hK hP hD hS ix_ 2 hi_ rfl (inb_in hin_) d_L_submit_7 (fun H locs hP hD hS => ?_)
  obtain ⟨M6, eM_⟩ : ∃ z, z = mu M3 a1 (.inl (cy 2, n_, .inr (.inl (vp_updL f_ (0 : Int32).toNatClampNeg v5)))) := ⟨_, rfl⟩
  rw [← eM_] at hf hE_
  rw [hE_] at hP hD
  clear hE_ eM_ hi_ hm_
  refine lv_goto (tgt := 14) hx hb d_L_submit_8 (by decide) ?_
  refine lv_iconst (v := 0) hx hb d_L_submit_14 (by decide) ?_
  refine W.widen (k := MC) (n := MS) hkc hks ?_
  exact m_ri hf hx hb hr hlocks hK hP hD hS d_L_submit_15
theorem cw_mL_submit (l : Launch) (hlt : ∀ e, l.admits e → e.platform.stackTraces = false) (D : va_G) (cy : Nat → ClassId) (ad : Nat → Nat) (mi fu MC MS : Nat) (a0 : Nat) (a1 : Nat) (M : Mm) (Φ : Int32 → Mm → Prop) (hf : xw_mL_submit fu MC MS cy ad mi Φ 0 0 M a0 a1) (sz : Nat) : Met l ({ cls := "CoinKeeperLaw", name := "submit", desc := "(LCoinKeeper;[J)I" } : Jvm.MethodName) (.codeWith ({ cls := "CoinKeeperLaw", name := "submit", desc := "(LCoinKeeper;[J)I" } : Jvm.MethodName) b_L_submit 3 (some .int) [(0, 8, 11, 13)] :: gw) (rmw_mL_submit MC MS) (va_Pc [.ref a0, .ref a1] (PrM D cy ad mi (mw M) sz)) (va_Qi Φ (fun u t => Po D cy (va_A (mw M) sz) (mw u) t) (va_A (mw M) sz)) MC MS (va_A (mw M) sz) :=
  q_metMW (Qd := fun A => va_Qi Φ (fun u t => Po D cy A (mw u) t) A) (by decide) rfl rfl (Nat.le_of_ble_eq_true rfl) (fun p e s m below meth c ls F hP hD hS hl => wew_mL_submit (fu := fu) hlt F 0 0 M a0 a1 hf (Nat.zero_le _) (Nat.zero_le _) _ _ _ hP hD hS hl) sz
abbrev b_L_script : ByteArray := method_6_code
theorem d_L_script_0 : decode b_L_script 0 = .ok (.aload_n 2, 1) := by decide +kernel
theorem d_L_script_1 : decode b_L_script 1 = .ok (.iconst 0, 1) := by decide +kernel
theorem d_L_script_2 : decode b_L_script 2 = .ok (.aload_n 0, 1) := by decide +kernel
theorem d_L_script_3 : decode b_L_script 3 = .ok (.iload_n 1, 1) := by decide +kernel
theorem d_L_script_4 : decode b_L_script 4 = .ok (.invokevirtual 25, 3) := by decide +kernel
theorem d_L_script_7 : decode b_L_script 7 = .ok (.ifCond .eq 7, 3) := by decide +kernel
theorem d_L_script_10 : decode b_L_script 10 = .ok (.lconst 1, 1) := by decide +kernel
theorem d_L_script_11 : decode b_L_script 11 = .ok (.goto 4, 3) := by decide +kernel
theorem d_L_script_14 : decode b_L_script 14 = .ok (.lconst 0, 1) := by decide +kernel
theorem d_L_script_15 : decode b_L_script 15 = .ok (.lastore, 1) := by decide +kernel
theorem d_L_script_16 : decode b_L_script 16 = .ok (.goto 6, 3) := by decide +kernel
theorem d_L_script_19 : decode b_L_script 19 = .ok (.astore_n 3, 1) := by decide +kernel
theorem d_L_script_20 : decode b_L_script 20 = .ok (.iconst 1, 1) := by decide +kernel
theorem d_L_script_21 : decode b_L_script 21 = .ok (.ireturn, 1) := by decide +kernel
theorem d_L_script_22 : decode b_L_script 22 = .ok (.iconst 0, 1) := by decide +kernel
theorem d_L_script_23 : decode b_L_script 23 = .ok (.ireturn, 1) := by decide +kernel
abbrev rmw_mL_script (MC MS : Nat) : Room := { frames := 8, cells := MC, slots := MS, locals := 235 }
def Iw_mL_script_e (p : Program) (l : Launch) (e : Env) (s : State) (m : MethodId) (args : Array Value) (below : List Frame) (meth : Method) (c : Code) (D : va_G) (cy : Nat → ClassId) (A : Nat → Prop) (ad : Nat → Nat) (mi MC MS : Nat) (Φ : Int32 → Mm → Prop) (k : Nat → Nat → Mm → Nat → Int32 → Nat → Prop) : Prop :=
  ∀ (κ σ : Nat) (M : Mm) (a0 : Nat) (a1 : Int32) (a2 : Nat), k κ σ M a0 a1 a2 → κ ≤ MC → σ ≤ MS → ∀ (H : Heap) (locs : List Loc) (ls : Array Slot), va_P D classes (mw M) H → va_D A (mw M) → va_S A s.heap H locs → lv_has ls 4 [(0, .ref a0), (1, .int a1), (2, .ref a2)] → W p l e (rmw_mL_script MC MS) s m args below meth c H locs κ σ (MQ below (va_Qi Φ (fun u t => Po D cy A (mw u) t) A) args s MC MS A) (F0 m 0 ls [])
theorem hdt_106 : ({ cls := "CoinKeeper", name := "script", desc := "(I)Z" } : Jvm.MethodName).cls ≠ "java/lang/invoke/MethodHandle" ∧ ({ cls := "CoinKeeper", name := "script", desc := "(I)Z" } : Jvm.MethodName).cls ≠ "java/lang/invoke/VarHandle" ∧ (parseMethodDescriptor ({ cls := "CoinKeeper", name := "script", desc := "(I)Z" } : Jvm.MethodName).desc).map (fun d => d.parameters.length) = some 1 := by decide +kernel
set_option maxHeartbeats 8000000 in
set_option maxRecDepth 100000 in
theorem wew_mL_script {p : Program} {l : Launch} {e : Env} {s : State} {m : MethodId} {args : Array Value} {below : List Frame} {meth : Method} {c : Code} {D : va_G} {cy : Nat → ClassId} {A : Nat → Prop} {ad : Nat → Nat} {mi MC MS : Nat} {Φ : Int32 → Mm → Prop} {fu : Nat} (hlt : ∀ e, l.admits e → e.platform.stackTraces = false) (F : FxMW p s m args meth c b_L_script 4 "CoinKeeperLaw" "script" (some .int) D cy ad mi A [(0, 16, 19, 19)]) : Iw_mL_script_e p l e s m args below meth c D cy A ad mi MC MS Φ (xw_mL_script fu MC MS cy ad mi Φ) := by
  obtain ⟨⟨hx, hb, hr, hml, hown, hts, hlocks, hK, hA, hSt, hnm, hxt, hT⟩, hMi⟩ := id F
  intro κ σ M a0 a1 a2 hf hkc hks H locs ls hP hD hS hl
  unfold xw_mL_script at hf
  refine lv_aload_n hx hb d_L_script_0 rfl (lv_at hl 2 rfl) ?_
  refine lv_iconst (v := 0) hx hb d_L_script_1 (by decide) ?_
  refine lv_aload_n hx hb d_L_script_2 rfl (lv_at hl 0 rfl) ?_
  refine lv_iload_n hx hb d_L_script_3 rfl (lv_at hl 1 rfl) ?_
  rcases hf with hf | hf
  · obtain ⟨ht, ⟨hkc, hks⟩, fs_, hm_, hf⟩ := hf
    obtain ⟨ix_, hi_⟩ := m_ix hm_
    refine q_thr (C := "CoinKeeper") (As := [.int a1]) (rest := [.int (0 : Int32), .ref a2]) ⟨hx, hb, hml, hown, hts⟩ (tn_mK_script_A l hlt D cy ad mi a0 a1 M ht H.size) ⟨q_cB hts gw_1286 gw_1 gw_1283 hdt_106 ⟨Nat.le_of_ble_eq_true rfl, Nat.le_of_ble_eq_true rfl⟩, hts _ gw_1284, hts _ gw_1285⟩ (q_preVM (q_preM hP hD hK hSt hT hMi hS (m_free hD hS hA) _) (va_recv hK hP (ci := 0) (q0 := ix_) rfl hi_)) rfl hl.1 (Nat.le_of_ble_eq_true rfl) d_L_script_4 ⟨hkc, hks⟩ hxt rfl (by decide) (hts _ gw_646) (hSt.2.1 _ (List.mem_of_getElem? (i := 14) rfl)) hP hS (fun thx H hP hS => ?_)
    refine lv_astore_n (lv' := [(3, .ref thx), (0, .ref a0), (1, .int a1), (2, .ref a2)]) hx hb d_L_script_19 rfl hl (by decide) rfl (fun ls hl => ?_)
    refine lv_iconst (v := 1) hx hb d_L_script_20 (by decide) ?_
    refine W.widen (k := MC) (n := MS) hkc hks ?_
    exact m_ri hf hx hb hr hlocks hK hP hD hS d_L_script_21
  · obtain ⟨fs_, hm_, hf⟩ := hf
    obtain ⟨ix_, hi_⟩ := m_ix hm_
    obtain ⟨mc1, ms2, ⟨hc_, hd_⟩, hf⟩ := hf
    refine mm_ai (va_runV (C := "CoinKeeper") (As := [.int a1]) (rest := [.int (0 : Int32), .ref a2]) ⟨hx, hb, hml, hown, hts⟩ (cw_mK_script l D cy ad mi fu mc1 ms2 a0 a1 M _ hf H.size) ⟨q_cB hts gw_1286 gw_1 gw_1283 hdt_106 ⟨Nat.le_of_ble_eq_true rfl, Nat.le_of_ble_eq_true rfl⟩, hts _ gw_1284, hts _ gw_1285⟩ (q_preVM (q_preM hP hD hK hSt hT hMi hS (m_free hD hS hA) _) (va_recv hK hP (ci := 0) (q0 := ix_) rfl hi_)) rfl rfl hl.1 rfl (lv_room (Nat.le_of_ble_eq_true rfl)) d_L_script_4 ⟨hc_, hd_⟩) hD hS hA (fun v4 M3 H locs hf hP hD hS => ?_)
    have hkc : κ + mc1 ≤ MC := hc_
    have hks : σ + ms2 ≤ MS := hd_
    clear hc_ hd_
    refine lv_if_eq (tgt := 14) hx hb d_L_script_7 (by decide) (fun cx => ?_) (fun cx => ?_)
    · have hf := ifpP cx hf
      refine lv_lconst (v := 0) hx hb d_L_script_14 (by decide) ?_
      obtain ⟨n_, f_, hm_, hin_, hf⟩ := hf
      obtain ⟨ix_, hi_⟩ := m_ix hm_
      have hE_ := m_set (y := .inl (cy 2, n_, .inr (.inl (vp_updL f_ (0 : Int32).toNatClampNeg (0 : Int64))))) hD hi_
      refine va_last hx hb hK hP hD hS ix_ 2 hi_ rfl (inb_in hin_) d_L_script_15 (fun H locs hP hD hS => ?_)
      obtain ⟨M5, eM_⟩ : ∃ z, z = mu M3 a2 (.inl (cy 2, n_, .inr (.inl (vp_updL f_ (0 : Int32).toNatClampNeg (0 : Int64))))) := ⟨_, rfl⟩
      rw [← eM_] at hf hE_
      rw [hE_] at hP hD
      clear hE_ eM_ hi_ hm_
      refine lv_goto (tgt := 22) hx hb d_L_script_16 (by decide) ?_
      refine lv_iconst (v := 0) hx hb d_L_script_22 (by decide) ?_
      refine W.widen (k := MC) (n := MS) hkc hks ?_
      exact m_ri hf hx hb hr hlocks hK hP hD hS d_L_script_23
    · have hf := ifnP cx hf
      refine lv_lconst (v := 1) hx hb d_L_script_10 (by decide) ?_
      refine lv_goto (tgt := 15) hx hb d_L_script_11 (by decide) ?_
      obtain ⟨n_, f_, hm_, hin_, hf⟩ := hf
      obtain ⟨ix_, hi_⟩ := m_ix hm_
      have hE_ := m_set (y := .inl (cy 2, n_, .inr (.inl (vp_updL f_ (0 : Int32).toNatClampNeg (1 : Int64))))) hD hi_
      refine va_last hx hb hK hP hD hS ix_ 2 hi_ rfl (inb_in hin_) d_L_script_15 (fun H locs hP hD hS => ?_)
      obtain ⟨M6, eM_⟩ : ∃ z, z = mu M3 a2 (.inl (cy 2, n_, .inr (.inl (vp_updL f_ (0 : Int32).toNatClampNeg (1 : Int64))))) := ⟨_, rfl⟩
      rw [← eM_] at hf hE_
      rw [hE_] at hP hD
      clear hE_ eM_ hi_ hm_
      refine lv_goto (tgt := 22) hx hb d_L_script_16 (by decide) ?_
      refine lv_iconst (v := 0) hx hb d_L_script_22 (by decide) ?_
      refine W.widen (k := MC) (n := MS) hkc hks ?_
      exact m_ri hf hx hb hr hlocks hK hP hD hS d_L_script_23
theorem cw_mL_script (l : Launch) (hlt : ∀ e, l.admits e → e.platform.stackTraces = false) (D : va_G) (cy : Nat → ClassId) (ad : Nat → Nat) (mi fu MC MS : Nat) (a0 : Nat) (a1 : Int32) (a2 : Nat) (M : Mm) (Φ : Int32 → Mm → Prop) (hf : xw_mL_script fu MC MS cy ad mi Φ 0 0 M a0 a1 a2) (sz : Nat) : Met l ({ cls := "CoinKeeperLaw", name := "script", desc := "(LCoinKeeper;I[J)I" } : Jvm.MethodName) (.codeWith ({ cls := "CoinKeeperLaw", name := "script", desc := "(LCoinKeeper;I[J)I" } : Jvm.MethodName) b_L_script 4 (some .int) [(0, 16, 19, 19)] :: gw) (rmw_mL_script MC MS) (va_Pc [.ref a0, .int a1, .ref a2] (PrM D cy ad mi (mw M) sz)) (va_Qi Φ (fun u t => Po D cy (va_A (mw M) sz) (mw u) t) (va_A (mw M) sz)) MC MS (va_A (mw M) sz) :=
  q_metMW (Qd := fun A => va_Qi Φ (fun u t => Po D cy A (mw u) t) A) (by decide) rfl rfl (Nat.le_of_ble_eq_true rfl) (fun p e s m below meth c ls F hP hD hS hl => wew_mL_script (fu := fu) hlt F 0 0 M a0 a1 a2 hf (Nat.zero_le _) (Nat.zero_le _) _ _ _ hP hD hS hl) sz
abbrev b_L_hash : ByteArray := method_7_code
theorem d_L_hash_0 : decode b_L_hash 0 = .ok (.aload_n 2, 1) := by decide +kernel
theorem d_L_hash_1 : decode b_L_hash 1 = .ok (.iconst 0, 1) := by decide +kernel
theorem d_L_hash_2 : decode b_L_hash 2 = .ok (.aload_n 0, 1) := by decide +kernel
theorem d_L_hash_3 : decode b_L_hash 3 = .ok (.iload_n 1, 1) := by decide +kernel
theorem d_L_hash_4 : decode b_L_hash 4 = .ok (.invokevirtual 29, 3) := by decide +kernel
theorem d_L_hash_7 : decode b_L_hash 7 = .ok (.i2l, 1) := by decide +kernel
theorem d_L_hash_8 : decode b_L_hash 8 = .ok (.lastore, 1) := by decide +kernel
theorem d_L_hash_9 : decode b_L_hash 9 = .ok (.goto 6, 3) := by decide +kernel
theorem d_L_hash_12 : decode b_L_hash 12 = .ok (.astore_n 3, 1) := by decide +kernel
theorem d_L_hash_13 : decode b_L_hash 13 = .ok (.iconst 1, 1) := by decide +kernel
theorem d_L_hash_14 : decode b_L_hash 14 = .ok (.ireturn, 1) := by decide +kernel
theorem d_L_hash_15 : decode b_L_hash 15 = .ok (.iconst 0, 1) := by decide +kernel
theorem d_L_hash_16 : decode b_L_hash 16 = .ok (.ireturn, 1) := by decide +kernel
abbrev rmw_mL_hash (MC MS : Nat) : Room := { frames := 7, cells := MC, slots := MS, locals := 128 }
def Iw_mL_hash_e (p : Program) (l : Launch) (e : Env) (s : State) (m : MethodId) (args : Array Value) (below : List Frame) (meth : Method) (c : Code) (D : va_G) (cy : Nat → ClassId) (A : Nat → Prop) (ad : Nat → Nat) (mi MC MS : Nat) (Φ : Int32 → Mm → Prop) (k : Nat → Nat → Mm → Nat → Int32 → Nat → Prop) : Prop :=
  ∀ (κ σ : Nat) (M : Mm) (a0 : Nat) (a1 : Int32) (a2 : Nat), k κ σ M a0 a1 a2 → κ ≤ MC → σ ≤ MS → ∀ (H : Heap) (locs : List Loc) (ls : Array Slot), va_P D classes (mw M) H → va_D A (mw M) → va_S A s.heap H locs → lv_has ls 4 [(0, .ref a0), (1, .int a1), (2, .ref a2)] → W p l e (rmw_mL_hash MC MS) s m args below meth c H locs κ σ (MQ below (va_Qi Φ (fun u t => Po D cy A (mw u) t) A) args s MC MS A) (F0 m 0 ls [])
theorem hdt_107 : ({ cls := "CoinKeeper", name := "hash", desc := "(I)I" } : Jvm.MethodName).cls ≠ "java/lang/invoke/MethodHandle" ∧ ({ cls := "CoinKeeper", name := "hash", desc := "(I)I" } : Jvm.MethodName).cls ≠ "java/lang/invoke/VarHandle" ∧ (parseMethodDescriptor ({ cls := "CoinKeeper", name := "hash", desc := "(I)I" } : Jvm.MethodName).desc).map (fun d => d.parameters.length) = some 1 := by decide +kernel
set_option maxHeartbeats 8000000 in
set_option maxRecDepth 100000 in
theorem wew_mL_hash {p : Program} {l : Launch} {e : Env} {s : State} {m : MethodId} {args : Array Value} {below : List Frame} {meth : Method} {c : Code} {D : va_G} {cy : Nat → ClassId} {A : Nat → Prop} {ad : Nat → Nat} {mi MC MS : Nat} {Φ : Int32 → Mm → Prop} {fu : Nat} (hlt : ∀ e, l.admits e → e.platform.stackTraces = false) (F : FxMW p s m args meth c b_L_hash 4 "CoinKeeperLaw" "hash" (some .int) D cy ad mi A [(0, 9, 12, 19)]) : Iw_mL_hash_e p l e s m args below meth c D cy A ad mi MC MS Φ (xw_mL_hash fu MC MS cy ad mi Φ) := by
  obtain ⟨⟨hx, hb, hr, hml, hown, hts, hlocks, hK, hA, hSt, hnm, hxt, hT⟩, hMi⟩ := id F
  intro κ σ M a0 a1 a2 hf hkc hks H locs ls hP hD hS hl
  unfold xw_mL_hash at hf
  refine lv_aload_n hx hb d_L_hash_0 rfl (lv_at hl 2 rfl) ?_
  refine lv_iconst (v := 0) hx hb d_L_hash_1 (by decide) ?_
  refine lv_aload_n hx hb d_L_hash_2 rfl (lv_at hl 0 rfl) ?_
  refine lv_iload_n hx hb d_L_hash_3 rfl (lv_at hl 1 rfl) ?_
  rcases hf with hf | hf
  · obtain ⟨ht, ⟨hkc, hks⟩, fs_, hm_, hf⟩ := hf
    obtain ⟨ix_, hi_⟩ := m_ix hm_
    refine q_thr (C := "CoinKeeper") (As := [.int a1]) (rest := [.int (0 : Int32), .ref a2]) ⟨hx, hb, hml, hown, hts⟩ (tn_mK_hash_A l hlt D cy ad mi a0 a1 M ht H.size) ⟨q_cB hts gw_1298 gw_1 gw_1295 hdt_107 ⟨Nat.le_of_ble_eq_true rfl, Nat.le_of_ble_eq_true rfl⟩, hts _ gw_1296, hts _ gw_1297⟩ (q_preVM (q_preM hP hD hK hSt hT hMi hS (m_free hD hS hA) _) (va_recv hK hP (ci := 0) (q0 := ix_) rfl hi_)) rfl hl.1 (Nat.le_of_ble_eq_true rfl) d_L_hash_4 ⟨hkc, hks⟩ hxt rfl (by decide) (hts _ gw_646) (hSt.2.1 _ (List.mem_of_getElem? (i := 14) rfl)) hP hS (fun thx H hP hS => ?_)
    refine lv_astore_n (lv' := [(3, .ref thx), (0, .ref a0), (1, .int a1), (2, .ref a2)]) hx hb d_L_hash_12 rfl hl (by decide) rfl (fun ls hl => ?_)
    refine lv_iconst (v := 1) hx hb d_L_hash_13 (by decide) ?_
    refine W.widen (k := MC) (n := MS) hkc hks ?_
    exact m_ri hf hx hb hr hlocks hK hP hD hS d_L_hash_14
  · obtain ⟨fs_, hm_, hf⟩ := hf
    obtain ⟨ix_, hi_⟩ := m_ix hm_
    obtain ⟨mc1, ms2, ⟨hc_, hd_⟩, hf⟩ := hf
    refine mm_ai (va_runV (C := "CoinKeeper") (As := [.int a1]) (rest := [.int (0 : Int32), .ref a2]) ⟨hx, hb, hml, hown, hts⟩ (cw_mK_hash l D cy ad mi fu mc1 ms2 a0 a1 M _ hf H.size) ⟨q_cB hts gw_1298 gw_1 gw_1295 hdt_107 ⟨Nat.le_of_ble_eq_true rfl, Nat.le_of_ble_eq_true rfl⟩, hts _ gw_1296, hts _ gw_1297⟩ (q_preVM (q_preM hP hD hK hSt hT hMi hS (m_free hD hS hA) _) (va_recv hK hP (ci := 0) (q0 := ix_) rfl hi_)) rfl rfl hl.1 rfl (lv_room (Nat.le_of_ble_eq_true rfl)) d_L_hash_4 ⟨hc_, hd_⟩) hD hS hA (fun v4 M3 H locs hf hP hD hS => ?_)
    have hkc : κ + mc1 ≤ MC := hc_
    have hks : σ + ms2 ≤ MS := hd_
    clear hc_ hd_
    refine lv_i2l hx hb d_L_hash_7 rfl ?_
    refine lv_topl (fun v5 ev => ?_)
    have hf := bnQ ev hf
    clear ev
    obtain ⟨n_, f_, hm_, hin_, hf⟩ := hf
    obtain ⟨ix_, hi_⟩ := m_ix hm_
    have hE_ := m_set (y := .inl (cy 2, n_, .inr (.inl (vp_updL f_ (0 : Int32).toNatClampNeg v5)))) hD hi_
    refine va_last hx hb hK hP hD hS ix_ 2 hi_ rfl (inb_in hin_) d_L_hash_8 (fun H locs hP hD hS => ?_)
    obtain ⟨M6, eM_⟩ : ∃ z, z = mu M3 a2 (.inl (cy 2, n_, .inr (.inl (vp_updL f_ (0 : Int32).toNatClampNeg v5)))) := ⟨_, rfl⟩
    rw [← eM_] at hf hE_
    rw [hE_] at hP hD
    clear hE_ eM_ hi_ hm_
    refine lv_goto (tgt := 15) hx hb d_L_hash_9 (by decide) ?_
    refine lv_iconst (v := 0) hx hb d_L_hash_15 (by decide) ?_
    refine W.widen (k := MC) (n := MS) hkc hks ?_
    exact m_ri hf hx hb hr hlocks hK hP hD hS d_L_hash_16
theorem cw_mL_hash (l : Launch) (hlt : ∀ e, l.admits e → e.platform.stackTraces = false) (D : va_G) (cy : Nat → ClassId) (ad : Nat → Nat) (mi fu MC MS : Nat) (a0 : Nat) (a1 : Int32) (a2 : Nat) (M : Mm) (Φ : Int32 → Mm → Prop) (hf : xw_mL_hash fu MC MS cy ad mi Φ 0 0 M a0 a1 a2) (sz : Nat) : Met l ({ cls := "CoinKeeperLaw", name := "hash", desc := "(LCoinKeeper;I[J)I" } : Jvm.MethodName) (.codeWith ({ cls := "CoinKeeperLaw", name := "hash", desc := "(LCoinKeeper;I[J)I" } : Jvm.MethodName) b_L_hash 4 (some .int) [(0, 9, 12, 19)] :: gw) (rmw_mL_hash MC MS) (va_Pc [.ref a0, .int a1, .ref a2] (PrM D cy ad mi (mw M) sz)) (va_Qi Φ (fun u t => Po D cy (va_A (mw M) sz) (mw u) t) (va_A (mw M) sz)) MC MS (va_A (mw M) sz) :=
  q_metMW (Qd := fun A => va_Qi Φ (fun u t => Po D cy A (mw u) t) A) (by decide) rfl rfl (Nat.le_of_ble_eq_true rfl) (fun p e s m below meth c ls F hP hD hS hl => wew_mL_hash (fu := fu) hlt F 0 0 M a0 a1 a2 hf (Nat.zero_le _) (Nat.zero_le _) _ _ _ hP hD hS hl) sz
abbrev b_L_tip : ByteArray := method_8_code
theorem d_L_tip_0 : decode b_L_tip 0 = .ok (.aload_n 2, 1) := by decide +kernel
theorem d_L_tip_1 : decode b_L_tip 1 = .ok (.iconst 0, 1) := by decide +kernel
theorem d_L_tip_2 : decode b_L_tip 2 = .ok (.aload_n 0, 1) := by decide +kernel
theorem d_L_tip_3 : decode b_L_tip 3 = .ok (.iload_n 1, 1) := by decide +kernel
theorem d_L_tip_4 : decode b_L_tip 4 = .ok (.invokevirtual 32, 3) := by decide +kernel
theorem d_L_tip_7 : decode b_L_tip 7 = .ok (.i2l, 1) := by decide +kernel
theorem d_L_tip_8 : decode b_L_tip 8 = .ok (.lastore, 1) := by decide +kernel
theorem d_L_tip_9 : decode b_L_tip 9 = .ok (.goto 6, 3) := by decide +kernel
theorem d_L_tip_12 : decode b_L_tip 12 = .ok (.astore_n 3, 1) := by decide +kernel
theorem d_L_tip_13 : decode b_L_tip 13 = .ok (.iconst 1, 1) := by decide +kernel
theorem d_L_tip_14 : decode b_L_tip 14 = .ok (.ireturn, 1) := by decide +kernel
theorem d_L_tip_15 : decode b_L_tip 15 = .ok (.iconst 0, 1) := by decide +kernel
theorem d_L_tip_16 : decode b_L_tip 16 = .ok (.ireturn, 1) := by decide +kernel
abbrev rmw_mL_tip (MC MS : Nat) : Room := { frames := 7, cells := MC, slots := MS, locals := 102 }
def Iw_mL_tip_e (p : Program) (l : Launch) (e : Env) (s : State) (m : MethodId) (args : Array Value) (below : List Frame) (meth : Method) (c : Code) (D : va_G) (cy : Nat → ClassId) (A : Nat → Prop) (ad : Nat → Nat) (mi MC MS : Nat) (Φ : Int32 → Mm → Prop) (k : Nat → Nat → Mm → Nat → Int32 → Nat → Prop) : Prop :=
  ∀ (κ σ : Nat) (M : Mm) (a0 : Nat) (a1 : Int32) (a2 : Nat), k κ σ M a0 a1 a2 → κ ≤ MC → σ ≤ MS → ∀ (H : Heap) (locs : List Loc) (ls : Array Slot), va_P D classes (mw M) H → va_D A (mw M) → va_S A s.heap H locs → lv_has ls 4 [(0, .ref a0), (1, .int a1), (2, .ref a2)] → W p l e (rmw_mL_tip MC MS) s m args below meth c H locs κ σ (MQ below (va_Qi Φ (fun u t => Po D cy A (mw u) t) A) args s MC MS A) (F0 m 0 ls [])
theorem hdt_108 : ({ cls := "CoinKeeper", name := "tip", desc := "(I)I" } : Jvm.MethodName).cls ≠ "java/lang/invoke/MethodHandle" ∧ ({ cls := "CoinKeeper", name := "tip", desc := "(I)I" } : Jvm.MethodName).cls ≠ "java/lang/invoke/VarHandle" ∧ (parseMethodDescriptor ({ cls := "CoinKeeper", name := "tip", desc := "(I)I" } : Jvm.MethodName).desc).map (fun d => d.parameters.length) = some 1 := by decide +kernel
set_option maxHeartbeats 8000000 in
set_option maxRecDepth 100000 in
theorem wew_mL_tip {p : Program} {l : Launch} {e : Env} {s : State} {m : MethodId} {args : Array Value} {below : List Frame} {meth : Method} {c : Code} {D : va_G} {cy : Nat → ClassId} {A : Nat → Prop} {ad : Nat → Nat} {mi MC MS : Nat} {Φ : Int32 → Mm → Prop} {fu : Nat} (hlt : ∀ e, l.admits e → e.platform.stackTraces = false) (F : FxMW p s m args meth c b_L_tip 4 "CoinKeeperLaw" "tip" (some .int) D cy ad mi A [(0, 9, 12, 19)]) : Iw_mL_tip_e p l e s m args below meth c D cy A ad mi MC MS Φ (xw_mL_tip fu MC MS cy ad mi Φ) := by
  obtain ⟨⟨hx, hb, hr, hml, hown, hts, hlocks, hK, hA, hSt, hnm, hxt, hT⟩, hMi⟩ := id F
  intro κ σ M a0 a1 a2 hf hkc hks H locs ls hP hD hS hl
  unfold xw_mL_tip at hf
  refine lv_aload_n hx hb d_L_tip_0 rfl (lv_at hl 2 rfl) ?_
  refine lv_iconst (v := 0) hx hb d_L_tip_1 (by decide) ?_
  refine lv_aload_n hx hb d_L_tip_2 rfl (lv_at hl 0 rfl) ?_
  refine lv_iload_n hx hb d_L_tip_3 rfl (lv_at hl 1 rfl) ?_
  rcases hf with hf | hf
  · obtain ⟨ht, ⟨hkc, hks⟩, fs_, hm_, hf⟩ := hf
    obtain ⟨ix_, hi_⟩ := m_ix hm_
    refine q_thr (C := "CoinKeeper") (As := [.int a1]) (rest := [.int (0 : Int32), .ref a2]) ⟨hx, hb, hml, hown, hts⟩ (tn_mK_tip_A l hlt D cy ad mi a0 a1 M ht H.size) ⟨q_cB hts gw_1305 gw_1 gw_1302 hdt_108 ⟨Nat.le_of_ble_eq_true rfl, Nat.le_of_ble_eq_true rfl⟩, hts _ gw_1303, hts _ gw_1304⟩ (q_preVM (q_preM hP hD hK hSt hT hMi hS (m_free hD hS hA) _) (va_recv hK hP (ci := 0) (q0 := ix_) rfl hi_)) rfl hl.1 (Nat.le_of_ble_eq_true rfl) d_L_tip_4 ⟨hkc, hks⟩ hxt rfl (by decide) (hts _ gw_646) (hSt.2.1 _ (List.mem_of_getElem? (i := 14) rfl)) hP hS (fun thx H hP hS => ?_)
    refine lv_astore_n (lv' := [(3, .ref thx), (0, .ref a0), (1, .int a1), (2, .ref a2)]) hx hb d_L_tip_12 rfl hl (by decide) rfl (fun ls hl => ?_)
    refine lv_iconst (v := 1) hx hb d_L_tip_13 (by decide) ?_
    refine W.widen (k := MC) (n := MS) hkc hks ?_
    exact m_ri hf hx hb hr hlocks hK hP hD hS d_L_tip_14
  · obtain ⟨fs_, hm_, hf⟩ := hf
    obtain ⟨ix_, hi_⟩ := m_ix hm_
    obtain ⟨mc1, ms2, ⟨hc_, hd_⟩, hf⟩ := hf
    refine mm_ai (va_runV (C := "CoinKeeper") (As := [.int a1]) (rest := [.int (0 : Int32), .ref a2]) ⟨hx, hb, hml, hown, hts⟩ (cw_mK_tip l D cy ad mi fu mc1 ms2 a0 a1 M _ hf H.size) ⟨q_cB hts gw_1305 gw_1 gw_1302 hdt_108 ⟨Nat.le_of_ble_eq_true rfl, Nat.le_of_ble_eq_true rfl⟩, hts _ gw_1303, hts _ gw_1304⟩ (q_preVM (q_preM hP hD hK hSt hT hMi hS (m_free hD hS hA) _) (va_recv hK hP (ci := 0) (q0 := ix_) rfl hi_)) rfl rfl hl.1 rfl (lv_room (Nat.le_of_ble_eq_true rfl)) d_L_tip_4 ⟨hc_, hd_⟩) hD hS hA (fun v4 M3 H locs hf hP hD hS => ?_)
    have hkc : κ + mc1 ≤ MC := hc_
    have hks : σ + ms2 ≤ MS := hd_
    clear hc_ hd_
    refine lv_i2l hx hb d_L_tip_7 rfl ?_
    refine lv_topl (fun v5 ev => ?_)
    have hf := bnQ ev hf
    clear ev
    obtain ⟨n_, f_, hm_, hin_, hf⟩ := hf
    obtain ⟨ix_, hi_⟩ := m_ix hm_
    have hE_ := m_set (y := .inl (cy 2, n_, .inr (.inl (vp_updL f_ (0 : Int32).toNatClampNeg v5)))) hD hi_
    refine va_last hx hb hK hP hD hS ix_ 2 hi_ rfl (inb_in hin_) d_L_tip_8 (fun H locs hP hD hS => ?_)
    obtain ⟨M6, eM_⟩ : ∃ z, z = mu M3 a2 (.inl (cy 2, n_, .inr (.inl (vp_updL f_ (0 : Int32).toNatClampNeg v5)))) := ⟨_, rfl⟩
    rw [← eM_] at hf hE_
    rw [hE_] at hP hD
    clear hE_ eM_ hi_ hm_
    refine lv_goto (tgt := 15) hx hb d_L_tip_9 (by decide) ?_
    refine lv_iconst (v := 0) hx hb d_L_tip_15 (by decide) ?_
    refine W.widen (k := MC) (n := MS) hkc hks ?_
    exact m_ri hf hx hb hr hlocks hK hP hD hS d_L_tip_16
theorem cw_mL_tip (l : Launch) (hlt : ∀ e, l.admits e → e.platform.stackTraces = false) (D : va_G) (cy : Nat → ClassId) (ad : Nat → Nat) (mi fu MC MS : Nat) (a0 : Nat) (a1 : Int32) (a2 : Nat) (M : Mm) (Φ : Int32 → Mm → Prop) (hf : xw_mL_tip fu MC MS cy ad mi Φ 0 0 M a0 a1 a2) (sz : Nat) : Met l ({ cls := "CoinKeeperLaw", name := "tip", desc := "(LCoinKeeper;I[J)I" } : Jvm.MethodName) (.codeWith ({ cls := "CoinKeeperLaw", name := "tip", desc := "(LCoinKeeper;I[J)I" } : Jvm.MethodName) b_L_tip 4 (some .int) [(0, 9, 12, 19)] :: gw) (rmw_mL_tip MC MS) (va_Pc [.ref a0, .int a1, .ref a2] (PrM D cy ad mi (mw M) sz)) (va_Qi Φ (fun u t => Po D cy (va_A (mw M) sz) (mw u) t) (va_A (mw M) sz)) MC MS (va_A (mw M) sz) :=
  q_metMW (Qd := fun A => va_Qi Φ (fun u t => Po D cy A (mw u) t) A) (by decide) rfl rfl (Nat.le_of_ble_eq_true rfl) (fun p e s m below meth c ls F hP hD hS hl => wew_mL_tip (fu := fu) hlt F 0 0 M a0 a1 a2 hf (Nat.zero_le _) (Nat.zero_le _) _ _ _ hP hD hS hl) sz
abbrev b_L_unspent : ByteArray := method_9_code
theorem d_L_unspent_0 : decode b_L_unspent 0 = .ok (.aload_n 2, 1) := by decide +kernel
theorem d_L_unspent_1 : decode b_L_unspent 1 = .ok (.iconst 0, 1) := by decide +kernel
theorem d_L_unspent_2 : decode b_L_unspent 2 = .ok (.aload_n 0, 1) := by decide +kernel
theorem d_L_unspent_3 : decode b_L_unspent 3 = .ok (.iload_n 1, 1) := by decide +kernel
theorem d_L_unspent_4 : decode b_L_unspent 4 = .ok (.invokevirtual 35, 3) := by decide +kernel
theorem d_L_unspent_7 : decode b_L_unspent 7 = .ok (.lastore, 1) := by decide +kernel
theorem d_L_unspent_8 : decode b_L_unspent 8 = .ok (.goto 9, 3) := by decide +kernel
theorem d_L_unspent_11 : decode b_L_unspent 11 = .ok (.astore_n 3, 1) := by decide +kernel
theorem d_L_unspent_12 : decode b_L_unspent 12 = .ok (.iconst 1, 1) := by decide +kernel
theorem d_L_unspent_13 : decode b_L_unspent 13 = .ok (.ireturn, 1) := by decide +kernel
theorem d_L_unspent_14 : decode b_L_unspent 14 = .ok (.astore_n 3, 1) := by decide +kernel
theorem d_L_unspent_15 : decode b_L_unspent 15 = .ok (.iconst 2, 1) := by decide +kernel
theorem d_L_unspent_16 : decode b_L_unspent 16 = .ok (.ireturn, 1) := by decide +kernel
theorem d_L_unspent_17 : decode b_L_unspent 17 = .ok (.iconst 0, 1) := by decide +kernel
theorem d_L_unspent_18 : decode b_L_unspent 18 = .ok (.ireturn, 1) := by decide +kernel
abbrev rmw_mL_unspent (MC MS : Nat) : Room := { frames := 7, cells := MC, slots := MS, locals := 112 }
def Iw_mL_unspent_e (p : Program) (l : Launch) (e : Env) (s : State) (m : MethodId) (args : Array Value) (below : List Frame) (meth : Method) (c : Code) (D : va_G) (cy : Nat → ClassId) (A : Nat → Prop) (ad : Nat → Nat) (mi MC MS : Nat) (Φ : Int32 → Mm → Prop) (k : Nat → Nat → Mm → Nat → Int32 → Nat → Prop) : Prop :=
  ∀ (κ σ : Nat) (M : Mm) (a0 : Nat) (a1 : Int32) (a2 : Nat), k κ σ M a0 a1 a2 → κ ≤ MC → σ ≤ MS → ∀ (H : Heap) (locs : List Loc) (ls : Array Slot), va_P D classes (mw M) H → va_D A (mw M) → va_S A s.heap H locs → lv_has ls 4 [(0, .ref a0), (1, .int a1), (2, .ref a2)] → W p l e (rmw_mL_unspent MC MS) s m args below meth c H locs κ σ (MQ below (va_Qi Φ (fun u t => Po D cy A (mw u) t) A) args s MC MS A) (F0 m 0 ls [])
theorem hdt_109 : ({ cls := "CoinKeeper", name := "unspent", desc := "(I)J" } : Jvm.MethodName).cls ≠ "java/lang/invoke/MethodHandle" ∧ ({ cls := "CoinKeeper", name := "unspent", desc := "(I)J" } : Jvm.MethodName).cls ≠ "java/lang/invoke/VarHandle" ∧ (parseMethodDescriptor ({ cls := "CoinKeeper", name := "unspent", desc := "(I)J" } : Jvm.MethodName).desc).map (fun d => d.parameters.length) = some 1 := by decide +kernel
set_option maxHeartbeats 8000000 in
set_option maxRecDepth 100000 in
theorem wew_mL_unspent {p : Program} {l : Launch} {e : Env} {s : State} {m : MethodId} {args : Array Value} {below : List Frame} {meth : Method} {c : Code} {D : va_G} {cy : Nat → ClassId} {A : Nat → Prop} {ad : Nat → Nat} {mi MC MS : Nat} {Φ : Int32 → Mm → Prop} {fu : Nat} (hlt : ∀ e, l.admits e → e.platform.stackTraces = false) (F : FxMW p s m args meth c b_L_unspent 4 "CoinKeeperLaw" "unspent" (some .int) D cy ad mi A [(0, 8, 11, 19), (0, 8, 14, 39)]) : Iw_mL_unspent_e p l e s m args below meth c D cy A ad mi MC MS Φ (xw_mL_unspent fu MC MS cy ad mi Φ) := by
  obtain ⟨⟨hx, hb, hr, hml, hown, hts, hlocks, hK, hA, hSt, hnm, hxt, hT⟩, hMi⟩ := id F
  intro κ σ M a0 a1 a2 hf hkc hks H locs ls hP hD hS hl
  unfold xw_mL_unspent at hf
  refine lv_aload_n hx hb d_L_unspent_0 rfl (lv_at hl 2 rfl) ?_
  refine lv_iconst (v := 0) hx hb d_L_unspent_1 (by decide) ?_
  refine lv_aload_n hx hb d_L_unspent_2 rfl (lv_at hl 0 rfl) ?_
  refine lv_iload_n hx hb d_L_unspent_3 rfl (lv_at hl 1 rfl) ?_
  rcases hf with hf | hf
  · obtain ⟨ht, ⟨hkc, hks⟩, fs_, hm_, hf⟩ := hf
    obtain ⟨ix_, hi_⟩ := m_ix hm_
    refine q_thr (C := "CoinKeeper") (As := [.int a1]) (rest := [.int (0 : Int32), .ref a2]) ⟨hx, hb, hml, hown, hts⟩ (tn_mK_unspent_A l hlt D cy ad mi a0 a1 M ht H.size) ⟨q_cB hts gw_1313 gw_1 gw_1310 hdt_109 ⟨Nat.le_of_ble_eq_true rfl, Nat.le_of_ble_eq_true rfl⟩, hts _ gw_1311, hts _ gw_1312⟩ (q_preVM (q_preM hP hD hK hSt hT hMi hS (m_free hD hS hA) _) (va_recv hK hP (ci := 0) (q0 := ix_) rfl hi_)) rfl hl.1 (Nat.le_of_ble_eq_true rfl) d_L_unspent_4 ⟨hkc, hks⟩ hxt rfl (by decide) (hts _ gw_646) (hSt.2.1 _ (List.mem_of_getElem? (i := 14) rfl)) hP hS (fun thx H hP hS => ?_)
    refine lv_astore_n (lv' := [(3, .ref thx), (0, .ref a0), (1, .int a1), (2, .ref a2)]) hx hb d_L_unspent_11 rfl hl (by decide) rfl (fun ls hl => ?_)
    refine lv_iconst (v := 1) hx hb d_L_unspent_12 (by decide) ?_
    refine W.widen (k := MC) (n := MS) hkc hks ?_
    exact m_ri hf hx hb hr hlocks hK hP hD hS d_L_unspent_13
  · obtain ⟨fs_, hm_, hf⟩ := hf
    obtain ⟨ix_, hi_⟩ := m_ix hm_
    obtain ⟨mc1, ms2, ⟨hc_, hd_⟩, hf⟩ := hf
    refine m_al (va_runV (C := "CoinKeeper") (As := [.int a1]) (rest := [.int (0 : Int32), .ref a2]) ⟨hx, hb, hml, hown, hts⟩ (cw_mK_unspent l D cy ad mi fu mc1 ms2 a0 a1 M _ hf H.size) ⟨q_cB hts gw_1313 gw_1 gw_1310 hdt_109 ⟨Nat.le_of_ble_eq_true rfl, Nat.le_of_ble_eq_true rfl⟩, hts _ gw_1311, hts _ gw_1312⟩ (q_preVM (q_preM hP hD hK hSt hT hMi hS (m_free hD hS hA) _) (va_recv hK hP (ci := 0) (q0 := ix_) rfl hi_)) rfl rfl hl.1 rfl (lv_room (Nat.le_of_ble_eq_true rfl)) d_L_unspent_4 ⟨hc_, hd_⟩) hD hS hA (fun v4 M3 H locs hf hP hD hS => ?_)
    have hkc : κ + mc1 ≤ MC := hc_
    have hks : σ + ms2 ≤ MS := hd_
    clear hc_ hd_
    obtain ⟨n_, f_, hm_, hin_, hf⟩ := hf
    obtain ⟨ix_, hi_⟩ := m_ix hm_
    have hE_ := m_set (y := .inl (cy 2, n_, .inr (.inl (vp_updL f_ (0 : Int32).toNatClampNeg v4)))) hD hi_
    refine va_last hx hb hK hP hD hS ix_ 2 hi_ rfl (inb_in hin_) d_L_unspent_7 (fun H locs hP hD hS => ?_)
    obtain ⟨M5, eM_⟩ : ∃ z, z = mu M3 a2 (.inl (cy 2, n_, .inr (.inl (vp_updL f_ (0 : Int32).toNatClampNeg v4)))) := ⟨_, rfl⟩
    rw [← eM_] at hf hE_
    rw [hE_] at hP hD
    clear hE_ eM_ hi_ hm_
    refine lv_goto (tgt := 17) hx hb d_L_unspent_8 (by decide) ?_
    refine lv_iconst (v := 0) hx hb d_L_unspent_17 (by decide) ?_
    refine W.widen (k := MC) (n := MS) hkc hks ?_
    exact m_ri hf hx hb hr hlocks hK hP hD hS d_L_unspent_18
theorem cw_mL_unspent (l : Launch) (hlt : ∀ e, l.admits e → e.platform.stackTraces = false) (D : va_G) (cy : Nat → ClassId) (ad : Nat → Nat) (mi fu MC MS : Nat) (a0 : Nat) (a1 : Int32) (a2 : Nat) (M : Mm) (Φ : Int32 → Mm → Prop) (hf : xw_mL_unspent fu MC MS cy ad mi Φ 0 0 M a0 a1 a2) (sz : Nat) : Met l ({ cls := "CoinKeeperLaw", name := "unspent", desc := "(LCoinKeeper;I[J)I" } : Jvm.MethodName) (.codeWith ({ cls := "CoinKeeperLaw", name := "unspent", desc := "(LCoinKeeper;I[J)I" } : Jvm.MethodName) b_L_unspent 4 (some .int) [(0, 8, 11, 19), (0, 8, 14, 39)] :: gw) (rmw_mL_unspent MC MS) (va_Pc [.ref a0, .int a1, .ref a2] (PrM D cy ad mi (mw M) sz)) (va_Qi Φ (fun u t => Po D cy (va_A (mw M) sz) (mw u) t) (va_A (mw M) sz)) MC MS (va_A (mw M) sz) :=
  q_metMW (Qd := fun A => va_Qi Φ (fun u t => Po D cy A (mw u) t) A) (by decide) rfl rfl (Nat.le_of_ble_eq_true rfl) (fun p e s m below meth c ls F hP hD hS hl => wew_mL_unspent (fu := fu) hlt F 0 0 M a0 a1 a2 hf (Nat.zero_le _) (Nat.zero_le _) _ _ _ hP hD hS hl) sz
abbrev b_L_count : ByteArray := method_10_code
theorem d_L_count_0 : decode b_L_count 0 = .ok (.aload_n 2, 1) := by decide +kernel
theorem d_L_count_1 : decode b_L_count 1 = .ok (.iconst 0, 1) := by decide +kernel
theorem d_L_count_2 : decode b_L_count 2 = .ok (.aload_n 0, 1) := by decide +kernel
theorem d_L_count_3 : decode b_L_count 3 = .ok (.iload_n 1, 1) := by decide +kernel
theorem d_L_count_4 : decode b_L_count 4 = .ok (.invokevirtual 41, 3) := by decide +kernel
theorem d_L_count_7 : decode b_L_count 7 = .ok (.lastore, 1) := by decide +kernel
theorem d_L_count_8 : decode b_L_count 8 = .ok (.goto 6, 3) := by decide +kernel
theorem d_L_count_11 : decode b_L_count 11 = .ok (.astore_n 3, 1) := by decide +kernel
theorem d_L_count_12 : decode b_L_count 12 = .ok (.iconst 1, 1) := by decide +kernel
theorem d_L_count_13 : decode b_L_count 13 = .ok (.ireturn, 1) := by decide +kernel
theorem d_L_count_14 : decode b_L_count 14 = .ok (.iconst 0, 1) := by decide +kernel
theorem d_L_count_15 : decode b_L_count 15 = .ok (.ireturn, 1) := by decide +kernel
abbrev rmw_mL_count (MC MS : Nat) : Room := { frames := 7, cells := MC, slots := MS, locals := 108 }
def Iw_mL_count_e (p : Program) (l : Launch) (e : Env) (s : State) (m : MethodId) (args : Array Value) (below : List Frame) (meth : Method) (c : Code) (D : va_G) (cy : Nat → ClassId) (A : Nat → Prop) (ad : Nat → Nat) (mi MC MS : Nat) (Φ : Int32 → Mm → Prop) (k : Nat → Nat → Mm → Nat → Int32 → Nat → Prop) : Prop :=
  ∀ (κ σ : Nat) (M : Mm) (a0 : Nat) (a1 : Int32) (a2 : Nat), k κ σ M a0 a1 a2 → κ ≤ MC → σ ≤ MS → ∀ (H : Heap) (locs : List Loc) (ls : Array Slot), va_P D classes (mw M) H → va_D A (mw M) → va_S A s.heap H locs → lv_has ls 4 [(0, .ref a0), (1, .int a1), (2, .ref a2)] → W p l e (rmw_mL_count MC MS) s m args below meth c H locs κ σ (MQ below (va_Qi Φ (fun u t => Po D cy A (mw u) t) A) args s MC MS A) (F0 m 0 ls [])
theorem hdt_110 : ({ cls := "CoinKeeper", name := "count", desc := "(I)J" } : Jvm.MethodName).cls ≠ "java/lang/invoke/MethodHandle" ∧ ({ cls := "CoinKeeper", name := "count", desc := "(I)J" } : Jvm.MethodName).cls ≠ "java/lang/invoke/VarHandle" ∧ (parseMethodDescriptor ({ cls := "CoinKeeper", name := "count", desc := "(I)J" } : Jvm.MethodName).desc).map (fun d => d.parameters.length) = some 1 := by decide +kernel
set_option maxHeartbeats 8000000 in
set_option maxRecDepth 100000 in
theorem wew_mL_count {p : Program} {l : Launch} {e : Env} {s : State} {m : MethodId} {args : Array Value} {below : List Frame} {meth : Method} {c : Code} {D : va_G} {cy : Nat → ClassId} {A : Nat → Prop} {ad : Nat → Nat} {mi MC MS : Nat} {Φ : Int32 → Mm → Prop} {fu : Nat} (hlt : ∀ e, l.admits e → e.platform.stackTraces = false) (F : FxMW p s m args meth c b_L_count 4 "CoinKeeperLaw" "count" (some .int) D cy ad mi A [(0, 8, 11, 19)]) : Iw_mL_count_e p l e s m args below meth c D cy A ad mi MC MS Φ (xw_mL_count fu MC MS cy ad mi Φ) := by
  obtain ⟨⟨hx, hb, hr, hml, hown, hts, hlocks, hK, hA, hSt, hnm, hxt, hT⟩, hMi⟩ := id F
  intro κ σ M a0 a1 a2 hf hkc hks H locs ls hP hD hS hl
  unfold xw_mL_count at hf
  refine lv_aload_n hx hb d_L_count_0 rfl (lv_at hl 2 rfl) ?_
  refine lv_iconst (v := 0) hx hb d_L_count_1 (by decide) ?_
  refine lv_aload_n hx hb d_L_count_2 rfl (lv_at hl 0 rfl) ?_
  refine lv_iload_n hx hb d_L_count_3 rfl (lv_at hl 1 rfl) ?_
  rcases hf with hf | hf
  · obtain ⟨ht, ⟨hkc, hks⟩, fs_, hm_, hf⟩ := hf
    obtain ⟨ix_, hi_⟩ := m_ix hm_
    refine q_thr (C := "CoinKeeper") (As := [.int a1]) (rest := [.int (0 : Int32), .ref a2]) ⟨hx, hb, hml, hown, hts⟩ (tn_mK_count_A l hlt D cy ad mi a0 a1 M ht H.size) ⟨q_cB hts gw_1335 gw_1 gw_1332 hdt_110 ⟨Nat.le_of_ble_eq_true rfl, Nat.le_of_ble_eq_true rfl⟩, hts _ gw_1333, hts _ gw_1334⟩ (q_preVM (q_preM hP hD hK hSt hT hMi hS (m_free hD hS hA) _) (va_recv hK hP (ci := 0) (q0 := ix_) rfl hi_)) rfl hl.1 (Nat.le_of_ble_eq_true rfl) d_L_count_4 ⟨hkc, hks⟩ hxt rfl (by decide) (hts _ gw_646) (hSt.2.1 _ (List.mem_of_getElem? (i := 14) rfl)) hP hS (fun thx H hP hS => ?_)
    refine lv_astore_n (lv' := [(3, .ref thx), (0, .ref a0), (1, .int a1), (2, .ref a2)]) hx hb d_L_count_11 rfl hl (by decide) rfl (fun ls hl => ?_)
    refine lv_iconst (v := 1) hx hb d_L_count_12 (by decide) ?_
    refine W.widen (k := MC) (n := MS) hkc hks ?_
    exact m_ri hf hx hb hr hlocks hK hP hD hS d_L_count_13
  · obtain ⟨fs_, hm_, hf⟩ := hf
    obtain ⟨ix_, hi_⟩ := m_ix hm_
    obtain ⟨mc1, ms2, ⟨hc_, hd_⟩, hf⟩ := hf
    refine m_al (va_runV (C := "CoinKeeper") (As := [.int a1]) (rest := [.int (0 : Int32), .ref a2]) ⟨hx, hb, hml, hown, hts⟩ (cw_mK_count l D cy ad mi fu mc1 ms2 a0 a1 M _ hf H.size) ⟨q_cB hts gw_1335 gw_1 gw_1332 hdt_110 ⟨Nat.le_of_ble_eq_true rfl, Nat.le_of_ble_eq_true rfl⟩, hts _ gw_1333, hts _ gw_1334⟩ (q_preVM (q_preM hP hD hK hSt hT hMi hS (m_free hD hS hA) _) (va_recv hK hP (ci := 0) (q0 := ix_) rfl hi_)) rfl rfl hl.1 rfl (lv_room (Nat.le_of_ble_eq_true rfl)) d_L_count_4 ⟨hc_, hd_⟩) hD hS hA (fun v4 M3 H locs hf hP hD hS => ?_)
    have hkc : κ + mc1 ≤ MC := hc_
    have hks : σ + ms2 ≤ MS := hd_
    clear hc_ hd_
    obtain ⟨n_, f_, hm_, hin_, hf⟩ := hf
    obtain ⟨ix_, hi_⟩ := m_ix hm_
    have hE_ := m_set (y := .inl (cy 2, n_, .inr (.inl (vp_updL f_ (0 : Int32).toNatClampNeg v4)))) hD hi_
    refine va_last hx hb hK hP hD hS ix_ 2 hi_ rfl (inb_in hin_) d_L_count_7 (fun H locs hP hD hS => ?_)
    obtain ⟨M5, eM_⟩ : ∃ z, z = mu M3 a2 (.inl (cy 2, n_, .inr (.inl (vp_updL f_ (0 : Int32).toNatClampNeg v4)))) := ⟨_, rfl⟩
    rw [← eM_] at hf hE_
    rw [hE_] at hP hD
    clear hE_ eM_ hi_ hm_
    refine lv_goto (tgt := 14) hx hb d_L_count_8 (by decide) ?_
    refine lv_iconst (v := 0) hx hb d_L_count_14 (by decide) ?_
    refine W.widen (k := MC) (n := MS) hkc hks ?_
    exact m_ri hf hx hb hr hlocks hK hP hD hS d_L_count_15
theorem cw_mL_count (l : Launch) (hlt : ∀ e, l.admits e → e.platform.stackTraces = false) (D : va_G) (cy : Nat → ClassId) (ad : Nat → Nat) (mi fu MC MS : Nat) (a0 : Nat) (a1 : Int32) (a2 : Nat) (M : Mm) (Φ : Int32 → Mm → Prop) (hf : xw_mL_count fu MC MS cy ad mi Φ 0 0 M a0 a1 a2) (sz : Nat) : Met l ({ cls := "CoinKeeperLaw", name := "count", desc := "(LCoinKeeper;I[J)I" } : Jvm.MethodName) (.codeWith ({ cls := "CoinKeeperLaw", name := "count", desc := "(LCoinKeeper;I[J)I" } : Jvm.MethodName) b_L_count 4 (some .int) [(0, 8, 11, 19)] :: gw) (rmw_mL_count MC MS) (va_Pc [.ref a0, .int a1, .ref a2] (PrM D cy ad mi (mw M) sz)) (va_Qi Φ (fun u t => Po D cy (va_A (mw M) sz) (mw u) t) (va_A (mw M) sz)) MC MS (va_A (mw M) sz) :=
  q_metMW (Qd := fun A => va_Qi Φ (fun u t => Po D cy A (mw u) t) A) (by decide) rfl rfl (Nat.le_of_ble_eq_true rfl) (fun p e s m below meth c ls F hP hD hS hl => wew_mL_count (fu := fu) hlt F 0 0 M a0 a1 a2 hf (Nat.zero_le _) (Nat.zero_le _) _ _ _ hP hD hS hl) sz
abbrev b_L_signed : ByteArray := method_11_code
theorem d_L_signed_0 : decode b_L_signed 0 = .ok (.aload_n 2, 1) := by decide +kernel
theorem d_L_signed_1 : decode b_L_signed 1 = .ok (.iconst 0, 1) := by decide +kernel
theorem d_L_signed_2 : decode b_L_signed 2 = .ok (.aload_n 0, 1) := by decide +kernel
theorem d_L_signed_3 : decode b_L_signed 3 = .ok (.iload_n 1, 1) := by decide +kernel
theorem d_L_signed_4 : decode b_L_signed 4 = .ok (.invokevirtual 44, 3) := by decide +kernel
theorem d_L_signed_7 : decode b_L_signed 7 = .ok (.ifCond .eq 7, 3) := by decide +kernel
theorem d_L_signed_10 : decode b_L_signed 10 = .ok (.lconst 1, 1) := by decide +kernel
theorem d_L_signed_11 : decode b_L_signed 11 = .ok (.goto 4, 3) := by decide +kernel
theorem d_L_signed_14 : decode b_L_signed 14 = .ok (.lconst 0, 1) := by decide +kernel
theorem d_L_signed_15 : decode b_L_signed 15 = .ok (.lastore, 1) := by decide +kernel
theorem d_L_signed_16 : decode b_L_signed 16 = .ok (.goto 6, 3) := by decide +kernel
theorem d_L_signed_19 : decode b_L_signed 19 = .ok (.astore_n 3, 1) := by decide +kernel
theorem d_L_signed_20 : decode b_L_signed 20 = .ok (.iconst 1, 1) := by decide +kernel
theorem d_L_signed_21 : decode b_L_signed 21 = .ok (.ireturn, 1) := by decide +kernel
theorem d_L_signed_22 : decode b_L_signed 22 = .ok (.iconst 0, 1) := by decide +kernel
theorem d_L_signed_23 : decode b_L_signed 23 = .ok (.ireturn, 1) := by decide +kernel
abbrev rmw_mL_signed (MC MS : Nat) : Room := { frames := 7, cells := MC, slots := MS, locals := 184 }
def Iw_mL_signed_e (p : Program) (l : Launch) (e : Env) (s : State) (m : MethodId) (args : Array Value) (below : List Frame) (meth : Method) (c : Code) (D : va_G) (cy : Nat → ClassId) (A : Nat → Prop) (ad : Nat → Nat) (mi MC MS : Nat) (Φ : Int32 → Mm → Prop) (k : Nat → Nat → Mm → Nat → Int32 → Nat → Prop) : Prop :=
  ∀ (κ σ : Nat) (M : Mm) (a0 : Nat) (a1 : Int32) (a2 : Nat), k κ σ M a0 a1 a2 → κ ≤ MC → σ ≤ MS → ∀ (H : Heap) (locs : List Loc) (ls : Array Slot), va_P D classes (mw M) H → va_D A (mw M) → va_S A s.heap H locs → lv_has ls 4 [(0, .ref a0), (1, .int a1), (2, .ref a2)] → W p l e (rmw_mL_signed MC MS) s m args below meth c H locs κ σ (MQ below (va_Qi Φ (fun u t => Po D cy A (mw u) t) A) args s MC MS A) (F0 m 0 ls [])
theorem hdt_111 : ({ cls := "CoinKeeper", name := "signed", desc := "(I)Z" } : Jvm.MethodName).cls ≠ "java/lang/invoke/MethodHandle" ∧ ({ cls := "CoinKeeper", name := "signed", desc := "(I)Z" } : Jvm.MethodName).cls ≠ "java/lang/invoke/VarHandle" ∧ (parseMethodDescriptor ({ cls := "CoinKeeper", name := "signed", desc := "(I)Z" } : Jvm.MethodName).desc).map (fun d => d.parameters.length) = some 1 := by decide +kernel
set_option maxHeartbeats 8000000 in
set_option maxRecDepth 100000 in
theorem wew_mL_signed {p : Program} {l : Launch} {e : Env} {s : State} {m : MethodId} {args : Array Value} {below : List Frame} {meth : Method} {c : Code} {D : va_G} {cy : Nat → ClassId} {A : Nat → Prop} {ad : Nat → Nat} {mi MC MS : Nat} {Φ : Int32 → Mm → Prop} {fu : Nat} (hlt : ∀ e, l.admits e → e.platform.stackTraces = false) (F : FxMW p s m args meth c b_L_signed 4 "CoinKeeperLaw" "signed" (some .int) D cy ad mi A [(0, 16, 19, 19)]) : Iw_mL_signed_e p l e s m args below meth c D cy A ad mi MC MS Φ (xw_mL_signed fu MC MS cy ad mi Φ) := by
  obtain ⟨⟨hx, hb, hr, hml, hown, hts, hlocks, hK, hA, hSt, hnm, hxt, hT⟩, hMi⟩ := id F
  intro κ σ M a0 a1 a2 hf hkc hks H locs ls hP hD hS hl
  unfold xw_mL_signed at hf
  refine lv_aload_n hx hb d_L_signed_0 rfl (lv_at hl 2 rfl) ?_
  refine lv_iconst (v := 0) hx hb d_L_signed_1 (by decide) ?_
  refine lv_aload_n hx hb d_L_signed_2 rfl (lv_at hl 0 rfl) ?_
  refine lv_iload_n hx hb d_L_signed_3 rfl (lv_at hl 1 rfl) ?_
  rcases hf with hf | hf
  · obtain ⟨ht, ⟨hkc, hks⟩, fs_, hm_, hf⟩ := hf
    obtain ⟨ix_, hi_⟩ := m_ix hm_
    refine q_thr (C := "CoinKeeper") (As := [.int a1]) (rest := [.int (0 : Int32), .ref a2]) ⟨hx, hb, hml, hown, hts⟩ (tn_mK_signed_A l hlt D cy ad mi a0 a1 M ht H.size) ⟨q_cB hts gw_1354 gw_1 gw_1351 hdt_111 ⟨Nat.le_of_ble_eq_true rfl, Nat.le_of_ble_eq_true rfl⟩, hts _ gw_1352, hts _ gw_1353⟩ (q_preVM (q_preM hP hD hK hSt hT hMi hS (m_free hD hS hA) _) (va_recv hK hP (ci := 0) (q0 := ix_) rfl hi_)) rfl hl.1 (Nat.le_of_ble_eq_true rfl) d_L_signed_4 ⟨hkc, hks⟩ hxt rfl (by decide) (hts _ gw_646) (hSt.2.1 _ (List.mem_of_getElem? (i := 14) rfl)) hP hS (fun thx H hP hS => ?_)
    refine lv_astore_n (lv' := [(3, .ref thx), (0, .ref a0), (1, .int a1), (2, .ref a2)]) hx hb d_L_signed_19 rfl hl (by decide) rfl (fun ls hl => ?_)
    refine lv_iconst (v := 1) hx hb d_L_signed_20 (by decide) ?_
    refine W.widen (k := MC) (n := MS) hkc hks ?_
    exact m_ri hf hx hb hr hlocks hK hP hD hS d_L_signed_21
  · obtain ⟨fs_, hm_, hf⟩ := hf
    obtain ⟨ix_, hi_⟩ := m_ix hm_
    obtain ⟨mc1, ms2, ⟨hc_, hd_⟩, hf⟩ := hf
    refine mm_ai (va_runV (C := "CoinKeeper") (As := [.int a1]) (rest := [.int (0 : Int32), .ref a2]) ⟨hx, hb, hml, hown, hts⟩ (cw_mK_signed l D cy ad mi fu mc1 ms2 a0 a1 M _ hf H.size) ⟨q_cB hts gw_1354 gw_1 gw_1351 hdt_111 ⟨Nat.le_of_ble_eq_true rfl, Nat.le_of_ble_eq_true rfl⟩, hts _ gw_1352, hts _ gw_1353⟩ (q_preVM (q_preM hP hD hK hSt hT hMi hS (m_free hD hS hA) _) (va_recv hK hP (ci := 0) (q0 := ix_) rfl hi_)) rfl rfl hl.1 rfl (lv_room (Nat.le_of_ble_eq_true rfl)) d_L_signed_4 ⟨hc_, hd_⟩) hD hS hA (fun v4 M3 H locs hf hP hD hS => ?_)
    have hkc : κ + mc1 ≤ MC := hc_
    have hks : σ + ms2 ≤ MS := hd_
    clear hc_ hd_
    refine lv_if_eq (tgt := 14) hx hb d_L_signed_7 (by decide) (fun cx => ?_) (fun cx => ?_)
    · have hf := ifpP cx hf
      refine lv_lconst (v := 0) hx hb d_L_signed_14 (by decide) ?_
      obtain ⟨n_, f_, hm_, hin_, hf⟩ := hf
      obtain ⟨ix_, hi_⟩ := m_ix hm_
      have hE_ := m_set (y := .inl (cy 2, n_, .inr (.inl (vp_updL f_ (0 : Int32).toNatClampNeg (0 : Int64))))) hD hi_
      refine va_last hx hb hK hP hD hS ix_ 2 hi_ rfl (inb_in hin_) d_L_signed_15 (fun H locs hP hD hS => ?_)
      obtain ⟨M5, eM_⟩ : ∃ z, z = mu M3 a2 (.inl (cy 2, n_, .inr (.inl (vp_updL f_ (0 : Int32).toNatClampNeg (0 : Int64))))) := ⟨_, rfl⟩
      rw [← eM_] at hf hE_
      rw [hE_] at hP hD
      clear hE_ eM_ hi_ hm_
      refine lv_goto (tgt := 22) hx hb d_L_signed_16 (by decide) ?_
      refine lv_iconst (v := 0) hx hb d_L_signed_22 (by decide) ?_
      refine W.widen (k := MC) (n := MS) hkc hks ?_
      exact m_ri hf hx hb hr hlocks hK hP hD hS d_L_signed_23
    · have hf := ifnP cx hf
      refine lv_lconst (v := 1) hx hb d_L_signed_10 (by decide) ?_
      refine lv_goto (tgt := 15) hx hb d_L_signed_11 (by decide) ?_
      obtain ⟨n_, f_, hm_, hin_, hf⟩ := hf
      obtain ⟨ix_, hi_⟩ := m_ix hm_
      have hE_ := m_set (y := .inl (cy 2, n_, .inr (.inl (vp_updL f_ (0 : Int32).toNatClampNeg (1 : Int64))))) hD hi_
      refine va_last hx hb hK hP hD hS ix_ 2 hi_ rfl (inb_in hin_) d_L_signed_15 (fun H locs hP hD hS => ?_)
      obtain ⟨M6, eM_⟩ : ∃ z, z = mu M3 a2 (.inl (cy 2, n_, .inr (.inl (vp_updL f_ (0 : Int32).toNatClampNeg (1 : Int64))))) := ⟨_, rfl⟩
      rw [← eM_] at hf hE_
      rw [hE_] at hP hD
      clear hE_ eM_ hi_ hm_
      refine lv_goto (tgt := 22) hx hb d_L_signed_16 (by decide) ?_
      refine lv_iconst (v := 0) hx hb d_L_signed_22 (by decide) ?_
      refine W.widen (k := MC) (n := MS) hkc hks ?_
      exact m_ri hf hx hb hr hlocks hK hP hD hS d_L_signed_23
theorem cw_mL_signed (l : Launch) (hlt : ∀ e, l.admits e → e.platform.stackTraces = false) (D : va_G) (cy : Nat → ClassId) (ad : Nat → Nat) (mi fu MC MS : Nat) (a0 : Nat) (a1 : Int32) (a2 : Nat) (M : Mm) (Φ : Int32 → Mm → Prop) (hf : xw_mL_signed fu MC MS cy ad mi Φ 0 0 M a0 a1 a2) (sz : Nat) : Met l ({ cls := "CoinKeeperLaw", name := "signed", desc := "(LCoinKeeper;I[J)I" } : Jvm.MethodName) (.codeWith ({ cls := "CoinKeeperLaw", name := "signed", desc := "(LCoinKeeper;I[J)I" } : Jvm.MethodName) b_L_signed 4 (some .int) [(0, 16, 19, 19)] :: gw) (rmw_mL_signed MC MS) (va_Pc [.ref a0, .int a1, .ref a2] (PrM D cy ad mi (mw M) sz)) (va_Qi Φ (fun u t => Po D cy (va_A (mw M) sz) (mw u) t) (va_A (mw M) sz)) MC MS (va_A (mw M) sz) :=
  q_metMW (Qd := fun A => va_Qi Φ (fun u t => Po D cy A (mw u) t) A) (by decide) rfl rfl (Nat.le_of_ble_eq_true rfl) (fun p e s m below meth c ls F hP hD hS hl => wew_mL_signed (fu := fu) hlt F 0 0 M a0 a1 a2 hf (Nat.zero_le _) (Nat.zero_le _) _ _ _ hP hD hS hl) sz
