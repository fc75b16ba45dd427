abbrev b_Bl_ancestor : ByteArray := prog_2_method_2_code
theorem d_Bl_ancestor_0 : decode b_Bl_ancestor 0 = .ok (.aload_n 0, 1) := by decide +kernel
theorem d_Bl_ancestor_1 : decode b_Bl_ancestor 1 = .ok (.astore_n 2, 1) := by decide +kernel
theorem d_Bl_ancestor_2 : decode b_Bl_ancestor 2 = .ok (.aload_n 2, 1) := by decide +kernel
theorem d_Bl_ancestor_3 : decode b_Bl_ancestor 3 = .ok (.getfield 23, 3) := by decide +kernel
theorem d_Bl_ancestor_6 : decode b_Bl_ancestor 6 = .ok (.iload_n 1, 1) := by decide +kernel
theorem d_Bl_ancestor_7 : decode b_Bl_ancestor 7 = .ok (.if_icmp .le 18, 3) := by decide +kernel
theorem d_Bl_ancestor_10 : decode b_Bl_ancestor 10 = .ok (.aload_n 2, 1) := by decide +kernel
theorem d_Bl_ancestor_11 : decode b_Bl_ancestor 11 = .ok (.getfield 7, 3) := by decide +kernel
theorem d_Bl_ancestor_14 : decode b_Bl_ancestor 14 = .ok (.ifnull 11, 3) := by decide +kernel
theorem d_Bl_ancestor_17 : decode b_Bl_ancestor 17 = .ok (.aload_n 2, 1) := by decide +kernel
theorem d_Bl_ancestor_18 : decode b_Bl_ancestor 18 = .ok (.getfield 7, 3) := by decide +kernel
theorem d_Bl_ancestor_21 : decode b_Bl_ancestor 21 = .ok (.astore_n 2, 1) := by decide +kernel
theorem d_Bl_ancestor_22 : decode b_Bl_ancestor 22 = .ok (.goto (-20), 3) := by decide +kernel
theorem d_Bl_ancestor_25 : decode b_Bl_ancestor 25 = .ok (.aload_n 2, 1) := by decide +kernel
theorem d_Bl_ancestor_26 : decode b_Bl_ancestor 26 = .ok (.areturn, 1) := by decide +kernel
abbrev rmw_mBl_ancestor (MC MS : Nat) : Room := { frames := 0, cells := MC, slots := MS, locals := 0 }
def Iw_mBl_ancestor_2 (p : Program) (l : Launch) (e : Env) (s : State) (m : MethodId) (args : Array Value) (below : List Frame) (meth : Method) (c : Code) (D : va_G) (cy : Nat → ClassId) (A : Nat → Prop) (ad : Nat → Nat) (MC MS : Nat) (Φ : Option Nat → Mm → Prop) (k : Nat → Nat → Mm → Int32 → Option Nat → Prop) : Prop :=
  ∀ (κ σ : Nat) (M : Mm) (x1 : Int32) (x2 : Option Nat), k κ σ M x1 x2 → κ ≤ MC → σ ≤ MS → ∀ (H : Heap) (locs : List Loc) (ls : Array Slot), va_P D classes (mw M) H → va_D A (mw M) → va_S A s.heap H locs → lv_has ls 3 [(1, .int x1), (2, va_rf x2)] → W p l e (rmw_mBl_ancestor MC MS) s m args below meth c H locs κ σ (MQ below (va_Qq Φ (fun u t => Po D cy A (mw u) t) A) args s MC MS A) (F0 m 2 ls [])
def Iw_mBl_ancestor_e (p : Program) (l : Launch) (e : Env) (s : State) (m : MethodId) (args : Array Value) (below : List Frame) (meth : Method) (c : Code) (D : va_G) (cy : Nat → ClassId) (A : Nat → Prop) (ad : Nat → Nat) (MC MS : Nat) (Φ : Option Nat → Mm → Prop) (k : Nat → Nat → Mm → Nat → Int32 → Prop) : Prop :=
  ∀ (κ σ : Nat) (M : Mm) (a0 : Nat) (a1 : Int32), k κ σ M a0 a1 → κ ≤ MC → σ ≤ MS → ∀ (H : Heap) (locs : List Loc) (ls : Array Slot), va_P D classes (mw M) H → va_D A (mw M) → va_S A s.heap H locs → lv_has ls 3 [(0, .ref a0), (1, .int a1)] → W p l e (rmw_mBl_ancestor MC MS) s m args below meth c H locs κ σ (MQ below (va_Qq Φ (fun u t => Po D cy A (mw u) t) A) args s MC MS A) (F0 m 0 ls [])
def xv_mBl_ancestor_2 (fu MC MS : Nat) (cy : Nat → ClassId) (ad : Nat → Nat) (Φ : Option Nat → Mm → Prop) (k_2 : Nat → Nat → Mm → Int32 → Option Nat → Prop) (κ σ : Nat) (M : Mm) (x1 : Int32) (x2 : Option Nat) : Prop :=
  osp x2 (False) fun x2a => mgi M x2a 1 4 fun v1 => if v1 ≤ x1 then (Φ (some x2a) M) else (mgr M x2a 1 0 fun r2 => osp r2 (Φ (some x2a) M) fun q3 => mgr M x2a 1 0 fun r4 => osp r4 (k_2 κ σ M x1 Option.none) fun q5 => k_2 κ σ M x1 (some q5))
set_option maxHeartbeats 8000000 in
set_option maxRecDepth 100000 in
theorem wv_mBl_ancestor_2 {p : Program} {l : Launch} {e : Env} {s : State} {m : MethodId} {args : Array Value} {below : List Frame} {meth : Method} {c : Code} {D : va_G} {cy : Nat → ClassId} {A : Nat → Prop} {ad : Nat → Nat} {MC MS : Nat} {Φ : Option Nat → Mm → Prop} {fu : Nat} {k_2 : Nat → Nat → Mm → Int32 → Option Nat → Prop} (F : Fx p s m args meth c b_Bl_ancestor 3 "CoinKeeper$Block" "ancestor" (Option.some (Jvm.ClassFile.FieldType.object "CoinKeeper$Block")) D cy ad A) (hk_2 : Iw_mBl_ancestor_2 p l e s m args below meth c D cy A ad MC MS Φ k_2) : Iw_mBl_ancestor_2 p l e s m args below meth c D cy A ad MC MS Φ (xv_mBl_ancestor_2 fu MC MS cy ad Φ k_2) := by
  obtain ⟨hx, hb, hr, hml, hown, hts, hlocks, hK, hA, hSt, hnm, hex⟩ := id F
  intro κ σ M x1 x2 hf hkc hks H locs ls hP hD hS hl
  unfold xv_mBl_ancestor_2 at hf
  have hq_ := ospp hf
  clear hf
  rcases hq_ with ⟨rfl, hf⟩ | ⟨x2a, rfl, hf⟩
  · have hl : lv_has ls 3 [(1, .int x1), (2, .null)] := hl
    refine lv_aload_nN hx hb d_Bl_ancestor_2 rfl (lv_at hl 1 rfl) ?_
    exact hf.elim
  · have hl : lv_has ls 3 [(1, .int x1), (2, .ref x2a)] := hl
    refine lv_aload_n hx hb d_Bl_ancestor_2 rfl (lv_at hl 1 rfl) ?_
    obtain ⟨fs_, hm_, v1, hv_, hf⟩ := hf
    obtain ⟨ix_, hi_⟩ := m_ix hm_
    refine va_get (D := D) (ci := 1) (v := .int v1) (C := "CoinKeeper$Block") (T := F_1) (N := 12) hx hb hts i_1 hown hK hP ix_ hi_ rfl 4 (by decide) (hts _ gw_400) (fun _ h9 => h9) hv_ d_Bl_ancestor_3 ?_
    clear hv_ hi_ hm_
    refine lv_iload_n hx hb d_Bl_ancestor_6 rfl (lv_at hl 0 rfl) ?_
    refine lv_icmp_le (tgt := 25) hx hb d_Bl_ancestor_7 (by decide) (fun cx => ?_) (fun cx => ?_)
    · have hf := ifpP cx hf
      refine lv_aload_n hx hb d_Bl_ancestor_25 rfl (lv_at hl 1 rfl) ?_
      refine W.widen (k := MC) (n := MS) hkc hks ?_
      exact m_ra hf rfl hx hb hr (Or.inl ⟨_, rfl⟩) hlocks hK hP hD hS d_Bl_ancestor_26
    · have hf := ifnP cx hf
      refine lv_aload_n hx hb d_Bl_ancestor_10 rfl (lv_at hl 1 rfl) ?_
      obtain ⟨fs_, hm_, r2, hv_, hf⟩ := hf
      obtain ⟨ix_, hi_⟩ := m_ix hm_
      refine va_get (D := D) (ci := 1) (v := va_rf r2) (C := "CoinKeeper$Block") (T := F_1) (N := 12) hx hb hts i_1 hown hK hP ix_ hi_ rfl 0 (by decide) (hts _ gw_390) (fun _ h9 => h9) hv_ d_Bl_ancestor_11 ?_
      clear hv_ hi_ hm_
      have hq_ := ospp hf
      clear hf
      rcases hq_ with ⟨rfl, hf⟩ | ⟨q3, rfl, hf⟩
      · refine W.eq (g2 := F0 m 14 ls [.null]) rfl ?_
        refine lv_ifnullN (tgt := 25) hx hb d_Bl_ancestor_14 (by decide) ?_
        refine lv_aload_n hx hb d_Bl_ancestor_25 rfl (lv_at hl 1 rfl) ?_
        refine W.widen (k := MC) (n := MS) hkc hks ?_
        exact m_ra hf rfl hx hb hr (Or.inl ⟨_, rfl⟩) hlocks hK hP hD hS d_Bl_ancestor_26
      · refine W.eq (g2 := F0 m 14 ls [.ref q3]) rfl ?_
        refine lv_ifnull hx hb d_Bl_ancestor_14 ?_
        refine lv_aload_n hx hb d_Bl_ancestor_17 rfl (lv_at hl 1 rfl) ?_
        obtain ⟨fs_, hm_, r4, hv_, hf⟩ := hf
        obtain ⟨ix_, hi_⟩ := m_ix hm_
        refine va_get (D := D) (ci := 1) (v := va_rf r4) (C := "CoinKeeper$Block") (T := F_1) (N := 12) hx hb hts i_1 hown hK hP ix_ hi_ rfl 0 (by decide) (hts _ gw_390) (fun _ h9 => h9) hv_ d_Bl_ancestor_18 ?_
        clear hv_ hi_ hm_
        have hq_ := ospp hf
        clear hf
        rcases hq_ with ⟨rfl, hf⟩ | ⟨q5, rfl, hf⟩
        · refine W.eq (g2 := F0 m 21 ls [.null]) rfl ?_
          refine lv_astore_nN (lv' := [(2, .null), (1, .int x1)]) hx hb d_Bl_ancestor_21 rfl hl (by decide) rfl (fun ls hl => ?_)
          refine lv_goto (tgt := 2) hx hb d_Bl_ancestor_22 (by decide) ?_
          have hl : lv_has ls 3 [(1, .int x1), (2, va_rf Option.none)] := lv_sub hl [1, 0] rfl
          exact hk_2 _ _ _ _ _ hf hkc hks _ _ _ hP hD hS hl
        · refine W.eq (g2 := F0 m 21 ls [.ref q5]) rfl ?_
          refine lv_astore_n (lv' := [(2, .ref q5), (1, .int x1)]) hx hb d_Bl_ancestor_21 rfl hl (by decide) rfl (fun ls hl => ?_)
          refine lv_goto (tgt := 2) hx hb d_Bl_ancestor_22 (by decide) ?_
          have hl : lv_has ls 3 [(1, .int x1), (2, va_rf (some q5))] := lv_sub hl [1, 0] rfl
          exact hk_2 _ _ _ _ _ hf hkc hks _ _ _ hP hD hS hl
def xw_mBl_ancestor_2 (fu MC MS : Nat) (cy : Nat → ClassId) (ad : Nat → Nat) (Φ : Option Nat → Mm → Prop) : Nat → Nat → Nat → Mm → Int32 → Option Nat → Prop
  | 0 => fun _ _ _ _ _ => False
  | n + 1 => xv_mBl_ancestor_2 fu MC MS cy ad Φ (xw_mBl_ancestor_2 fu MC MS cy ad Φ n)
theorem ww_mBl_ancestor_2 {p : Program} {l : Launch} {e : Env} {s : State} {m : MethodId} {args : Array Value} {below : List Frame} {meth : Method} {c : Code} {D : va_G} {cy : Nat → ClassId} {A : Nat → Prop} {ad : Nat → Nat} {MC MS : Nat} {Φ : Option Nat → Mm → Prop} {fu : Nat} (F : Fx p s m args meth c b_Bl_ancestor 3 "CoinKeeper$Block" "ancestor" (Option.some (Jvm.ClassFile.FieldType.object "CoinKeeper$Block")) D cy ad A) : ∀ n : Nat, Iw_mBl_ancestor_2 p l e s m args below meth c D cy A ad MC MS Φ (xw_mBl_ancestor_2 fu MC MS cy ad Φ n)
  | 0 => fun _ _ _ _ _ hf => False.elim hf
  | n + 1 => wv_mBl_ancestor_2 F (ww_mBl_ancestor_2 F n)
def xw_mBl_ancestor (fu MC MS : Nat) (cy : Nat → ClassId) (ad : Nat → Nat) (Φ : Option Nat → Mm → Prop) (κ σ : Nat) (M : Mm) (a0 : Nat) (a1 : Int32) : Prop :=
  xw_mBl_ancestor_2 fu MC MS cy ad Φ fu κ σ M a1 (some a0)
set_option maxHeartbeats 8000000 in
set_option maxRecDepth 100000 in
theorem wew_mBl_ancestor {p : Program} {l : Launch} {e : Env} {s : State} {m : MethodId} {args : Array Value} {below : List Frame} {meth : Method} {c : Code} {D : va_G} {cy : Nat → ClassId} {A : Nat → Prop} {ad : Nat → Nat} {MC MS : Nat} {Φ : Option Nat → Mm → Prop} {fu : Nat} (F : Fx p s m args meth c b_Bl_ancestor 3 "CoinKeeper$Block" "ancestor" (Option.some (Jvm.ClassFile.FieldType.object "CoinKeeper$Block")) D cy ad A) : Iw_mBl_ancestor_e p l e s m args below meth c D cy A ad MC MS Φ (xw_mBl_ancestor fu MC MS cy ad Φ) := by
  obtain ⟨hx, hb, hr, hml, hown, hts, hlocks, hK, hA, hSt, hnm, hex⟩ := id F
  intro κ σ M a0 a1 hf hkc hks H locs ls hP hD hS hl
  unfold xw_mBl_ancestor at hf
  refine lv_aload_n hx hb d_Bl_ancestor_0 rfl (lv_at hl 0 rfl) ?_
  refine lv_astore_n (lv' := [(2, .ref a0), (0, .ref a0), (1, .int a1)]) hx hb d_Bl_ancestor_1 rfl hl (by decide) rfl (fun ls hl => ?_)
  have hl : lv_has ls 3 [(1, .int a1), (2, va_rf (some a0))] := lv_sub hl [2, 0] rfl
  exact ww_mBl_ancestor_2 F fu _ _ _ _ _ hf hkc hks _ _ _ hP hD hS hl
theorem cw_mBl_ancestor (l : Launch) (D : va_G) (cy : Nat → ClassId) (ad : Nat → Nat) (fu MC MS : Nat) (a0 : Nat) (a1 : Int32) (M : Mm) (Φ : Option Nat → Mm → Prop) (hf : xw_mBl_ancestor fu MC MS cy ad Φ 0 0 M a0 a1) (sz : Nat) : Met l ({ cls := "CoinKeeper$Block", name := "ancestor", desc := "(I)LCoinKeeper$Block;" } : Jvm.MethodName) (.code ({ cls := "CoinKeeper$Block", name := "ancestor", desc := "(I)LCoinKeeper$Block;" } : Jvm.MethodName) b_Bl_ancestor 3 (Option.some (Jvm.ClassFile.FieldType.object "CoinKeeper$Block")) :: gw) (rmw_mBl_ancestor MC MS) (va_Pc [.ref a0, .int a1] (Pr D cy ad (mw M) sz)) (va_Qq Φ (fun u t => Po D cy (va_A (mw M) sz) (mw u) t) (va_A (mw M) sz)) MC MS (va_A (mw M) sz) :=
  q_met (Qc := fun A => va_Qq Φ (fun u t => Po D cy A (mw u) t) A) (by decide) rfl rfl (Nat.le_of_ble_eq_true rfl) (fun p e s m below meth c ls F hP hD hS hl => wew_mBl_ancestor (fu := fu) F 0 0 M a0 a1 hf (Nat.zero_le _) (Nat.zero_le _) _ _ _ hP hD hS hl) sz
abbrev b_Bl_meets : ByteArray := prog_2_method_3_code
theorem d_Bl_meets_0 : decode b_Bl_meets 0 = .ok (.aload_n 0, 1) := by decide +kernel
theorem d_Bl_meets_1 : decode b_Bl_meets 1 = .ok (.getfield 23, 3) := by decide +kernel
theorem d_Bl_meets_4 : decode b_Bl_meets 4 = .ok (.aload_n 1, 1) := by decide +kernel
theorem d_Bl_meets_5 : decode b_Bl_meets 5 = .ok (.getfield 23, 3) := by decide +kernel
theorem d_Bl_meets_8 : decode b_Bl_meets 8 = .ok (.invokestatic 52, 3) := by decide +kernel
theorem d_Bl_meets_11 : decode b_Bl_meets 11 = .ok (.istore_n 2, 1) := by decide +kernel
theorem d_Bl_meets_12 : decode b_Bl_meets 12 = .ok (.aload_n 0, 1) := by decide +kernel
theorem d_Bl_meets_13 : decode b_Bl_meets 13 = .ok (.iload_n 2, 1) := by decide +kernel
theorem d_Bl_meets_14 : decode b_Bl_meets 14 = .ok (.invokevirtual 58, 3) := by decide +kernel
theorem d_Bl_meets_17 : decode b_Bl_meets 17 = .ok (.astore_n 3, 1) := by decide +kernel
theorem d_Bl_meets_18 : decode b_Bl_meets 18 = .ok (.aload_n 1, 1) := by decide +kernel
theorem d_Bl_meets_19 : decode b_Bl_meets 19 = .ok (.iload_n 2, 1) := by decide +kernel
theorem d_Bl_meets_20 : decode b_Bl_meets 20 = .ok (.invokevirtual 58, 3) := by decide +kernel
theorem d_Bl_meets_23 : decode b_Bl_meets 23 = .ok (.astore 4, 2) := by decide +kernel
theorem d_Bl_meets_25 : decode b_Bl_meets 25 = .ok (.aload_n 3, 1) := by decide +kernel
theorem d_Bl_meets_26 : decode b_Bl_meets 26 = .ok (.aload 4, 2) := by decide +kernel
theorem d_Bl_meets_28 : decode b_Bl_meets 28 = .ok (.if_acmp .eq 33, 3) := by decide +kernel
theorem d_Bl_meets_31 : decode b_Bl_meets 31 = .ok (.aload_n 3, 1) := by decide +kernel
theorem d_Bl_meets_32 : decode b_Bl_meets 32 = .ok (.getfield 7, 3) := by decide +kernel
theorem d_Bl_meets_35 : decode b_Bl_meets 35 = .ok (.ifnull 26, 3) := by decide +kernel
theorem d_Bl_meets_38 : decode b_Bl_meets 38 = .ok (.aload 4, 2) := by decide +kernel
theorem d_Bl_meets_40 : decode b_Bl_meets 40 = .ok (.getfield 7, 3) := by decide +kernel
theorem d_Bl_meets_43 : decode b_Bl_meets 43 = .ok (.ifnull 18, 3) := by decide +kernel
theorem d_Bl_meets_46 : decode b_Bl_meets 46 = .ok (.aload_n 3, 1) := by decide +kernel
theorem d_Bl_meets_47 : decode b_Bl_meets 47 = .ok (.getfield 7, 3) := by decide +kernel
theorem d_Bl_meets_50 : decode b_Bl_meets 50 = .ok (.astore_n 3, 1) := by decide +kernel
theorem d_Bl_meets_51 : decode b_Bl_meets 51 = .ok (.aload 4, 2) := by decide +kernel
theorem d_Bl_meets_53 : decode b_Bl_meets 53 = .ok (.getfield 7, 3) := by decide +kernel
theorem d_Bl_meets_56 : decode b_Bl_meets 56 = .ok (.astore 4, 2) := by decide +kernel
theorem d_Bl_meets_58 : decode b_Bl_meets 58 = .ok (.goto (-33), 3) := by decide +kernel
theorem d_Bl_meets_61 : decode b_Bl_meets 61 = .ok (.aload_n 3, 1) := by decide +kernel
theorem d_Bl_meets_62 : decode b_Bl_meets 62 = .ok (.areturn, 1) := by decide +kernel
abbrev rmw_mBl_meets (MC MS : Nat) : Room := { frames := 1, cells := MC, slots := MS, locals := 26 }
def Iw_mBl_meets_25 (p : Program) (l : Launch) (e : Env) (s : State) (m : MethodId) (args : Array Value) (below : List Frame) (meth : Method) (c : Code) (D : va_G) (cy : Nat → ClassId) (A : Nat → Prop) (ad : Nat → Nat) (MC MS : Nat) (Φ : Option Nat → Mm → Prop) (k : Nat → Nat → Mm → Option Nat → Option Nat → Prop) : Prop :=
  ∀ (κ σ : Nat) (M : Mm) (x3 : Option Nat) (x4 : Option Nat), k κ σ M x3 x4 → κ ≤ MC → σ ≤ MS → ∀ (H : Heap) (locs : List Loc) (ls : Array Slot), va_P D classes (mw M) H → va_D A (mw M) → va_S A s.heap H locs → lv_has ls 5 [(3, va_rf x3), (4, va_rf x4)] → W p l e (rmw_mBl_meets MC MS) s m args below meth c H locs κ σ (MQ below (va_Qq Φ (fun u t => Po D cy A (mw u) t) A) args s MC MS A) (F0 m 25 ls [])
def Iw_mBl_meets_e (p : Program) (l : Launch) (e : Env) (s : State) (m : MethodId) (args : Array Value) (below : List Frame) (meth : Method) (c : Code) (D : va_G) (cy : Nat → ClassId) (A : Nat → Prop) (ad : Nat → Nat) (MC MS : Nat) (Φ : Option Nat → Mm → Prop) (k : Nat → Nat → Mm → Nat → Nat → Prop) : Prop :=
  ∀ (κ σ : Nat) (M : Mm) (a0 : Nat) (a1 : Nat), k κ σ M a0 a1 → κ ≤ MC → σ ≤ MS → ∀ (H : Heap) (locs : List Loc) (ls : Array Slot), va_P D classes (mw M) H → va_D A (mw M) → va_S A s.heap H locs → lv_has ls 5 [(0, .ref a0), (1, .ref a1)] → W p l e (rmw_mBl_meets MC MS) s m args below meth c H locs κ σ (MQ below (va_Qq Φ (fun u t => Po D cy A (mw u) t) A) args s MC MS A) (F0 m 0 ls [])
def xv_mBl_meets_25 (fu MC MS : Nat) (cy : Nat → ClassId) (ad : Nat → Nat) (Φ : Option Nat → Mm → Prop) (k_25 : Nat → Nat → Mm → Option Nat → Option Nat → Prop) (κ σ : Nat) (M : Mm) (x3 : Option Nat) (x4 : Option Nat) : Prop :=
  osp x3 (osp x4 (if (Option.none : Option Nat) = Option.none then (Φ Option.none M) else (False)) fun x4a => if (Option.none : Option Nat) = (some x4a) then (Φ Option.none M) else (False)) fun x3a => osp x4 (if ((some x3a) : Option Nat) = Option.none then (Φ (some x3a) M) else (mgr M x3a 1 0 fun r1 => osp r1 (Φ (some x3a) M) fun q2 => False)) fun x4a => if ((some x3a) : Option Nat) = (some x4a) then (Φ (some x3a) M) else (mgr M x3a 1 0 fun r3 => osp r3 (Φ (some x3a) M) fun q4 => mgr M x4a 1 0 fun r5 => osp r5 (Φ (some x3a) M) fun q6 => mgr M x3a 1 0 fun r7 => osp r7 (mgr M x4a 1 0 fun r9 => osp r9 (k_25 κ σ M Option.none Option.none) fun q10 => k_25 κ σ M Option.none (some q10)) fun q8 => mgr M x4a 1 0 fun r11 => osp r11 (k_25 κ σ M (some q8) Option.none) fun q12 => k_25 κ σ M (some q8) (some q12))
set_option maxHeartbeats 8000000 in
set_option maxRecDepth 100000 in
theorem wv_mBl_meets_25 {p : Program} {l : Launch} {e : Env} {s : State} {m : MethodId} {args : Array Value} {below : List Frame} {meth : Method} {c : Code} {D : va_G} {cy : Nat → ClassId} {A : Nat → Prop} {ad : Nat → Nat} {MC MS : Nat} {Φ : Option Nat → Mm → Prop} {fu : Nat} {k_25 : Nat → Nat → Mm → Option Nat → Option Nat → Prop} (F : Fx p s m args meth c b_Bl_meets 5 "CoinKeeper$Block" "meets" (Option.some (Jvm.ClassFile.FieldType.object "CoinKeeper$Block")) D cy ad A) (hk_25 : Iw_mBl_meets_25 p l e s m args below meth c D cy A ad MC MS Φ k_25) : Iw_mBl_meets_25 p l e s m args below meth c D cy A ad MC MS Φ (xv_mBl_meets_25 fu MC MS cy ad Φ k_25) := by
  obtain ⟨hx, hb, hr, hml, hown, hts, hlocks, hK, hA, hSt, hnm, hex⟩ := id F
  intro κ σ M x3 x4 hf hkc hks H locs ls hP hD hS hl
  unfold xv_mBl_meets_25 at hf
  have hq_ := ospp hf
  clear hf
  rcases hq_ with ⟨rfl, hf⟩ | ⟨x3a, rfl, hf⟩
  · have hl : lv_has ls 5 [(3, .null), (4, va_rf x4)] := hl
    have hq_ := ospp hf
    clear hf
    rcases hq_ with ⟨rfl, hf⟩ | ⟨x4a, rfl, hf⟩
    · have hl : lv_has ls 5 [(3, .null), (4, .null)] := hl
      refine lv_aload_nN hx hb d_Bl_meets_25 rfl (lv_at hl 0 rfl) ?_
      refine lv_aloadN hx hb d_Bl_meets_26 (lv_at hl 1 rfl) ?_
      refine lv_acmp_eq (rx := Option.none) (ry := Option.none) (tgt := 61) hx hb d_Bl_meets_28 (by decide) (fun cx => ?_) (fun cx => ?_)
      · have hf := ifpP cx hf
        refine lv_aload_nN hx hb d_Bl_meets_61 rfl (lv_at hl 0 rfl) ?_
        refine W.widen (k := MC) (n := MS) hkc hks ?_
        exact m_ra hf rfl hx hb hr (Or.inl ⟨_, rfl⟩) hlocks hK hP hD hS d_Bl_meets_62
      · have hf := ifnP cx hf
        refine lv_aload_nN hx hb d_Bl_meets_31 rfl (lv_at hl 0 rfl) ?_
        exact hf.elim
    · have hl : lv_has ls 5 [(3, .null), (4, .ref x4a)] := hl
      refine lv_aload_nN hx hb d_Bl_meets_25 rfl (lv_at hl 0 rfl) ?_
      refine lv_aload hx hb d_Bl_meets_26 (lv_at hl 1 rfl) ?_
      refine lv_acmp_eq (rx := Option.none) (ry := (some x4a)) (tgt := 61) hx hb d_Bl_meets_28 (by decide) (fun cx => ?_) (fun cx => ?_)
      · have hf := ifpP cx hf
        refine lv_aload_nN hx hb d_Bl_meets_61 rfl (lv_at hl 0 rfl) ?_
        refine W.widen (k := MC) (n := MS) hkc hks ?_
        exact m_ra hf rfl hx hb hr (Or.inl ⟨_, rfl⟩) hlocks hK hP hD hS d_Bl_meets_62
      · have hf := ifnP cx hf
        refine lv_aload_nN hx hb d_Bl_meets_31 rfl (lv_at hl 0 rfl) ?_
        exact hf.elim
  · have hl : lv_has ls 5 [(3, .ref x3a), (4, va_rf x4)] := hl
    have hq_ := ospp hf
    clear hf
    rcases hq_ with ⟨rfl, hf⟩ | ⟨x4a, rfl, hf⟩
    · have hl : lv_has ls 5 [(3, .ref x3a), (4, .null)] := hl
      refine lv_aload_n hx hb d_Bl_meets_25 rfl (lv_at hl 0 rfl) ?_
      refine lv_aloadN hx hb d_Bl_meets_26 (lv_at hl 1 rfl) ?_
      refine lv_acmp_eq (rx := (some x3a)) (ry := Option.none) (tgt := 61) hx hb d_Bl_meets_28 (by decide) (fun cx => ?_) (fun cx => ?_)
      · have hf := ifpP cx hf
        refine lv_aload_n hx hb d_Bl_meets_61 rfl (lv_at hl 0 rfl) ?_
        refine W.widen (k := MC) (n := MS) hkc hks ?_
        exact m_ra hf rfl hx hb hr (Or.inl ⟨_, rfl⟩) hlocks hK hP hD hS d_Bl_meets_62
      · have hf := ifnP cx hf
        refine lv_aload_n hx hb d_Bl_meets_31 rfl (lv_at hl 0 rfl) ?_
        obtain ⟨fs_, hm_, r1, hv_, hf⟩ := hf
        obtain ⟨ix_, hi_⟩ := m_ix hm_
        refine va_get (D := D) (ci := 1) (v := va_rf r1) (C := "CoinKeeper$Block") (T := F_1) (N := 12) hx hb hts i_1 hown hK hP ix_ hi_ rfl 0 (by decide) (hts _ gw_390) (fun _ h9 => h9) hv_ d_Bl_meets_32 ?_
        clear hv_ hi_ hm_
        have hq_ := ospp hf
        clear hf
        rcases hq_ with ⟨rfl, hf⟩ | ⟨q2, rfl, hf⟩
        · refine W.eq (g2 := F0 m 35 ls [.null]) rfl ?_
          refine lv_ifnullN (tgt := 61) hx hb d_Bl_meets_35 (by decide) ?_
          refine lv_aload_n hx hb d_Bl_meets_61 rfl (lv_at hl 0 rfl) ?_
          refine W.widen (k := MC) (n := MS) hkc hks ?_
          exact m_ra hf rfl hx hb hr (Or.inl ⟨_, rfl⟩) hlocks hK hP hD hS d_Bl_meets_62
        · refine W.eq (g2 := F0 m 35 ls [.ref q2]) rfl ?_
          refine lv_ifnull hx hb d_Bl_meets_35 ?_
          refine lv_aloadN hx hb d_Bl_meets_38 (lv_at hl 1 rfl) ?_
          exact hf.elim
    · have hl : lv_has ls 5 [(3, .ref x3a), (4, .ref x4a)] := hl
      refine lv_aload_n hx hb d_Bl_meets_25 rfl (lv_at hl 0 rfl) ?_
      refine lv_aload hx hb d_Bl_meets_26 (lv_at hl 1 rfl) ?_
      refine lv_acmp_eq (rx := (some x3a)) (ry := (some x4a)) (tgt := 61) hx hb d_Bl_meets_28 (by decide) (fun cx => ?_) (fun cx => ?_)
      · have hf := ifpP cx hf
        refine lv_aload_n hx hb d_Bl_meets_61 rfl (lv_at hl 0 rfl) ?_
        refine W.widen (k := MC) (n := MS) hkc hks ?_
        exact m_ra hf rfl hx hb hr (Or.inl ⟨_, rfl⟩) hlocks hK hP hD hS d_Bl_meets_62
      · have hf := ifnP cx hf
        refine lv_aload_n hx hb d_Bl_meets_31 rfl (lv_at hl 0 rfl) ?_
        obtain ⟨fs_, hm_, r3, hv_, hf⟩ := hf
        obtain ⟨ix_, hi_⟩ := m_ix hm_
        refine va_get (D := D) (ci := 1) (v := va_rf r3) (C := "CoinKeeper$Block") (T := F_1) (N := 12) hx hb hts i_1 hown hK hP ix_ hi_ rfl 0 (by decide) (hts _ gw_390) (fun _ h9 => h9) hv_ d_Bl_meets_32 ?_
        clear hv_ hi_ hm_
        have hq_ := ospp hf
        clear hf
        rcases hq_ with ⟨rfl, hf⟩ | ⟨q4, rfl, hf⟩
        · refine W.eq (g2 := F0 m 35 ls [.null]) rfl ?_
          refine lv_ifnullN (tgt := 61) hx hb d_Bl_meets_35 (by decide) ?_
          refine lv_aload_n hx hb d_Bl_meets_61 rfl (lv_at hl 0 rfl) ?_
          refine W.widen (k := MC) (n := MS) hkc hks ?_
          exact m_ra hf rfl hx hb hr (Or.inl ⟨_, rfl⟩) hlocks hK hP hD hS d_Bl_meets_62
        · refine W.eq (g2 := F0 m 35 ls [.ref q4]) rfl ?_
          refine lv_ifnull hx hb d_Bl_meets_35 ?_
          refine lv_aload hx hb d_Bl_meets_38 (lv_at hl 1 rfl) ?_
          obtain ⟨fs_, hm_, r5, hv_, hf⟩ := hf
          obtain ⟨ix_, hi_⟩ := m_ix hm_
          refine va_get (D := D) (ci := 1) (v := va_rf r5) (C := "CoinKeeper$Block") (T := F_1) (N := 12) hx hb hts i_1 hown hK hP ix_ hi_ rfl 0 (by decide) (hts _ gw_390) (fun _ h9 => h9) hv_ d_Bl_meets_40 ?_
          clear hv_ hi_ hm_
          have hq_ := ospp hf
          clear hf
          rcases hq_ with ⟨rfl, hf⟩ | ⟨q6, rfl, hf⟩
          · refine W.eq (g2 := F0 m 43 ls [.null]) rfl ?_
            refine lv_ifnullN (tgt := 61) hx hb d_Bl_meets_43 (by decide) ?_
            refine lv_aload_n hx hb d_Bl_meets_61 rfl (lv_at hl 0 rfl) ?_
            refine W.widen (k := MC) (n := MS) hkc hks ?_
            exact m_ra hf rfl hx hb hr (Or.inl ⟨_, rfl⟩) hlocks hK hP hD hS d_Bl_meets_62
          · refine W.eq (g2 := F0 m 43 ls [.ref q6]) rfl ?_
            refine lv_ifnull hx hb d_Bl_meets_43 ?_
            refine lv_aload_n hx hb d_Bl_meets_46 rfl (lv_at hl 0 rfl) ?_
            obtain ⟨fs_, hm_, r7, hv_, hf⟩ := hf
            obtain ⟨ix_, hi_⟩ := m_ix hm_
            refine va_get (D := D) (ci := 1) (v := va_rf r7) (C := "CoinKeeper$Block") (T := F_1) (N := 12) hx hb hts i_1 hown hK hP ix_ hi_ rfl 0 (by decide) (hts _ gw_390) (fun _ h9 => h9) hv_ d_Bl_meets_47 ?_
            clear hv_ hi_ hm_
            have hq_ := ospp hf
            clear hf
            rcases hq_ with ⟨rfl, hf⟩ | ⟨q8, rfl, hf⟩
            · refine W.eq (g2 := F0 m 50 ls [.null]) rfl ?_
              refine lv_astore_nN (lv' := [(3, .null), (4, .ref x4a)]) hx hb d_Bl_meets_50 rfl hl (by decide) rfl (fun ls hl => ?_)
              refine lv_aload hx hb d_Bl_meets_51 (lv_at hl 1 rfl) ?_
              obtain ⟨fs_, hm_, r9, hv_, hf⟩ := hf
              obtain ⟨ix_, hi_⟩ := m_ix hm_
              refine va_get (D := D) (ci := 1) (v := va_rf r9) (C := "CoinKeeper$Block") (T := F_1) (N := 12) hx hb hts i_1 hown hK hP ix_ hi_ rfl 0 (by decide) (hts _ gw_390) (fun _ h9 => h9) hv_ d_Bl_meets_53 ?_
              clear hv_ hi_ hm_
              have hq_ := ospp hf
              clear hf
              rcases hq_ with ⟨rfl, hf⟩ | ⟨q10, rfl, hf⟩
              · refine W.eq (g2 := F0 m 56 ls [.null]) rfl ?_
                refine lv_astoreN (lv' := [(4, .null), (3, .null)]) hx hb d_Bl_meets_56 hl (by decide) rfl (fun ls hl => ?_)
                refine lv_goto (tgt := 25) hx hb d_Bl_meets_58 (by decide) ?_
                have hl : lv_has ls 5 [(3, va_rf Option.none), (4, va_rf Option.none)] := lv_sub hl [1, 0] rfl
                exact hk_25 _ _ _ _ _ hf hkc hks _ _ _ hP hD hS hl
              · refine W.eq (g2 := F0 m 56 ls [.ref q10]) rfl ?_
                refine lv_astore (lv' := [(4, .ref q10), (3, .null)]) hx hb d_Bl_meets_56 hl (by decide) rfl (fun ls hl => ?_)
                refine lv_goto (tgt := 25) hx hb d_Bl_meets_58 (by decide) ?_
                have hl : lv_has ls 5 [(3, va_rf Option.none), (4, va_rf (some q10))] := lv_sub hl [1, 0] rfl
                exact hk_25 _ _ _ _ _ hf hkc hks _ _ _ hP hD hS hl
            · refine W.eq (g2 := F0 m 50 ls [.ref q8]) rfl ?_
              refine lv_astore_n (lv' := [(3, .ref q8), (4, .ref x4a)]) hx hb d_Bl_meets_50 rfl hl (by decide) rfl (fun ls hl => ?_)
              refine lv_aload hx hb d_Bl_meets_51 (lv_at hl 1 rfl) ?_
              obtain ⟨fs_, hm_, r11, hv_, hf⟩ := hf
              obtain ⟨ix_, hi_⟩ := m_ix hm_
              refine va_get (D := D) (ci := 1) (v := va_rf r11) (C := "CoinKeeper$Block") (T := F_1) (N := 12) hx hb hts i_1 hown hK hP ix_ hi_ rfl 0 (by decide) (hts _ gw_390) (fun _ h9 => h9) hv_ d_Bl_meets_53 ?_
              clear hv_ hi_ hm_
              have hq_ := ospp hf
              clear hf
              rcases hq_ with ⟨rfl, hf⟩ | ⟨q12, rfl, hf⟩
              · refine W.eq (g2 := F0 m 56 ls [.null]) rfl ?_
                refine lv_astoreN (lv' := [(4, .null), (3, .ref q8)]) hx hb d_Bl_meets_56 hl (by decide) rfl (fun ls hl => ?_)
                refine lv_goto (tgt := 25) hx hb d_Bl_meets_58 (by decide) ?_
                have hl : lv_has ls 5 [(3, va_rf (some q8)), (4, va_rf Option.none)] := lv_sub hl [1, 0] rfl
                exact hk_25 _ _ _ _ _ hf hkc hks _ _ _ hP hD hS hl
              · refine W.eq (g2 := F0 m 56 ls [.ref q12]) rfl ?_
                refine lv_astore (lv' := [(4, .ref q12), (3, .ref q8)]) hx hb d_Bl_meets_56 hl (by decide) rfl (fun ls hl => ?_)
                refine lv_goto (tgt := 25) hx hb d_Bl_meets_58 (by decide) ?_
                have hl : lv_has ls 5 [(3, va_rf (some q8)), (4, va_rf (some q12))] := lv_sub hl [1, 0] rfl
                exact hk_25 _ _ _ _ _ hf hkc hks _ _ _ hP hD hS hl
def xw_mBl_meets_25 (fu MC MS : Nat) (cy : Nat → ClassId) (ad : Nat → Nat) (Φ : Option Nat → Mm → Prop) : Nat → Nat → Nat → Mm → Option Nat → Option Nat → Prop
  | 0 => fun _ _ _ _ _ => False
  | n + 1 => xv_mBl_meets_25 fu MC MS cy ad Φ (xw_mBl_meets_25 fu MC MS cy ad Φ n)
theorem ww_mBl_meets_25 {p : Program} {l : Launch} {e : Env} {s : State} {m : MethodId} {args : Array Value} {below : List Frame} {meth : Method} {c : Code} {D : va_G} {cy : Nat → ClassId} {A : Nat → Prop} {ad : Nat → Nat} {MC MS : Nat} {Φ : Option Nat → Mm → Prop} {fu : Nat} (F : Fx p s m args meth c b_Bl_meets 5 "CoinKeeper$Block" "meets" (Option.some (Jvm.ClassFile.FieldType.object "CoinKeeper$Block")) D cy ad A) : ∀ n : Nat, Iw_mBl_meets_25 p l e s m args below meth c D cy A ad MC MS Φ (xw_mBl_meets_25 fu MC MS cy ad Φ n)
  | 0 => fun _ _ _ _ _ hf => False.elim hf
  | n + 1 => wv_mBl_meets_25 F (ww_mBl_meets_25 F n)
theorem hdq_0 : ({ cls := "CoinKeeper$Block", name := "ancestor", desc := "(I)LCoinKeeper$Block;" } : Jvm.MethodName).cls ≠ "java/lang/invoke/MethodHandle" ∧ ({ cls := "CoinKeeper$Block", name := "ancestor", desc := "(I)LCoinKeeper$Block;" } : Jvm.MethodName).cls ≠ "java/lang/invoke/VarHandle" ∧ (parseMethodDescriptor ({ cls := "CoinKeeper$Block", name := "ancestor", desc := "(I)LCoinKeeper$Block;" } : Jvm.MethodName).desc).map (fun d => d.parameters.length) = some 1 := by decide +kernel
def xw_mBl_meets (fu MC MS : Nat) (cy : Nat → ClassId) (ad : Nat → Nat) (Φ : Option Nat → Mm → Prop) (κ σ : Nat) (M : Mm) (a0 : Nat) (a1 : Nat) : Prop :=
  mgi M a0 1 4 fun v1 => mgi M a1 1 4 fun v2 => bnd (if v2 < v1 then v2 else v1) fun v3 => mck M a0 1 <| ∃ mc4 ms5 : Nat, (κ + mc4 ≤ MC ∧ σ + ms5 ≤ MS) ∧ xw_mBl_ancestor fu mc4 ms5 cy ad (fun v7 M6 => osp v7 (mck M6 a1 1 <| ∃ mc9 ms10 : Nat, (κ + mc4 + mc9 ≤ MC ∧ σ + ms5 + ms10 ≤ MS) ∧ xw_mBl_ancestor fu mc9 ms10 cy ad (fun v12 M11 => osp v12 (xw_mBl_meets_25 fu MC MS cy ad Φ fu (κ + mc4 + mc9) (σ + ms5 + ms10) M11 Option.none Option.none) fun q13 => xw_mBl_meets_25 fu MC MS cy ad Φ fu (κ + mc4 + mc9) (σ + ms5 + ms10) M11 Option.none (some q13)) 0 0 M6 a1 v3) fun q8 => mck M6 a1 1 <| ∃ mc14 ms15 : Nat, (κ + mc4 + mc14 ≤ MC ∧ σ + ms5 + ms15 ≤ MS) ∧ xw_mBl_ancestor fu mc14 ms15 cy ad (fun v17 M16 => osp v17 (xw_mBl_meets_25 fu MC MS cy ad Φ fu (κ + mc4 + mc14) (σ + ms5 + ms15) M16 (some q8) Option.none) fun q18 => xw_mBl_meets_25 fu MC MS cy ad Φ fu (κ + mc4 + mc14) (σ + ms5 + ms15) M16 (some q8) (some q18)) 0 0 M6 a1 v3) 0 0 M a0 v3
set_option maxHeartbeats 8000000 in
set_option maxRecDepth 100000 in
theorem wew_mBl_meets {p : Program} {l : Launch} {e : Env} {s : State} {m : MethodId} {args : Array Value} {below : List Frame} {meth : Method} {c : Code} {D : va_G} {cy : Nat → ClassId} {A : Nat → Prop} {ad : Nat → Nat} {MC MS : Nat} {Φ : Option Nat → Mm → Prop} {fu : Nat} (F : Fx p s m args meth c b_Bl_meets 5 "CoinKeeper$Block" "meets" (Option.some (Jvm.ClassFile.FieldType.object "CoinKeeper$Block")) D cy ad A) : Iw_mBl_meets_e p l e s m args below meth c D cy A ad MC MS Φ (xw_mBl_meets fu MC MS cy ad Φ) := by
  obtain ⟨hx, hb, hr, hml, hown, hts, hlocks, hK, hA, hSt, hnm, hex⟩ := id F
  intro κ σ M a0 a1 hf hkc hks H locs ls hP hD hS hl
  unfold xw_mBl_meets at hf
  refine lv_aload_n hx hb d_Bl_meets_0 rfl (lv_at hl 0 rfl) ?_
  obtain ⟨fs_, hm_, v1, hv_, hf⟩ := hf
  obtain ⟨ix_, hi_⟩ := m_ix hm_
  refine va_get (D := D) (ci := 1) (v := .int v1) (C := "CoinKeeper$Block") (T := F_1) (N := 12) hx hb hts i_1 hown hK hP ix_ hi_ rfl 4 (by decide) (hts _ gw_400) (fun _ h9 => h9) hv_ d_Bl_meets_1 ?_
  clear hv_ hi_ hm_
  refine lv_aload_n hx hb d_Bl_meets_4 rfl (lv_at hl 1 rfl) ?_
  obtain ⟨fs_, hm_, v2, hv_, hf⟩ := hf
  obtain ⟨ix_, hi_⟩ := m_ix hm_
  refine va_get (D := D) (ci := 1) (v := .int v2) (C := "CoinKeeper$Block") (T := F_1) (N := 12) hx hb hts i_1 hown hK hP ix_ hi_ rfl 4 (by decide) (hts _ gw_400) (fun _ h9 => h9) hv_ d_Bl_meets_5 ?_
  clear hv_ hi_ hm_
  refine va_mmin (R := rmw_mBl_meets MC MS) (rest := []) hx hb (hml.trans hl.1.symm) hown (hts _ gw_899) (hts _ gw_493) (hts _ gw_15) (hts _ gw_494) (Nat.le_of_ble_eq_true rfl) (Nat.le_of_ble_eq_true rfl) hkc hks d_Bl_meets_8 ?_
  refine lv_topi (fun v3 ev => ?_)
  have hf := bnQ ev hf
  clear ev
  refine lv_istore_n (lv' := [(2, .int v3), (0, .ref a0), (1, .ref a1)]) hx hb d_Bl_meets_11 rfl hl (by decide) rfl (fun ls hl => ?_)
  refine lv_aload_n hx hb d_Bl_meets_12 rfl (lv_at hl 1 rfl) ?_
  refine lv_iload_n hx hb d_Bl_meets_13 rfl (lv_at hl 0 rfl) ?_
  obtain ⟨fs_, hm_, hf⟩ := hf
  obtain ⟨ix_, hi_⟩ := m_ix hm_
  obtain ⟨mc4, ms5, ⟨hc_, hd_⟩, hf⟩ := hf
  refine m_aq (va_runV (C := "CoinKeeper$Block") (As := [.int v3]) (rest := []) ⟨hx, hb, hml, hown, hts⟩ (cw_mBl_ancestor l D cy ad fu mc4 ms5 a0 v3 M _ hf H.size) ⟨q_cB hts gw_755 gw_13 gw_752 hdq_0 ⟨Nat.le_of_ble_eq_true rfl, Nat.le_of_ble_eq_true rfl⟩, hts _ gw_753, hts _ gw_754⟩ (q_preV (q_pre hP hD hK hSt hS (m_free hD hS hA) _) (va_recv hK hP (ci := 1) (q0 := ix_) rfl hi_)) rfl rfl hl.1 rfl (lv_room (Nat.le_of_ble_eq_true rfl)) d_Bl_meets_14 ⟨hc_, hd_⟩) hD hS hA (fun v7 M6 H locs hf hP hD hS => ?_)
  have hkc : κ + mc4 ≤ MC := hc_
  have hks : σ + ms5 ≤ MS := hd_
  clear hc_ hd_
  have hq_ := ospp hf
  clear hf
  rcases hq_ with ⟨rfl, hf⟩ | ⟨q8, rfl, hf⟩
  · refine W.eq (g2 := F0 m 17 ls [.null]) rfl ?_
    refine lv_astore_nN (lv' := [(3, .null), (2, .int v3), (0, .ref a0), (1, .ref a1)]) hx hb d_Bl_meets_17 rfl hl (by decide) rfl (fun ls hl => ?_)
    refine lv_aload_n hx hb d_Bl_meets_18 rfl (lv_at hl 3 rfl) ?_
    refine lv_iload_n hx hb d_Bl_meets_19 rfl (lv_at hl 1 rfl) ?_
    obtain ⟨fs_, hm_, hf⟩ := hf
    obtain ⟨ix_, hi_⟩ := m_ix hm_
    obtain ⟨mc9, ms10, ⟨hc_, hd_⟩, hf⟩ := hf
    refine m_aq (va_runV (C := "CoinKeeper$Block") (As := [.int v3]) (rest := []) ⟨hx, hb, hml, hown, hts⟩ (cw_mBl_ancestor l D cy ad fu mc9 ms10 a1 v3 M6 _ hf H.size) ⟨q_cB hts gw_755 gw_13 gw_752 hdq_0 ⟨Nat.le_of_ble_eq_true rfl, Nat.le_of_ble_eq_true rfl⟩, hts _ gw_753, hts _ gw_754⟩ (q_preV (q_pre hP hD hK hSt hS (m_free hD hS hA) _) (va_recv hK hP (ci := 1) (q0 := ix_) rfl hi_)) rfl rfl hl.1 rfl (lv_room (Nat.le_of_ble_eq_true rfl)) d_Bl_meets_20 ⟨hc_, hd_⟩) hD hS hA (fun v12 M11 H locs hf hP hD hS => ?_)
    have hkc : κ + mc4 + mc9 ≤ MC := hc_
    have hks : σ + ms5 + ms10 ≤ MS := hd_
    clear hc_ hd_
    have hq_ := ospp hf
    clear hf
    rcases hq_ with ⟨rfl, hf⟩ | ⟨q13, rfl, hf⟩
    · refine W.eq (g2 := F0 m 23 ls [.null]) rfl ?_
      refine lv_astoreN (lv' := [(4, .null), (3, .null), (2, .int v3), (0, .ref a0), (1, .ref a1)]) hx hb d_Bl_meets_23 hl (by decide) rfl (fun ls hl => ?_)
      have hl : lv_has ls 5 [(3, va_rf Option.none), (4, va_rf Option.none)] := lv_sub hl [1, 0] rfl
      exact ww_mBl_meets_25 F fu _ _ _ _ _ hf hkc hks _ _ _ hP hD hS hl
    · refine W.eq (g2 := F0 m 23 ls [.ref q13]) rfl ?_
      refine lv_astore (lv' := [(4, .ref q13), (3, .null), (2, .int v3), (0, .ref a0), (1, .ref a1)]) hx hb d_Bl_meets_23 hl (by decide) rfl (fun ls hl => ?_)
      have hl : lv_has ls 5 [(3, va_rf Option.none), (4, va_rf (some q13))] := lv_sub hl [1, 0] rfl
      exact ww_mBl_meets_25 F fu _ _ _ _ _ hf hkc hks _ _ _ hP hD hS hl
  · refine W.eq (g2 := F0 m 17 ls [.ref q8]) rfl ?_
    refine lv_astore_n (lv' := [(3, .ref q8), (2, .int v3), (0, .ref a0), (1, .ref a1)]) hx hb d_Bl_meets_17 rfl hl (by decide) rfl (fun ls hl => ?_)
    refine lv_aload_n hx hb d_Bl_meets_18 rfl (lv_at hl 3 rfl) ?_
    refine lv_iload_n hx hb d_Bl_meets_19 rfl (lv_at hl 1 rfl) ?_
    obtain ⟨fs_, hm_, hf⟩ := hf
    obtain ⟨ix_, hi_⟩ := m_ix hm_
    obtain ⟨mc14, ms15, ⟨hc_, hd_⟩, hf⟩ := hf
    refine m_aq (va_runV (C := "CoinKeeper$Block") (As := [.int v3]) (rest := []) ⟨hx, hb, hml, hown, hts⟩ (cw_mBl_ancestor l D cy ad fu mc14 ms15 a1 v3 M6 _ hf H.size) ⟨q_cB hts gw_755 gw_13 gw_752 hdq_0 ⟨Nat.le_of_ble_eq_true rfl, Nat.le_of_ble_eq_true rfl⟩, hts _ gw_753, hts _ gw_754⟩ (q_preV (q_pre hP hD hK hSt hS (m_free hD hS hA) _) (va_recv hK hP (ci := 1) (q0 := ix_) rfl hi_)) rfl rfl hl.1 rfl (lv_room (Nat.le_of_ble_eq_true rfl)) d_Bl_meets_20 ⟨hc_, hd_⟩) hD hS hA (fun v17 M16 H locs hf hP hD hS => ?_)
    have hkc : κ + mc4 + mc14 ≤ MC := hc_
    have hks : σ + ms5 + ms15 ≤ MS := hd_
    clear hc_ hd_
    have hq_ := ospp hf
    clear hf
    rcases hq_ with ⟨rfl, hf⟩ | ⟨q18, rfl, hf⟩
    · refine W.eq (g2 := F0 m 23 ls [.null]) rfl ?_
      refine lv_astoreN (lv' := [(4, .null), (3, .ref q8), (2, .int v3), (0, .ref a0), (1, .ref a1)]) hx hb d_Bl_meets_23 hl (by decide) rfl (fun ls hl => ?_)
      have hl : lv_has ls 5 [(3, va_rf (some q8)), (4, va_rf Option.none)] := lv_sub hl [1, 0] rfl
      exact ww_mBl_meets_25 F fu _ _ _ _ _ hf hkc hks _ _ _ hP hD hS hl
    · refine W.eq (g2 := F0 m 23 ls [.ref q18]) rfl ?_
      refine lv_astore (lv' := [(4, .ref q18), (3, .ref q8), (2, .int v3), (0, .ref a0), (1, .ref a1)]) hx hb d_Bl_meets_23 hl (by decide) rfl (fun ls hl => ?_)
      have hl : lv_has ls 5 [(3, va_rf (some q8)), (4, va_rf (some q18))] := lv_sub hl [1, 0] rfl
      exact ww_mBl_meets_25 F fu _ _ _ _ _ hf hkc hks _ _ _ hP hD hS hl
theorem cw_mBl_meets (l : Launch) (D : va_G) (cy : Nat → ClassId) (ad : Nat → Nat) (fu MC MS : Nat) (a0 : Nat) (a1 : Nat) (M : Mm) (Φ : Option Nat → Mm → Prop) (hf : xw_mBl_meets fu MC MS cy ad Φ 0 0 M a0 a1) (sz : Nat) : Met l ({ cls := "CoinKeeper$Block", name := "meets", desc := "(LCoinKeeper$Block;)LCoinKeeper$Block;" } : Jvm.MethodName) (.code ({ cls := "CoinKeeper$Block", name := "meets", desc := "(LCoinKeeper$Block;)LCoinKeeper$Block;" } : Jvm.MethodName) b_Bl_meets 5 (Option.some (Jvm.ClassFile.FieldType.object "CoinKeeper$Block")) :: gw) (rmw_mBl_meets MC MS) (va_Pc [.ref a0, .ref a1] (Pr D cy ad (mw M) sz)) (va_Qq Φ (fun u t => Po D cy (va_A (mw M) sz) (mw u) t) (va_A (mw M) sz)) MC MS (va_A (mw M) sz) :=
  q_met (Qc := fun A => va_Qq Φ (fun u t => Po D cy A (mw u) t) A) (by decide) rfl rfl (Nat.le_of_ble_eq_true rfl) (fun p e s m below meth c ls F hP hD hS hl => wew_mBl_meets (fu := fu) F 0 0 M a0 a1 hf (Nat.zero_le _) (Nat.zero_le _) _ _ _ hP hD hS hl) sz
abbrev b_Bl_subsidy : ByteArray := prog_2_method_4_code
theorem d_Bl_subsidy_0 : decode b_Bl_subsidy 0 = .ok (.ldc2_w 62, 3) := by decide +kernel
theorem d_Bl_subsidy_3 : decode b_Bl_subsidy 3 = .ok (.aload_n 0, 1) := by decide +kernel
theorem d_Bl_subsidy_4 : decode b_Bl_subsidy 4 = .ok (.getfield 23, 3) := by decide +kernel
theorem d_Bl_subsidy_7 : decode b_Bl_subsidy 7 = .ok (.bipush 20, 2) := by decide +kernel
theorem d_Bl_subsidy_9 : decode b_Bl_subsidy 9 = .ok (.idiv, 1) := by decide +kernel
theorem d_Bl_subsidy_10 : decode b_Bl_subsidy 10 = .ok (.lshr, 1) := by decide +kernel
theorem d_Bl_subsidy_11 : decode b_Bl_subsidy 11 = .ok (.lreturn, 1) := by decide +kernel
abbrev rmw_mBl_subsidy (MC MS : Nat) : Room := { frames := 0, cells := MC, slots := MS, locals := 0 }
def Iw_mBl_subsidy_e (p : Program) (l : Launch) (e : Env) (s : State) (m : MethodId) (args : Array Value) (below : List Frame) (meth : Method) (c : Code) (D : va_G) (cy : Nat → ClassId) (A : Nat → Prop) (ad : Nat → Nat) (MC MS : Nat) (Φ : Int64 → Mm → Prop) (k : Nat → Nat → Mm → Nat → Prop) : Prop :=
  ∀ (κ σ : Nat) (M : Mm) (a0 : Nat), k κ σ M a0 → κ ≤ MC → σ ≤ MS → ∀ (H : Heap) (locs : List Loc) (ls : Array Slot), va_P D classes (mw M) H → va_D A (mw M) → va_S A s.heap H locs → lv_has ls 1 [(0, .ref a0)] → W p l e (rmw_mBl_subsidy MC MS) s m args below meth c H locs κ σ (MQ below (va_Ql Φ (fun u t => Po D cy A (mw u) t) A) args s MC MS A) (F0 m 0 ls [])
def xw_mBl_subsidy (fu MC MS : Nat) (cy : Nat → ClassId) (ad : Nat → Nat) (Φ : Int64 → Mm → Prop) (κ σ : Nat) (M : Mm) (a0 : Nat) : Prop :=
  mgi M a0 1 4 fun v1 => bnd ((5000000000 : Int64) >>> ((v1 / (20 : Int32)).toInt64 &&& 63)) fun v2 => Φ v2 M
set_option maxHeartbeats 8000000 in
set_option maxRecDepth 100000 in
theorem wew_mBl_subsidy {p : Program} {l : Launch} {e : Env} {s : State} {m : MethodId} {args : Array Value} {below : List Frame} {meth : Method} {c : Code} {D : va_G} {cy : Nat → ClassId} {A : Nat → Prop} {ad : Nat → Nat} {MC MS : Nat} {Φ : Int64 → Mm → Prop} {fu : Nat} (F : Fx p s m args meth c b_Bl_subsidy 1 "CoinKeeper$Block" "subsidy" (some .long) D cy ad A) : Iw_mBl_subsidy_e p l e s m args below meth c D cy A ad MC MS Φ (xw_mBl_subsidy fu MC MS cy ad Φ) := by
  obtain ⟨hx, hb, hr, hml, hown, hts, hlocks, hK, hA, hSt, hnm, hex⟩ := id F
  intro κ σ M a0 hf hkc hks H locs ls hP hD hS hl
  unfold xw_mBl_subsidy at hf
  refine lv_ldc2 (v := 5000000000) hx hb hown (hts _ gw_967) d_Bl_subsidy_0 ?_
  refine lv_aload_n hx hb d_Bl_subsidy_3 rfl (lv_at hl 0 rfl) ?_
  obtain ⟨fs_, hm_, v1, hv_, hf⟩ := hf
  obtain ⟨ix_, hi_⟩ := m_ix hm_
  refine va_get (D := D) (ci := 1) (v := .int v1) (C := "CoinKeeper$Block") (T := F_1) (N := 12) hx hb hts i_1 hown hK hP ix_ hi_ rfl 4 (by decide) (hts _ gw_400) (fun _ h9 => h9) hv_ d_Bl_subsidy_4 ?_
  clear hv_ hi_ hm_
  refine lv_bipush (v := 20) hx hb d_Bl_subsidy_7 (by decide) ?_
  refine lv_idiv hx hb d_Bl_subsidy_9 (by decide) ?_
  refine lv_lshr hx hb d_Bl_subsidy_10 rfl ?_
  refine lv_topl (fun v2 ev => ?_)
  have hf := bnQ ev hf
  clear ev
  refine W.widen (k := MC) (n := MS) hkc hks ?_
  exact m_rl hf hx hb hr hlocks hK hP hD hS d_Bl_subsidy_11
theorem cw_mBl_subsidy (l : Launch) (D : va_G) (cy : Nat → ClassId) (ad : Nat → Nat) (fu MC MS : Nat) (a0 : Nat) (M : Mm) (Φ : Int64 → Mm → Prop) (hf : xw_mBl_subsidy fu MC MS cy ad Φ 0 0 M a0) (sz : Nat) : Met l ({ cls := "CoinKeeper$Block", name := "subsidy", desc := "()J" } : Jvm.MethodName) (.code ({ cls := "CoinKeeper$Block", name := "subsidy", desc := "()J" } : Jvm.MethodName) b_Bl_subsidy 1 (some .long) :: gw) (rmw_mBl_subsidy MC MS) (va_Pc [.ref a0] (Pr D cy ad (mw M) sz)) (va_Ql Φ (fun u t => Po D cy (va_A (mw M) sz) (mw u) t) (va_A (mw M) sz)) MC MS (va_A (mw M) sz) :=
  q_met (Qc := fun A => va_Ql Φ (fun u t => Po D cy A (mw u) t) A) (by decide) rfl rfl (Nat.le_of_ble_eq_true rfl) (fun p e s m below meth c ls F hP hD hS hl => wew_mBl_subsidy (fu := fu) F 0 0 M a0 hf (Nat.zero_le _) (Nat.zero_le _) _ _ _ hP hD hS hl) sz
abbrev b_Bl_median : ByteArray := prog_2_method_5_code
theorem d_Bl_median_0 : decode b_Bl_median 0 = .ok (.bipush 11, 2) := by decide +kernel
theorem d_Bl_median_2 : decode b_Bl_median 2 = .ok (.newarray .long, 2) := by decide +kernel
theorem d_Bl_median_4 : decode b_Bl_median 4 = .ok (.astore_n 1, 1) := by decide +kernel
theorem d_Bl_median_5 : decode b_Bl_median 5 = .ok (.iconst 0, 1) := by decide +kernel
theorem d_Bl_median_6 : decode b_Bl_median 6 = .ok (.istore_n 2, 1) := by decide +kernel
theorem d_Bl_median_7 : decode b_Bl_median 7 = .ok (.aload_n 0, 1) := by decide +kernel
theorem d_Bl_median_8 : decode b_Bl_median 8 = .ok (.astore_n 3, 1) := by decide +kernel
theorem d_Bl_median_9 : decode b_Bl_median 9 = .ok (.aload_n 3, 1) := by decide +kernel
theorem d_Bl_median_10 : decode b_Bl_median 10 = .ok (.ifnull 66, 3) := by decide +kernel
theorem d_Bl_median_13 : decode b_Bl_median 13 = .ok (.iload_n 2, 1) := by decide +kernel
theorem d_Bl_median_14 : decode b_Bl_median 14 = .ok (.bipush 11, 2) := by decide +kernel
theorem d_Bl_median_16 : decode b_Bl_median 16 = .ok (.if_icmp .ge 60, 3) := by decide +kernel
theorem d_Bl_median_19 : decode b_Bl_median 19 = .ok (.iload_n 2, 1) := by decide +kernel
theorem d_Bl_median_20 : decode b_Bl_median 20 = .ok (.istore 4, 2) := by decide +kernel
theorem d_Bl_median_22 : decode b_Bl_median 22 = .ok (.iload 4, 2) := by decide +kernel
theorem d_Bl_median_24 : decode b_Bl_median 24 = .ok (.ifCond .le 33, 3) := by decide +kernel
theorem d_Bl_median_27 : decode b_Bl_median 27 = .ok (.aload_n 1, 1) := by decide +kernel
theorem d_Bl_median_28 : decode b_Bl_median 28 = .ok (.iload 4, 2) := by decide +kernel
theorem d_Bl_median_30 : decode b_Bl_median 30 = .ok (.iconst 1, 1) := by decide +kernel
theorem d_Bl_median_31 : decode b_Bl_median 31 = .ok (.isub, 1) := by decide +kernel
theorem d_Bl_median_32 : decode b_Bl_median 32 = .ok (.laload, 1) := by decide +kernel
theorem d_Bl_median_33 : decode b_Bl_median 33 = .ok (.aload_n 3, 1) := by decide +kernel
theorem d_Bl_median_34 : decode b_Bl_median 34 = .ok (.getfield 37, 3) := by decide +kernel
theorem d_Bl_median_37 : decode b_Bl_median 37 = .ok (.lcmp, 1) := by decide +kernel
theorem d_Bl_median_38 : decode b_Bl_median 38 = .ok (.ifCond .le 19, 3) := by decide +kernel
theorem d_Bl_median_41 : decode b_Bl_median 41 = .ok (.aload_n 1, 1) := by decide +kernel
theorem d_Bl_median_42 : decode b_Bl_median 42 = .ok (.iload 4, 2) := by decide +kernel
theorem d_Bl_median_44 : decode b_Bl_median 44 = .ok (.aload_n 1, 1) := by decide +kernel
theorem d_Bl_median_45 : decode b_Bl_median 45 = .ok (.iload 4, 2) := by decide +kernel
theorem d_Bl_median_47 : decode b_Bl_median 47 = .ok (.iconst 1, 1) := by decide +kernel
theorem d_Bl_median_48 : decode b_Bl_median 48 = .ok (.isub, 1) := by decide +kernel
theorem d_Bl_median_49 : decode b_Bl_median 49 = .ok (.laload, 1) := by decide +kernel
theorem d_Bl_median_50 : decode b_Bl_median 50 = .ok (.lastore, 1) := by decide +kernel
theorem d_Bl_median_51 : decode b_Bl_median 51 = .ok (.iinc 4 (-1), 3) := by decide +kernel
theorem d_Bl_median_54 : decode b_Bl_median 54 = .ok (.goto (-32), 3) := by decide +kernel
theorem d_Bl_median_57 : decode b_Bl_median 57 = .ok (.aload_n 1, 1) := by decide +kernel
theorem d_Bl_median_58 : decode b_Bl_median 58 = .ok (.iload 4, 2) := by decide +kernel
theorem d_Bl_median_60 : decode b_Bl_median 60 = .ok (.aload_n 3, 1) := by decide +kernel
theorem d_Bl_median_61 : decode b_Bl_median 61 = .ok (.getfield 37, 3) := by decide +kernel
theorem d_Bl_median_64 : decode b_Bl_median 64 = .ok (.lastore, 1) := by decide +kernel
theorem d_Bl_median_65 : decode b_Bl_median 65 = .ok (.iinc 2 1, 3) := by decide +kernel
theorem d_Bl_median_68 : decode b_Bl_median 68 = .ok (.aload_n 3, 1) := by decide +kernel
theorem d_Bl_median_69 : decode b_Bl_median 69 = .ok (.getfield 7, 3) := by decide +kernel
theorem d_Bl_median_72 : decode b_Bl_median 72 = .ok (.astore_n 3, 1) := by decide +kernel
theorem d_Bl_median_73 : decode b_Bl_median 73 = .ok (.goto (-64), 3) := by decide +kernel
theorem d_Bl_median_76 : decode b_Bl_median 76 = .ok (.aload_n 1, 1) := by decide +kernel
theorem d_Bl_median_77 : decode b_Bl_median 77 = .ok (.iload_n 2, 1) := by decide +kernel
theorem d_Bl_median_78 : decode b_Bl_median 78 = .ok (.iconst 2, 1) := by decide +kernel
theorem d_Bl_median_79 : decode b_Bl_median 79 = .ok (.idiv, 1) := by decide +kernel
theorem d_Bl_median_80 : decode b_Bl_median 80 = .ok (.laload, 1) := by decide +kernel
theorem d_Bl_median_81 : decode b_Bl_median 81 = .ok (.lreturn, 1) := by decide +kernel
abbrev rmw_mBl_median (MC MS : Nat) : Room := { frames := 0, cells := MC, slots := MS, locals := 0 }
def Iw_mBl_median_57 (p : Program) (l : Launch) (e : Env) (s : State) (m : MethodId) (args : Array Value) (below : List Frame) (meth : Method) (c : Code) (D : va_G) (cy : Nat → ClassId) (A : Nat → Prop) (ad : Nat → Nat) (MC MS : Nat) (Φ : Int64 → Mm → Prop) (k : Nat → Nat → Mm → Nat → Int32 → Nat → Int32 → Prop) : Prop :=
  ∀ (κ σ : Nat) (M : Mm) (x1 : Nat) (x2 : Int32) (x3 : Nat) (x4 : Int32), k κ σ M x1 x2 x3 x4 → κ ≤ MC → σ ≤ MS → ∀ (H : Heap) (locs : List Loc) (ls : Array Slot), va_P D classes (mw M) H → va_D A (mw M) → va_S A s.heap H locs → lv_has ls 5 [(1, .ref x1), (2, .int x2), (3, .ref x3), (4, .int x4)] → W p l e (rmw_mBl_median MC MS) s m args below meth c H locs κ σ (MQ below (va_Ql Φ (fun u t => Po D cy A (mw u) t) A) args s MC MS A) (F0 m 57 ls [])
def Iw_mBl_median_22 (p : Program) (l : Launch) (e : Env) (s : State) (m : MethodId) (args : Array Value) (below : List Frame) (meth : Method) (c : Code) (D : va_G) (cy : Nat → ClassId) (A : Nat → Prop) (ad : Nat → Nat) (MC MS : Nat) (Φ : Int64 → Mm → Prop) (k : Nat → Nat → Mm → Nat → Int32 → Nat → Int32 → Prop) : Prop :=
  ∀ (κ σ : Nat) (M : Mm) (x1 : Nat) (x2 : Int32) (x3 : Nat) (x4 : Int32), k κ σ M x1 x2 x3 x4 → κ ≤ MC → σ ≤ MS → ∀ (H : Heap) (locs : List Loc) (ls : Array Slot), va_P D classes (mw M) H → va_D A (mw M) → va_S A s.heap H locs → lv_has ls 5 [(1, .ref x1), (2, .int x2), (3, .ref x3), (4, .int x4)] → W p l e (rmw_mBl_median MC MS) s m args below meth c H locs κ σ (MQ below (va_Ql Φ (fun u t => Po D cy A (mw u) t) A) args s MC MS A) (F0 m 22 ls [])
def Iw_mBl_median_9 (p : Program) (l : Launch) (e : Env) (s : State) (m : MethodId) (args : Array Value) (below : List Frame) (meth : Method) (c : Code) (D : va_G) (cy : Nat → ClassId) (A : Nat → Prop) (ad : Nat → Nat) (MC MS : Nat) (Φ : Int64 → Mm → Prop) (k : Nat → Nat → Mm → Nat → Int32 → Option Nat → Prop) : Prop :=
  ∀ (κ σ : Nat) (M : Mm) (x1 : Nat) (x2 : Int32) (x3 : Option Nat), k κ σ M x1 x2 x3 → κ ≤ MC → σ ≤ MS → ∀ (H : Heap) (locs : List Loc) (ls : Array Slot), va_P D classes (mw M) H → va_D A (mw M) → va_S A s.heap H locs → lv_has ls 5 [(1, .ref x1), (2, .int x2), (3, va_rf x3)] → W p l e (rmw_mBl_median MC MS) s m args below meth c H locs κ σ (MQ below (va_Ql Φ (fun u t => Po D cy A (mw u) t) A) args s MC MS A) (F0 m 9 ls [])
def Iw_mBl_median_e (p : Program) (l : Launch) (e : Env) (s : State) (m : MethodId) (args : Array Value) (below : List Frame) (meth : Method) (c : Code) (D : va_G) (cy : Nat → ClassId) (A : Nat → Prop) (ad : Nat → Nat) (MC MS : Nat) (Φ : Int64 → Mm → Prop) (k : Nat → Nat → Mm → Nat → Prop) : Prop :=
  ∀ (κ σ : Nat) (M : Mm) (a0 : Nat), k κ σ M a0 → κ ≤ MC → σ ≤ MS → ∀ (H : Heap) (locs : List Loc) (ls : Array Slot), va_P D classes (mw M) H → va_D A (mw M) → va_S A s.heap H locs → lv_has ls 5 [(0, .ref a0)] → W p l e (rmw_mBl_median MC MS) s m args below meth c H locs κ σ (MQ below (va_Ql Φ (fun u t => Po D cy A (mw u) t) A) args s MC MS A) (F0 m 0 ls [])
def xv_mBl_median_57 (fu MC MS : Nat) (cy : Nat → ClassId) (ad : Nat → Nat) (Φ : Int64 → Mm → Prop) (k_9 : Nat → Nat → Mm → Nat → Int32 → Option Nat → Prop) (κ σ : Nat) (M : Mm) (x1 : Nat) (x2 : Int32) (x3 : Nat) (x4 : Int32) : Prop :=
  mgj M x3 1 5 fun v1 => msj M x1 (cy 2) x4 v1 fun M2 => bnd (x2 + (1 : Int32)) fun v3 => mgr M2 x3 1 0 fun r4 => osp r4 (k_9 κ σ M2 x1 v3 Option.none) fun q5 => k_9 κ σ M2 x1 v3 (some q5)
set_option maxHeartbeats 8000000 in
set_option maxRecDepth 100000 in
theorem wv_mBl_median_57 {p : Program} {l : Launch} {e : Env} {s : State} {m : MethodId} {args : Array Value} {below : List Frame} {meth : Method} {c : Code} {D : va_G} {cy : Nat → ClassId} {A : Nat → Prop} {ad : Nat → Nat} {MC MS : Nat} {Φ : Int64 → Mm → Prop} {fu : Nat} {k_9 : Nat → Nat → Mm → Nat → Int32 → Option Nat → Prop} (F : Fx p s m args meth c b_Bl_median 5 "CoinKeeper$Block" "median" (some .long) D cy ad A) (hk_9 : Iw_mBl_median_9 p l e s m args below meth c D cy A ad MC MS Φ k_9) : Iw_mBl_median_57 p l e s m args below meth c D cy A ad MC MS Φ (xv_mBl_median_57 fu MC MS cy ad Φ k_9) := by
  obtain ⟨hx, hb, hr, hml, hown, hts, hlocks, hK, hA, hSt, hnm, hex⟩ := id F
  intro κ σ M x1 x2 x3 x4 hf hkc hks H locs ls hP hD hS hl
  unfold xv_mBl_median_57 at hf
  refine lv_aload_n hx hb d_Bl_median_57 rfl (lv_at hl 0 rfl) ?_
  refine lv_iload hx hb d_Bl_median_58 (lv_at hl 3 rfl) ?_
  refine lv_aload_n hx hb d_Bl_median_60 rfl (lv_at hl 2 rfl) ?_
  obtain ⟨fs_, hm_, v1, hv_, hf⟩ := hf
  obtain ⟨ix_, hi_⟩ := m_ix hm_
  refine va_get (D := D) (ci := 1) (v := .long v1) (C := "CoinKeeper$Block") (T := F_1) (N := 12) hx hb hts i_1 hown hK hP ix_ hi_ rfl 5 (by decide) (hts _ gw_402) (fun _ h9 => h9) hv_ d_Bl_median_61 ?_
  clear hv_ hi_ hm_
  obtain ⟨n_, f_, hm_, hin_, hf⟩ := hf
  obtain ⟨ix_, hi_⟩ := m_ix hm_
  have hE_ := m_set (y := .inl (cy 2, n_, .inr (.inl (vp_updL f_ x4.toNatClampNeg v1)))) hD hi_
  refine va_last hx hb hK hP hD hS ix_ 2 hi_ rfl (inb_in hin_) d_Bl_median_64 (fun H locs hP hD hS => ?_)
  obtain ⟨M2, eM_⟩ : ∃ z, z = mu M x1 (.inl (cy 2, n_, .inr (.inl (vp_updL f_ x4.toNatClampNeg v1)))) := ⟨_, rfl⟩
  rw [← eM_] at hf hE_
  rw [hE_] at hP hD
  clear hE_ eM_ hi_ hm_
  obtain ⟨v3, ev, hf⟩ := bnP hf
  refine lv_iinc (v := v3) (lv' := [(2, .int v3), (1, .ref x1), (3, .ref x3), (4, .int x4)]) hx hb d_Bl_median_65 hl (k := 1) rfl (by rw [ev]; rfl) (by decide) rfl (fun ls hl => ?_)
  clear ev
  refine lv_aload_n hx hb d_Bl_median_68 rfl (lv_at hl 2 rfl) ?_
  obtain ⟨fs_, hm_, r4, hv_, hf⟩ := hf
  obtain ⟨ix_, hi_⟩ := m_ix hm_
  refine va_get (D := D) (ci := 1) (v := va_rf r4) (C := "CoinKeeper$Block") (T := F_1) (N := 12) hx hb hts i_1 hown hK hP ix_ hi_ rfl 0 (by decide) (hts _ gw_390) (fun _ h9 => h9) hv_ d_Bl_median_69 ?_
  clear hv_ hi_ hm_
  have hq_ := ospp hf
  clear hf
  rcases hq_ with ⟨rfl, hf⟩ | ⟨q5, rfl, hf⟩
  · refine W.eq (g2 := F0 m 72 ls [.null]) rfl ?_
    refine lv_astore_nN (lv' := [(3, .null), (2, .int v3), (1, .ref x1), (4, .int x4)]) hx hb d_Bl_median_72 rfl hl (by decide) rfl (fun ls hl => ?_)
    refine lv_goto (tgt := 9) hx hb d_Bl_median_73 (by decide) ?_
    have hl : lv_has ls 5 [(1, .ref x1), (2, .int v3), (3, va_rf Option.none)] := lv_sub hl [2, 1, 0] rfl
    exact hk_9 _ _ _ _ _ _ hf hkc hks _ _ _ hP hD hS hl
  · refine W.eq (g2 := F0 m 72 ls [.ref q5]) rfl ?_
    refine lv_astore_n (lv' := [(3, .ref q5), (2, .int v3), (1, .ref x1), (4, .int x4)]) hx hb d_Bl_median_72 rfl hl (by decide) rfl (fun ls hl => ?_)
    refine lv_goto (tgt := 9) hx hb d_Bl_median_73 (by decide) ?_
    have hl : lv_has ls 5 [(1, .ref x1), (2, .int v3), (3, va_rf (some q5))] := lv_sub hl [2, 1, 0] rfl
    exact hk_9 _ _ _ _ _ _ hf hkc hks _ _ _ hP hD hS hl
def xv_mBl_median_22 (fu MC MS : Nat) (cy : Nat → ClassId) (ad : Nat → Nat) (Φ : Int64 → Mm → Prop) (k_9 : Nat → Nat → Mm → Nat → Int32 → Option Nat → Prop) (k_22 : Nat → Nat → Mm → Nat → Int32 → Nat → Int32 → Prop) (κ σ : Nat) (M : Mm) (x1 : Nat) (x2 : Int32) (x3 : Nat) (x4 : Int32) : Prop :=
  if x4 ≤ 0 then (xv_mBl_median_57 fu MC MS cy ad Φ k_9 κ σ M x1 x2 x3 x4) else (bnd (x4 - (1 : Int32)) fun v1 => maj M x1 (cy 2) v1 fun v2 => mgj M x3 1 5 fun v3 => if (lg_cmp v2 v3) ≤ 0 then (xv_mBl_median_57 fu MC MS cy ad Φ k_9 κ σ M x1 x2 x3 x4) else (bnd (x4 - (1 : Int32)) fun v4 => maj M x1 (cy 2) v4 fun v5 => msj M x1 (cy 2) x4 v5 fun M6 => bnd (x4 + (-1 : Int32)) fun v7 => k_22 κ σ M6 x1 x2 x3 v7))
set_option maxHeartbeats 8000000 in
set_option maxRecDepth 100000 in
theorem wv_mBl_median_22 {p : Program} {l : Launch} {e : Env} {s : State} {m : MethodId} {args : Array Value} {below : List Frame} {meth : Method} {c : Code} {D : va_G} {cy : Nat → ClassId} {A : Nat → Prop} {ad : Nat → Nat} {MC MS : Nat} {Φ : Int64 → Mm → Prop} {fu : Nat} {k_9 : Nat → Nat → Mm → Nat → Int32 → Option Nat → Prop} {k_22 : Nat → Nat → Mm → Nat → Int32 → Nat → Int32 → Prop} (F : Fx p s m args meth c b_Bl_median 5 "CoinKeeper$Block" "median" (some .long) D cy ad A) (hk_9 : Iw_mBl_median_9 p l e s m args below meth c D cy A ad MC MS Φ k_9) (hk_22 : Iw_mBl_median_22 p l e s m args below meth c D cy A ad MC MS Φ k_22) : Iw_mBl_median_22 p l e s m args below meth c D cy A ad MC MS Φ (xv_mBl_median_22 fu MC MS cy ad Φ k_9 k_22) := by
  obtain ⟨hx, hb, hr, hml, hown, hts, hlocks, hK, hA, hSt, hnm, hex⟩ := id F
  intro κ σ M x1 x2 x3 x4 hf hkc hks H locs ls hP hD hS hl
  unfold xv_mBl_median_22 at hf
  refine lv_iload hx hb d_Bl_median_22 (lv_at hl 3 rfl) ?_
  refine lv_if_le (tgt := 57) hx hb d_Bl_median_24 (by decide) (fun cx => ?_) (fun cx => ?_)
  · have hf := ifpP cx hf
    exact wv_mBl_median_57 (fu := fu) F hk_9 _ _ _ _ _ _ _ hf hkc hks _ _ _ hP hD hS (lv_sub hl [0, 1, 2, 3] rfl)
  · have hf := ifnP cx hf
    refine lv_aload_n hx hb d_Bl_median_27 rfl (lv_at hl 0 rfl) ?_
    refine lv_iload hx hb d_Bl_median_28 (lv_at hl 3 rfl) ?_
    refine lv_iconst (v := 1) hx hb d_Bl_median_30 (by decide) ?_
    refine lv_isub hx hb d_Bl_median_31 ?_
    refine lv_topi (fun v1 ev => ?_)
    have hf := bnQ ev hf
    clear ev
    obtain ⟨n_, f_, hm_, hin_, hf⟩ := hf
    obtain ⟨ix_, hi_⟩ := m_ix hm_
    refine va_lald hx hb hK hP ix_ 2 hi_ rfl (inb_in hin_) d_Bl_median_32 ?_
    obtain ⟨v2, ev⟩ : ∃ z, z = f_ v1.toNatClampNeg := ⟨_, rfl⟩
    rw [← ev] at hf ⊢
    clear ev hi_ hm_ hin_
    refine lv_aload_n hx hb d_Bl_median_33 rfl (lv_at hl 2 rfl) ?_
    obtain ⟨fs_, hm_, v3, hv_, hf⟩ := hf
    obtain ⟨ix_, hi_⟩ := m_ix hm_
    refine va_get (D := D) (ci := 1) (v := .long v3) (C := "CoinKeeper$Block") (T := F_1) (N := 12) hx hb hts i_1 hown hK hP ix_ hi_ rfl 5 (by decide) (hts _ gw_402) (fun _ h9 => h9) hv_ d_Bl_median_34 ?_
    clear hv_ hi_ hm_
    refine W.lcmp hx hb d_Bl_median_37 ?_
    refine lv_if_le (tgt := 57) hx hb d_Bl_median_38 (by decide) (fun cx => ?_) (fun cx => ?_)
    · have hf := ifpP cx hf
      exact wv_mBl_median_57 (fu := fu) F hk_9 _ _ _ _ _ _ _ hf hkc hks _ _ _ hP hD hS (lv_sub hl [0, 1, 2, 3] rfl)
    · have hf := ifnP cx hf
      refine lv_aload_n hx hb d_Bl_median_41 rfl (lv_at hl 0 rfl) ?_
      refine lv_iload hx hb d_Bl_median_42 (lv_at hl 3 rfl) ?_
      refine lv_aload_n hx hb d_Bl_median_44 rfl (lv_at hl 0 rfl) ?_
      refine lv_iload hx hb d_Bl_median_45 (lv_at hl 3 rfl) ?_
      refine lv_iconst (v := 1) hx hb d_Bl_median_47 (by decide) ?_
      refine lv_isub hx hb d_Bl_median_48 ?_
      refine lv_topi (fun v4 ev => ?_)
      have hf := bnQ ev hf
      clear ev
      obtain ⟨n_, f_, hm_, hin_, hf⟩ := hf
      obtain ⟨ix_, hi_⟩ := m_ix hm_
      refine va_lald hx hb hK hP ix_ 2 hi_ rfl (inb_in hin_) d_Bl_median_49 ?_
      obtain ⟨v5, ev⟩ : ∃ z, z = f_ v4.toNatClampNeg := ⟨_, rfl⟩
      rw [← ev] at hf ⊢
      clear ev hi_ hm_ hin_
      obtain ⟨n_, f_, hm_, hin_, hf⟩ := hf
      obtain ⟨ix_, hi_⟩ := m_ix hm_
      have hE_ := m_set (y := .inl (cy 2, n_, .inr (.inl (vp_updL f_ x4.toNatClampNeg v5)))) hD hi_
      refine va_last hx hb hK hP hD hS ix_ 2 hi_ rfl (inb_in hin_) d_Bl_median_50 (fun H locs hP hD hS => ?_)
      obtain ⟨M6, eM_⟩ : ∃ z, z = mu M x1 (.inl (cy 2, n_, .inr (.inl (vp_updL f_ x4.toNatClampNeg v5)))) := ⟨_, rfl⟩
      rw [← eM_] at hf hE_
      rw [hE_] at hP hD
      clear hE_ eM_ hi_ hm_
      obtain ⟨v7, ev, hf⟩ := bnP hf
      refine lv_iinc (v := v7) (lv' := [(4, .int v7), (1, .ref x1), (2, .int x2), (3, .ref x3)]) hx hb d_Bl_median_51 hl (k := 3) rfl (by rw [ev]; rfl) (by decide) rfl (fun ls hl => ?_)
      clear ev
      refine lv_goto (tgt := 22) hx hb d_Bl_median_54 (by decide) ?_
      exact hk_22 _ _ _ _ _ _ _ hf hkc hks _ _ _ hP hD hS (lv_sub hl [1, 2, 3, 0] rfl)
def xw_mBl_median_22 (fu MC MS : Nat) (cy : Nat → ClassId) (ad : Nat → Nat) (Φ : Int64 → Mm → Prop) (k_9 : Nat → Nat → Mm → Nat → Int32 → Option Nat → Prop) : Nat → Nat → Nat → Mm → Nat → Int32 → Nat → Int32 → Prop
  | 0 => fun _ _ _ _ _ _ _ => False
  | n + 1 => xv_mBl_median_22 fu MC MS cy ad Φ k_9 (xw_mBl_median_22 fu MC MS cy ad Φ k_9 n)
theorem ww_mBl_median_22 {p : Program} {l : Launch} {e : Env} {s : State} {m : MethodId} {args : Array Value} {below : List Frame} {meth : Method} {c : Code} {D : va_G} {cy : Nat → ClassId} {A : Nat → Prop} {ad : Nat → Nat} {MC MS : Nat} {Φ : Int64 → Mm → Prop} {fu : Nat} {k_9 : Nat → Nat → Mm → Nat → Int32 → Option Nat → Prop} (F : Fx p s m args meth c b_Bl_median 5 "CoinKeeper$Block" "median" (some .long) D cy ad A) (hk_9 : Iw_mBl_median_9 p l e s m args below meth c D cy A ad MC MS Φ k_9) : ∀ n : Nat, Iw_mBl_median_22 p l e s m args below meth c D cy A ad MC MS Φ (xw_mBl_median_22 fu MC MS cy ad Φ k_9 n)
  | 0 => fun _ _ _ _ _ _ _ hf => False.elim hf
  | n + 1 => wv_mBl_median_22 F hk_9 (ww_mBl_median_22 F hk_9 n)
def xv_mBl_median_9 (fu MC MS : Nat) (cy : Nat → ClassId) (ad : Nat → Nat) (Φ : Int64 → Mm → Prop) (k_9 : Nat → Nat → Mm → Nat → Int32 → Option Nat → Prop) (κ σ : Nat) (M : Mm) (x1 : Nat) (x2 : Int32) (x3 : Option Nat) : Prop :=
  osp x3 (bnd (x2 / (2 : Int32)) fun v1 => maj M x1 (cy 2) v1 fun v2 => Φ v2 M) fun x3a => if (11 : Int32) ≤ x2 then (bnd (x2 / (2 : Int32)) fun v3 => maj M x1 (cy 2) v3 fun v4 => Φ v4 M) else (xw_mBl_median_22 fu MC MS cy ad Φ k_9 fu κ σ M x1 x2 x3a x2)
set_option maxHeartbeats 8000000 in
set_option maxRecDepth 100000 in
theorem wv_mBl_median_9 {p : Program} {l : Launch} {e : Env} {s : State} {m : MethodId} {args : Array Value} {below : List Frame} {meth : Method} {c : Code} {D : va_G} {cy : Nat → ClassId} {A : Nat → Prop} {ad : Nat → Nat} {MC MS : Nat} {Φ : Int64 → Mm → Prop} {fu : Nat} {k_9 : Nat → Nat → Mm → Nat → Int32 → Option Nat → Prop} (F : Fx p s m args meth c b_Bl_median 5 "CoinKeeper$Block" "median" (some .long) D cy ad A) (hk_9 : Iw_mBl_median_9 p l e s m args below meth c D cy A ad MC MS Φ k_9) : Iw_mBl_median_9 p l e s m args below meth c D cy A ad MC MS Φ (xv_mBl_median_9 fu MC MS cy ad Φ k_9) := by
  obtain ⟨hx, hb, hr, hml, hown, hts, hlocks, hK, hA, hSt, hnm, hex⟩ := id F
  intro κ σ M x1 x2 x3 hf hkc hks H locs ls hP hD hS hl
  unfold xv_mBl_median_9 at hf
  have hq_ := ospp hf
  clear hf
  rcases hq_ with ⟨rfl, hf⟩ | ⟨x3a, rfl, hf⟩
  · have hl : lv_has ls 5 [(1, .ref x1), (2, .int x2), (3, .null)] := hl
    refine lv_aload_nN hx hb d_Bl_median_9 rfl (lv_at hl 2 rfl) ?_
    refine lv_ifnullN (tgt := 76) hx hb d_Bl_median_10 (by decide) ?_
    refine lv_aload_n hx hb d_Bl_median_76 rfl (lv_at hl 0 rfl) ?_
    refine lv_iload_n hx hb d_Bl_median_77 rfl (lv_at hl 1 rfl) ?_
    refine lv_iconst (v := 2) hx hb d_Bl_median_78 (by decide) ?_
    refine lv_idiv hx hb d_Bl_median_79 (by decide) ?_
    refine lv_topi (fun v1 ev => ?_)
    have hf := bnQ ev hf
    clear ev
    obtain ⟨n_, f_, hm_, hin_, hf⟩ := hf
    obtain ⟨ix_, hi_⟩ := m_ix hm_
    refine va_lald hx hb hK hP ix_ 2 hi_ rfl (inb_in hin_) d_Bl_median_80 ?_
    obtain ⟨v2, ev⟩ : ∃ z, z = f_ v1.toNatClampNeg := ⟨_, rfl⟩
    rw [← ev] at hf ⊢
    clear ev hi_ hm_ hin_
    refine W.widen (k := MC) (n := MS) hkc hks ?_
    exact m_rl hf hx hb hr hlocks hK hP hD hS d_Bl_median_81
  · have hl : lv_has ls 5 [(1, .ref x1), (2, .int x2), (3, .ref x3a)] := hl
    refine lv_aload_n hx hb d_Bl_median_9 rfl (lv_at hl 2 rfl) ?_
    refine lv_ifnull hx hb d_Bl_median_10 ?_
    refine lv_iload_n hx hb d_Bl_median_13 rfl (lv_at hl 1 rfl) ?_
    refine lv_bipush (v := 11) hx hb d_Bl_median_14 (by decide) ?_
    refine lv_icmp_ge (tgt := 76) hx hb d_Bl_median_16 (by decide) (fun cx => ?_) (fun cx => ?_)
    · have hf := ifpP cx hf
      refine lv_aload_n hx hb d_Bl_median_76 rfl (lv_at hl 0 rfl) ?_
      refine lv_iload_n hx hb d_Bl_median_77 rfl (lv_at hl 1 rfl) ?_
      refine lv_iconst (v := 2) hx hb d_Bl_median_78 (by decide) ?_
      refine lv_idiv hx hb d_Bl_median_79 (by decide) ?_
      refine lv_topi (fun v3 ev => ?_)
      have hf := bnQ ev hf
      clear ev
      obtain ⟨n_, f_, hm_, hin_, hf⟩ := hf
      obtain ⟨ix_, hi_⟩ := m_ix hm_
      refine va_lald hx hb hK hP ix_ 2 hi_ rfl (inb_in hin_) d_Bl_median_80 ?_
      obtain ⟨v4, ev⟩ : ∃ z, z = f_ v3.toNatClampNeg := ⟨_, rfl⟩
      rw [← ev] at hf ⊢
      clear ev hi_ hm_ hin_
      refine W.widen (k := MC) (n := MS) hkc hks ?_
      exact m_rl hf hx hb hr hlocks hK hP hD hS d_Bl_median_81
    · have hf := ifnP cx hf
      refine lv_iload_n hx hb d_Bl_median_19 rfl (lv_at hl 1 rfl) ?_
      refine lv_istore (lv' := [(4, .int x2), (1, .ref x1), (2, .int x2), (3, .ref x3a)]) hx hb d_Bl_median_20 hl (by decide) rfl (fun ls hl => ?_)
      exact ww_mBl_median_22 F hk_9 fu _ _ _ _ _ _ _ hf hkc hks _ _ _ hP hD hS (lv_sub hl [1, 2, 3, 0] rfl)
def xw_mBl_median_9 (fu MC MS : Nat) (cy : Nat → ClassId) (ad : Nat → Nat) (Φ : Int64 → Mm → Prop) : Nat → Nat → Nat → Mm → Nat → Int32 → Option Nat → Prop
  | 0 => fun _ _ _ _ _ _ => False
  | n + 1 => xv_mBl_median_9 fu MC MS cy ad Φ (xw_mBl_median_9 fu MC MS cy ad Φ n)
theorem ww_mBl_median_9 {p : Program} {l : Launch} {e : Env} {s : State} {m : MethodId} {args : Array Value} {below : List Frame} {meth : Method} {c : Code} {D : va_G} {cy : Nat → ClassId} {A : Nat → Prop} {ad : Nat → Nat} {MC MS : Nat} {Φ : Int64 → Mm → Prop} {fu : Nat} (F : Fx p s m args meth c b_Bl_median 5 "CoinKeeper$Block" "median" (some .long) D cy ad A) : ∀ n : Nat, Iw_mBl_median_9 p l e s m args below meth c D cy A ad MC MS Φ (xw_mBl_median_9 fu MC MS cy ad Φ n)
  | 0 => fun _ _ _ _ _ _ hf => False.elim hf
  | n + 1 => wv_mBl_median_9 F (ww_mBl_median_9 F n)
def xw_mBl_median (fu MC MS : Nat) (cy : Nat → ClassId) (ad : Nat → Nat) (Φ : Int64 → Mm → Prop) (κ σ : Nat) (M : Mm) (a0 : Nat) : Prop :=
  (¬ (11 : Int32) < 0 ∧ (11 : Int32).toNatClampNeg * componentBytes .long ≤ 536870912) ∧ (κ + 1 ≤ MC ∧ σ + (11 : Int32).toNatClampNeg ≤ MS) ∧ mnw M (.inl (cy 2, ((11 : Int32).toNatClampNeg, .inr (.inl (fun _ => 0))))) fun w1 M2 => xw_mBl_median_9 fu MC MS cy ad Φ fu (κ + 1) (σ + (11 : Int32).toNatClampNeg) M2 w1 (0 : Int32) (some a0)
set_option maxHeartbeats 8000000 in
set_option maxRecDepth 100000 in
theorem wew_mBl_median {p : Program} {l : Launch} {e : Env} {s : State} {m : MethodId} {args : Array Value} {below : List Frame} {meth : Method} {c : Code} {D : va_G} {cy : Nat → ClassId} {A : Nat → Prop} {ad : Nat → Nat} {MC MS : Nat} {Φ : Int64 → Mm → Prop} {fu : Nat} (F : Fx p s m args meth c b_Bl_median 5 "CoinKeeper$Block" "median" (some .long) D cy ad A) : Iw_mBl_median_e p l e s m args below meth c D cy A ad MC MS Φ (xw_mBl_median fu MC MS cy ad Φ) := by
  obtain ⟨hx, hb, hr, hml, hown, hts, hlocks, hK, hA, hSt, hnm, hex⟩ := id F
  intro κ σ M a0 hf hkc hks H locs ls hP hD hS hl
  unfold xw_mBl_median at hf
  refine lv_bipush (v := 11) hx hb d_Bl_median_0 (by decide) ?_
  obtain ⟨⟨hn_, hby_⟩, hf⟩ := hf
  obtain ⟨⟨hkc, hks⟩, hf⟩ := hf
  refine q_newa (ty := .long) (a0 := ((11 : Int32).toNatClampNeg, .inr (.inl (fun _ => 0)))) hx hb hts gw_98 rfl hK hP hD hS hA 2 rfl (fun _ h => h) (fun _ => rfl) hn_ rfl hby_ hkc hks d_Bl_median_2 (fun w1 H hP hD hS => ?_)
  have hE_ := m_push (x := .inl (cy 2, ((11 : Int32).toNatClampNeg, .inr (.inl (fun _ => 0))))) hD
  have hf := hf w1 (va_pl_fresh2 (X := []) (L := M.1) (f := M.2) hD)
  obtain ⟨M2, eM_⟩ : ∃ z, z = mp M w1 (.inl (cy 2, ((11 : Int32).toNatClampNeg, .inr (.inl (fun _ => 0))))) := ⟨_, rfl⟩
  rw [← eM_] at hf hE_
  rw [hE_] at hP hD
  clear hE_ eM_
  refine lv_astore_n (lv' := [(1, .ref w1), (0, .ref a0)]) hx hb d_Bl_median_4 rfl hl (by decide) rfl (fun ls hl => ?_)
  refine lv_iconst (v := 0) hx hb d_Bl_median_5 (by decide) ?_
  refine lv_istore_n (lv' := [(2, .int (0 : Int32)), (1, .ref w1), (0, .ref a0)]) hx hb d_Bl_median_6 rfl hl (by decide) rfl (fun ls hl => ?_)
  refine lv_aload_n hx hb d_Bl_median_7 rfl (lv_at hl 2 rfl) ?_
  refine lv_astore_n (lv' := [(3, .ref a0), (2, .int (0 : Int32)), (1, .ref w1), (0, .ref a0)]) hx hb d_Bl_median_8 rfl hl (by decide) rfl (fun ls hl => ?_)
  have hl : lv_has ls 5 [(1, .ref w1), (2, .int (0 : Int32)), (3, va_rf (some a0))] := lv_sub hl [2, 1, 0] rfl
  exact ww_mBl_median_9 F fu _ _ _ _ _ _ hf hkc hks _ _ _ hP hD hS hl
theorem cw_mBl_median (l : Launch) (D : va_G) (cy : Nat → ClassId) (ad : Nat → Nat) (fu MC MS : Nat) (a0 : Nat) (M : Mm) (Φ : Int64 → Mm → Prop) (hf : xw_mBl_median fu MC MS cy ad Φ 0 0 M a0) (sz : Nat) : Met l ({ cls := "CoinKeeper$Block", name := "median", desc := "()J" } : Jvm.MethodName) (.code ({ cls := "CoinKeeper$Block", name := "median", desc := "()J" } : Jvm.MethodName) b_Bl_median 5 (some .long) :: gw) (rmw_mBl_median MC MS) (va_Pc [.ref a0] (Pr D cy ad (mw M) sz)) (va_Ql Φ (fun u t => Po D cy (va_A (mw M) sz) (mw u) t) (va_A (mw M) sz)) MC MS (va_A (mw M) sz) :=
  q_met (Qc := fun A => va_Ql Φ (fun u t => Po D cy A (mw u) t) A) (by decide) rfl rfl (Nat.le_of_ble_eq_true rfl) (fun p e s m below meth c ls F hP hD hS hl => wew_mBl_median (fu := fu) F 0 0 M a0 hf (Nat.zero_le _) (Nat.zero_le _) _ _ _ hP hD hS hl) sz
abbrev b_Al_size : ByteArray := prog_28_method_8_code
theorem d_Al_size_0 : decode b_Al_size 0 = .ok (.aload_n 0, 1) := by decide +kernel
theorem d_Al_size_1 : decode b_Al_size 1 = .ok (.getfield 48, 3) := by decide +kernel
theorem d_Al_size_4 : decode b_Al_size 4 = .ok (.ireturn, 1) := by decide +kernel
abbrev rmw_mAl_size (MC MS : Nat) : Room := { frames := 0, cells := MC, slots := MS, locals := 0 }
def Iw_mAl_size_e (p : Program) (l : Launch) (e : Env) (s : State) (m : MethodId) (args : Array Value) (below : List Frame) (meth : Method) (c : Code) (D : va_G) (cy : Nat → ClassId) (A : Nat → Prop) (ad : Nat → Nat) (MC MS : Nat) (Φ : Int32 → Mm → Prop) (k : Nat → Nat → Mm → Nat → Prop) : Prop :=
  ∀ (κ σ : Nat) (M : Mm) (a0 : Nat), k κ σ M a0 → κ ≤ MC → σ ≤ MS → ∀ (H : Heap) (locs : List Loc) (ls : Array Slot), va_P D classes (mw M) H → va_D A (mw M) → va_S A s.heap H locs → lv_has ls 1 [(0, .ref a0)] → W p l e (rmw_mAl_size MC MS) s m args below meth c H locs κ σ (MQ below (va_Qi Φ (fun u t => Po D cy A (mw u) t) A) args s MC MS A) (F0 m 0 ls [])
def xw_mAl_size (fu MC MS : Nat) (cy : Nat → ClassId) (ad : Nat → Nat) (Φ : Int32 → Mm → Prop) (κ σ : Nat) (M : Mm) (a0 : Nat) : Prop :=
  mgi M a0 11 1 fun v1 => Φ v1 M
set_option maxHeartbeats 8000000 in
set_option maxRecDepth 100000 in
theorem wew_mAl_size {p : Program} {l : Launch} {e : Env} {s : State} {m : MethodId} {args : Array Value} {below : List Frame} {meth : Method} {c : Code} {D : va_G} {cy : Nat → ClassId} {A : Nat → Prop} {ad : Nat → Nat} {MC MS : Nat} {Φ : Int32 → Mm → Prop} {fu : Nat} (F : Fx p s m args meth c b_Al_size 1 "java/util/ArrayList" "size" (some .int) D cy ad A) : Iw_mAl_size_e p l e s m args below meth c D cy A ad MC MS Φ (xw_mAl_size fu MC MS cy ad Φ) := by
  obtain ⟨hx, hb, hr, hml, hown, hts, hlocks, hK, hA, hSt, hnm, hex⟩ := id F
  intro κ σ M a0 hf hkc hks H locs ls hP hD hS hl
  unfold xw_mAl_size at hf
  refine lv_aload_n hx hb d_Al_size_0 rfl (lv_at hl 0 rfl) ?_
  obtain ⟨fs_, hm_, v1, hv_, hf⟩ := hf
  obtain ⟨ix_, hi_⟩ := m_ix hm_
  refine va_get (D := D) (ci := 11) (v := .int v1) (C := "java/util/ArrayList") (T := F_11) (N := 3) hx hb hts i_11 hown hK hP ix_ hi_ rfl 1 (by decide) (hts _ gw_352) (fun _ h9 => h9) hv_ d_Al_size_1 ?_
  clear hv_ hi_ hm_
  refine W.widen (k := MC) (n := MS) hkc hks ?_
  exact m_ri hf hx hb hr hlocks hK hP hD hS d_Al_size_4
theorem cw_mAl_size (l : Launch) (D : va_G) (cy : Nat → ClassId) (ad : Nat → Nat) (fu MC MS : Nat) (a0 : Nat) (M : Mm) (Φ : Int32 → Mm → Prop) (hf : xw_mAl_size fu MC MS cy ad Φ 0 0 M a0) (sz : Nat) : Met l ({ cls := "java/util/ArrayList", name := "size", desc := "()I" } : Jvm.MethodName) (.code ({ cls := "java/util/ArrayList", name := "size", desc := "()I" } : Jvm.MethodName) b_Al_size 1 (some .int) :: gw) (rmw_mAl_size MC MS) (va_Pc [.ref a0] (Pr D cy ad (mw M) sz)) (va_Qi Φ (fun u t => Po D cy (va_A (mw M) sz) (mw u) t) (va_A (mw M) sz)) MC MS (va_A (mw M) sz) :=
  q_met (Qc := fun A => va_Qi Φ (fun u t => Po D cy A (mw u) t) A) (by decide) rfl rfl (Nat.le_of_ble_eq_true rfl) (fun p e s m below meth c ls F hP hD hS hl => wew_mAl_size (fu := fu) F 0 0 M a0 hf (Nat.zero_le _) (Nat.zero_le _) _ _ _ hP hD hS hl) sz
abbrev b_Pq_checkIndex : ByteArray := prog_37_method_11_code
theorem d_Pq_checkIndex_0 : decode b_Pq_checkIndex 0 = .ok (.iload_n 0, 1) := by decide +kernel
theorem d_Pq_checkIndex_1 : decode b_Pq_checkIndex 1 = .ok (.ifCond .lt 8, 3) := by decide +kernel
theorem d_Pq_checkIndex_4 : decode b_Pq_checkIndex 4 = .ok (.iload_n 0, 1) := by decide +kernel
theorem d_Pq_checkIndex_5 : decode b_Pq_checkIndex 5 = .ok (.iload_n 1, 1) := by decide +kernel
theorem d_Pq_checkIndex_6 : decode b_Pq_checkIndex 6 = .ok (.if_icmp .lt 10, 3) := by decide +kernel
theorem d_Pq_checkIndex_9 : decode b_Pq_checkIndex 9 = .ok (.aload_n 2, 1) := by decide +kernel
theorem d_Pq_checkIndex_10 : decode b_Pq_checkIndex 10 = .ok (.iload_n 0, 1) := by decide +kernel
theorem d_Pq_checkIndex_11 : decode b_Pq_checkIndex 11 = .ok (.iload_n 1, 1) := by decide +kernel
theorem d_Pq_checkIndex_12 : decode b_Pq_checkIndex 12 = .ok (.invokestatic 95, 3) := by decide +kernel
theorem d_Pq_checkIndex_15 : decode b_Pq_checkIndex 15 = .ok (.athrow, 1) := by decide +kernel
theorem d_Pq_checkIndex_16 : decode b_Pq_checkIndex 16 = .ok (.iload_n 0, 1) := by decide +kernel
theorem d_Pq_checkIndex_17 : decode b_Pq_checkIndex 17 = .ok (.ireturn, 1) := by decide +kernel
abbrev rmw_mPq_checkIndex_z2 (MC MS : Nat) : Room := { frames := 0, cells := MC, slots := MS, locals := 0 }
def Iw_mPq_checkIndex_z2_9 (p : Program) (l : Launch) (e : Env) (s : State) (m : MethodId) (args : Array Value) (below : List Frame) (meth : Method) (c : Code) (D : va_G) (cy : Nat → ClassId) (A : Nat → Prop) (ad : Nat → Nat) (MC MS : Nat) (Φ : Int32 → Mm → Prop) (k : Nat → Nat → Mm → Int32 → Int32 → Prop) : Prop :=
  ∀ (κ σ : Nat) (M : Mm) (x0 : Int32) (x1 : Int32), k κ σ M x0 x1 → κ ≤ MC → σ ≤ MS → ∀ (H : Heap) (locs : List Loc) (ls : Array Slot), va_P D classes (mw M) H → va_D A (mw M) → va_S A s.heap H locs → lv_has ls 3 [(0, .int x0), (1, .int x1), (2, .null)] → W p l e (rmw_mPq_checkIndex_z2 MC MS) s m args below meth c H locs κ σ (MQ below (va_Qi Φ (fun u t => Po D cy A (mw u) t) A) args s MC MS A) (F0 m 9 ls [])
def Iw_mPq_checkIndex_z2_e (p : Program) (l : Launch) (e : Env) (s : State) (m : MethodId) (args : Array Value) (below : List Frame) (meth : Method) (c : Code) (D : va_G) (cy : Nat → ClassId) (A : Nat → Prop) (ad : Nat → Nat) (MC MS : Nat) (Φ : Int32 → Mm → Prop) (k : Nat → Nat → Mm → Int32 → Int32 → Prop) : Prop :=
  ∀ (κ σ : Nat) (M : Mm) (a0 : Int32) (a1 : Int32), k κ σ M a0 a1 → κ ≤ MC → σ ≤ MS → ∀ (H : Heap) (locs : List Loc) (ls : Array Slot), va_P D classes (mw M) H → va_D A (mw M) → va_S A s.heap H locs → lv_has ls 3 [(0, .int a0), (1, .int a1), (2, .null)] → W p l e (rmw_mPq_checkIndex_z2 MC MS) s m args below meth c H locs κ σ (MQ below (va_Qi Φ (fun u t => Po D cy A (mw u) t) A) args s MC MS A) (F0 m 0 ls [])
def xv_mPq_checkIndex_z2_9 (fu MC MS : Nat) (cy : Nat → ClassId) (ad : Nat → Nat) (Φ : Int32 → Mm → Prop) (κ σ : Nat) (M : Mm) (x0 : Int32) (x1 : Int32) : Prop :=
  False
set_option maxHeartbeats 8000000 in
set_option maxRecDepth 100000 in
theorem wv_mPq_checkIndex_z2_9 {p : Program} {l : Launch} {e : Env} {s : State} {m : MethodId} {args : Array Value} {below : List Frame} {meth : Method} {c : Code} {D : va_G} {cy : Nat → ClassId} {A : Nat → Prop} {ad : Nat → Nat} {MC MS : Nat} {Φ : Int32 → Mm → Prop} {fu : Nat} (F : Fx p s m args meth c b_Pq_checkIndex 3 "jdk/internal/util/Preconditions" "checkIndex" (some .int) D cy ad A) : Iw_mPq_checkIndex_z2_9 p l e s m args below meth c D cy A ad MC MS Φ (xv_mPq_checkIndex_z2_9 fu MC MS cy ad Φ) := by
  obtain ⟨hx, hb, hr, hml, hown, hts, hlocks, hK, hA, hSt, hnm, hex⟩ := id F
  intro κ σ M x0 x1 hf hkc hks H locs ls hP hD hS hl
  unfold xv_mPq_checkIndex_z2_9 at hf
  refine lv_aload_nN hx hb d_Pq_checkIndex_9 rfl (lv_at hl 2 rfl) ?_
  refine lv_iload_n hx hb d_Pq_checkIndex_10 rfl (lv_at hl 0 rfl) ?_
  refine lv_iload_n hx hb d_Pq_checkIndex_11 rfl (lv_at hl 1 rfl) ?_
  exact hf.elim
def xw_mPq_checkIndex_z2 (fu MC MS : Nat) (cy : Nat → ClassId) (ad : Nat → Nat) (Φ : Int32 → Mm → Prop) (κ σ : Nat) (M : Mm) (a0 : Int32) (a1 : Int32) : Prop :=
  if a0 < 0 then (xv_mPq_checkIndex_z2_9 fu MC MS cy ad Φ κ σ M a0 a1) else (if a0 < a1 then (Φ a0 M) else (xv_mPq_checkIndex_z2_9 fu MC MS cy ad Φ κ σ M a0 a1))
set_option maxHeartbeats 8000000 in
set_option maxRecDepth 100000 in
theorem wew_mPq_checkIndex_z2 {p : Program} {l : Launch} {e : Env} {s : State} {m : MethodId} {args : Array Value} {below : List Frame} {meth : Method} {c : Code} {D : va_G} {cy : Nat → ClassId} {A : Nat → Prop} {ad : Nat → Nat} {MC MS : Nat} {Φ : Int32 → Mm → Prop} {fu : Nat} (F : Fx p s m args meth c b_Pq_checkIndex 3 "jdk/internal/util/Preconditions" "checkIndex" (some .int) D cy ad A) : Iw_mPq_checkIndex_z2_e p l e s m args below meth c D cy A ad MC MS Φ (xw_mPq_checkIndex_z2 fu MC MS cy ad Φ) := by
  obtain ⟨hx, hb, hr, hml, hown, hts, hlocks, hK, hA, hSt, hnm, hex⟩ := id F
  intro κ σ M a0 a1 hf hkc hks H locs ls hP hD hS hl
  unfold xw_mPq_checkIndex_z2 at hf
  refine lv_iload_n hx hb d_Pq_checkIndex_0 rfl (lv_at hl 0 rfl) ?_
  refine lv_if_lt (tgt := 9) hx hb d_Pq_checkIndex_1 (by decide) (fun cx => ?_) (fun cx => ?_)
  · have hf := ifpP cx hf
    exact wv_mPq_checkIndex_z2_9 (fu := fu) F _ _ _ _ _ hf hkc hks _ _ _ hP hD hS (lv_sub hl [0, 1, 2] rfl)
  · have hf := ifnP cx hf
    refine lv_iload_n hx hb d_Pq_checkIndex_4 rfl (lv_at hl 0 rfl) ?_
    refine lv_iload_n hx hb d_Pq_checkIndex_5 rfl (lv_at hl 1 rfl) ?_
    refine lv_icmp_lt (tgt := 16) hx hb d_Pq_checkIndex_6 (by decide) (fun cx => ?_) (fun cx => ?_)
    · have hf := ifpP cx hf
      refine lv_iload_n hx hb d_Pq_checkIndex_16 rfl (lv_at hl 0 rfl) ?_
      refine W.widen (k := MC) (n := MS) hkc hks ?_
      exact m_ri hf hx hb hr hlocks hK hP hD hS d_Pq_checkIndex_17
    · have hf := ifnP cx hf
      exact wv_mPq_checkIndex_z2_9 (fu := fu) F _ _ _ _ _ hf hkc hks _ _ _ hP hD hS (lv_sub hl [0, 1, 2] rfl)
theorem cw_mPq_checkIndex_z2 (l : Launch) (D : va_G) (cy : Nat → ClassId) (ad : Nat → Nat) (fu MC MS : Nat) (a0 : Int32) (a1 : Int32) (M : Mm) (Φ : Int32 → Mm → Prop) (hf : xw_mPq_checkIndex_z2 fu MC MS cy ad Φ 0 0 M a0 a1) (sz : Nat) : Met l ({ cls := "jdk/internal/util/Preconditions", name := "checkIndex", desc := "(IILjava/util/function/BiFunction;)I" } : Jvm.MethodName) (.code ({ cls := "jdk/internal/util/Preconditions", name := "checkIndex", desc := "(IILjava/util/function/BiFunction;)I" } : Jvm.MethodName) b_Pq_checkIndex 3 (some .int) :: gw) (rmw_mPq_checkIndex_z2 MC MS) (va_Pc [.int a0, .int a1, .null] (Pr D cy ad (mw M) sz)) (va_Qi Φ (fun u t => Po D cy (va_A (mw M) sz) (mw u) t) (va_A (mw M) sz)) MC MS (va_A (mw M) sz) :=
  q_met (Qc := fun A => va_Qi Φ (fun u t => Po D cy A (mw u) t) A) (by decide) rfl rfl (Nat.le_of_ble_eq_true rfl) (fun p e s m below meth c ls F hP hD hS hl => wew_mPq_checkIndex_z2 (fu := fu) F 0 0 M a0 a1 hf (Nat.zero_le _) (Nat.zero_le _) _ _ _ hP hD hS hl) sz
abbrev b_Ob_checkIndex : ByteArray := prog_33_method_17_code
theorem d_Ob_checkIndex_0 : decode b_Ob_checkIndex 0 = .ok (.iload_n 0, 1) := by decide +kernel
theorem d_Ob_checkIndex_1 : decode b_Ob_checkIndex 1 = .ok (.iload_n 1, 1) := by decide +kernel
theorem d_Ob_checkIndex_2 : decode b_Ob_checkIndex 2 = .ok (.aconst_null, 1) := by decide +kernel
theorem d_Ob_checkIndex_3 : decode b_Ob_checkIndex 3 = .ok (.invokestatic 105, 3) := by decide +kernel
theorem d_Ob_checkIndex_6 : decode b_Ob_checkIndex 6 = .ok (.ireturn, 1) := by decide +kernel
abbrev rmw_mOb_checkIndex (MC MS : Nat) : Room := { frames := 1, cells := MC, slots := MS, locals := 22 }
def Iw_mOb_checkIndex_e (p : Program) (l : Launch) (e : Env) (s : State) (m : MethodId) (args : Array Value) (below : List Frame) (meth : Method) (c : Code) (D : va_G) (cy : Nat → ClassId) (A : Nat → Prop) (ad : Nat → Nat) (MC MS : Nat) (Φ : Int32 → Mm → Prop) (k : Nat → Nat → Mm → Int32 → Int32 → Prop) : Prop :=
  ∀ (κ σ : Nat) (M : Mm) (a0 : Int32) (a1 : Int32), k κ σ M a0 a1 → κ ≤ MC → σ ≤ MS → ∀ (H : Heap) (locs : List Loc) (ls : Array Slot), va_P D classes (mw M) H → va_D A (mw M) → va_S A s.heap H locs → lv_has ls 2 [(0, .int a0), (1, .int a1)] → W p l e (rmw_mOb_checkIndex MC MS) s m args below meth c H locs κ σ (MQ below (va_Qi Φ (fun u t => Po D cy A (mw u) t) A) args s MC MS A) (F0 m 0 ls [])
theorem hdq_1 : ({ cls := "jdk/internal/util/Preconditions", name := "checkIndex", desc := "(IILjava/util/function/BiFunction;)I" } : Jvm.MethodName).cls ≠ "java/lang/invoke/MethodHandle" ∧ ({ cls := "jdk/internal/util/Preconditions", name := "checkIndex", desc := "(IILjava/util/function/BiFunction;)I" } : Jvm.MethodName).cls ≠ "java/lang/invoke/VarHandle" ∧ (parseMethodDescriptor ({ cls := "jdk/internal/util/Preconditions", name := "checkIndex", desc := "(IILjava/util/function/BiFunction;)I" } : Jvm.MethodName).desc).map (fun d => d.parameters.length) = some 3 := by decide +kernel
def xw_mOb_checkIndex (fu MC MS : Nat) (cy : Nat → ClassId) (ad : Nat → Nat) (Φ : Int32 → Mm → Prop) (κ σ : Nat) (M : Mm) (a0 : Int32) (a1 : Int32) : Prop :=
  ∃ mc1 ms2 : Nat, (κ + mc1 ≤ MC ∧ σ + ms2 ≤ MS) ∧ xw_mPq_checkIndex_z2 fu mc1 ms2 cy ad (fun v4 M3 => Φ v4 M3) 0 0 M a0 a1
set_option maxHeartbeats 8000000 in
set_option maxRecDepth 100000 in
theorem wew_mOb_checkIndex {p : Program} {l : Launch} {e : Env} {s : State} {m : MethodId} {args : Array Value} {below : List Frame} {meth : Method} {c : Code} {D : va_G} {cy : Nat → ClassId} {A : Nat → Prop} {ad : Nat → Nat} {MC MS : Nat} {Φ : Int32 → Mm → Prop} {fu : Nat} (F : Fx p s m args meth c b_Ob_checkIndex 2 "java/util/Objects" "checkIndex" (some .int) D cy ad A) : Iw_mOb_checkIndex_e p l e s m args below meth c D cy A ad MC MS Φ (xw_mOb_checkIndex fu MC MS cy ad Φ) := by
  obtain ⟨hx, hb, hr, hml, hown, hts, hlocks, hK, hA, hSt, hnm, hex⟩ := id F
  intro κ σ M a0 a1 hf hkc hks H locs ls hP hD hS hl
  unfold xw_mOb_checkIndex at hf
  refine lv_iload_n hx hb d_Ob_checkIndex_0 rfl (lv_at hl 0 rfl) ?_
  refine lv_iload_n hx hb d_Ob_checkIndex_1 rfl (lv_at hl 1 rfl) ?_
  refine lv_null hx hb d_Ob_checkIndex_2 ?_
  obtain ⟨mc1, ms2, ⟨hc_, hd_⟩, hf⟩ := hf
  refine m_ai (va_runS (As := [.int a0, .int a1, .null]) (rest := []) ⟨hx, hb, hml, hown, hts⟩ (cw_mPq_checkIndex_z2 l D cy ad fu mc1 ms2 a0 a1 M _ hf H.size) ⟨q_cB hts gw_561 gw_26 gw_559 hdq_1 ⟨Nat.le_of_ble_eq_true rfl, Nat.le_of_ble_eq_true rfl⟩, hts _ gw_560⟩ (q_pre hP hD hK hSt hS (m_free hD hS hA) _) rfl rfl hl.1 rfl (lv_room (Nat.le_of_ble_eq_true rfl)) d_Ob_checkIndex_3 ⟨hc_, hd_⟩) hD hS hA (fun v4 M3 H locs hf hP hD hS => ?_)
  have hkc : κ + mc1 ≤ MC := hc_
  have hks : σ + ms2 ≤ MS := hd_
  clear hc_ hd_
  refine W.widen (k := MC) (n := MS) hkc hks ?_
  exact m_ri hf hx hb hr hlocks hK hP hD hS d_Ob_checkIndex_6
theorem cw_mOb_checkIndex (l : Launch) (D : va_G) (cy : Nat → ClassId) (ad : Nat → Nat) (fu MC MS : Nat) (a0 : Int32) (a1 : Int32) (M : Mm) (Φ : Int32 → Mm → Prop) (hf : xw_mOb_checkIndex fu MC MS cy ad Φ 0 0 M a0 a1) (sz : Nat) : Met l ({ cls := "java/util/Objects", name := "checkIndex", desc := "(II)I" } : Jvm.MethodName) (.code ({ cls := "java/util/Objects", name := "checkIndex", desc := "(II)I" } : Jvm.MethodName) b_Ob_checkIndex 2 (some .int) :: gw) (rmw_mOb_checkIndex MC MS) (va_Pc [.int a0, .int a1] (Pr D cy ad (mw M) sz)) (va_Qi Φ (fun u t => Po D cy (va_A (mw M) sz) (mw u) t) (va_A (mw M) sz)) MC MS (va_A (mw M) sz) :=
  q_met (Qc := fun A => va_Qi Φ (fun u t => Po D cy A (mw u) t) A) (by decide) rfl rfl (Nat.le_of_ble_eq_true rfl) (fun p e s m below meth c ls F hP hD hS hl => wew_mOb_checkIndex (fu := fu) F 0 0 M a0 a1 hf (Nat.zero_le _) (Nat.zero_le _) _ _ _ hP hD hS hl) sz
abbrev b_Al_elementData : ByteArray := prog_28_method_18_code
theorem d_Al_elementData_0 : decode b_Al_elementData 0 = .ok (.aload_n 0, 1) := by decide +kernel
theorem d_Al_elementData_1 : decode b_Al_elementData 1 = .ok (.getfield 9, 3) := by decide +kernel
theorem d_Al_elementData_4 : decode b_Al_elementData 4 = .ok (.iload_n 1, 1) := by decide +kernel
theorem d_Al_elementData_5 : decode b_Al_elementData 5 = .ok (.aaload, 1) := by decide +kernel
theorem d_Al_elementData_6 : decode b_Al_elementData 6 = .ok (.areturn, 1) := by decide +kernel
abbrev rmw_mAl_elementData (MC MS : Nat) : Room := { frames := 0, cells := MC, slots := MS, locals := 0 }
def Iw_mAl_elementData_e (p : Program) (l : Launch) (e : Env) (s : State) (m : MethodId) (args : Array Value) (below : List Frame) (meth : Method) (c : Code) (D : va_G) (cy : Nat → ClassId) (A : Nat → Prop) (ad : Nat → Nat) (MC MS : Nat) (Φ : Option Nat → Mm → Prop) (k : Nat → Nat → Mm → Nat → Int32 → Prop) : Prop :=
  ∀ (κ σ : Nat) (M : Mm) (a0 : Nat) (a1 : Int32), k κ σ M a0 a1 → κ ≤ MC → σ ≤ MS → ∀ (H : Heap) (locs : List Loc) (ls : Array Slot), va_P D classes (mw M) H → va_D A (mw M) → va_S A s.heap H locs → lv_has ls 2 [(0, .ref a0), (1, .int a1)] → W p l e (rmw_mAl_elementData MC MS) s m args below meth c H locs κ σ (MQ below (va_Qq Φ (fun u t => Po D cy A (mw u) t) A) args s MC MS A) (F0 m 0 ls [])
def xw_mAl_elementData (fu MC MS : Nat) (cy : Nat → ClassId) (ad : Nat → Nat) (Φ : Option Nat → Mm → Prop) (κ σ : Nat) (M : Mm) (a0 : Nat) (a1 : Int32) : Prop :=
  mgr M a0 11 0 fun r1 => osp r1 (False) fun q2 => mar M q2 (cy 7) a1 fun r3 => osp r3 (Φ Option.none M) fun q4 => Φ (some q4) M
set_option maxHeartbeats 8000000 in
set_option maxRecDepth 100000 in
theorem wew_mAl_elementData {p : Program} {l : Launch} {e : Env} {s : State} {m : MethodId} {args : Array Value} {below : List Frame} {meth : Method} {c : Code} {D : va_G} {cy : Nat → ClassId} {A : Nat → Prop} {ad : Nat → Nat} {MC MS : Nat} {Φ : Option Nat → Mm → Prop} {fu : Nat} (F : Fx p s m args meth c b_Al_elementData 2 "java/util/ArrayList" "elementData" (Option.some (Jvm.ClassFile.FieldType.object "java/lang/Object")) D cy ad A) : Iw_mAl_elementData_e p l e s m args below meth c D cy A ad MC MS Φ (xw_mAl_elementData fu MC MS cy ad Φ) := by
  obtain ⟨hx, hb, hr, hml, hown, hts, hlocks, hK, hA, hSt, hnm, hex⟩ := id F
  intro κ σ M a0 a1 hf hkc hks H locs ls hP hD hS hl
  unfold xw_mAl_elementData at hf
  refine lv_aload_n hx hb d_Al_elementData_0 rfl (lv_at hl 0 rfl) ?_
  obtain ⟨fs_, hm_, r1, hv_, hf⟩ := hf
  obtain ⟨ix_, hi_⟩ := m_ix hm_
  refine va_get (D := D) (ci := 11) (v := va_rf r1) (C := "java/util/ArrayList") (T := F_11) (N := 3) hx hb hts i_11 hown hK hP ix_ hi_ rfl 0 (by decide) (hts _ gw_351) (fun _ h9 => h9) hv_ d_Al_elementData_1 ?_
  clear hv_ hi_ hm_
  have hq_ := ospp hf
  clear hf
  rcases hq_ with ⟨rfl, hf⟩ | ⟨q2, rfl, hf⟩
  · refine W.eq (g2 := F0 m 4 ls [.null]) rfl ?_
    refine lv_iload_n hx hb d_Al_elementData_4 rfl (lv_at hl 1 rfl) ?_
    exact hf.elim
  · refine W.eq (g2 := F0 m 4 ls [.ref q2]) rfl ?_
    refine lv_iload_n hx hb d_Al_elementData_4 rfl (lv_at hl 1 rfl) ?_
    obtain ⟨n_, f_, hm_, hin_, hf⟩ := hf
    obtain ⟨ix_, hi_⟩ := m_ix hm_
    refine va_aldq hx hb hK hP ix_ 7 hi_ rfl (inb_in hin_) d_Al_elementData_5 ?_
    obtain ⟨r3, ev⟩ : ∃ z, z = f_ a1.toNatClampNeg := ⟨_, rfl⟩
    rw [← ev] at hf ⊢
    clear ev hi_ hm_ hin_
    have hq_ := ospp hf
    clear hf
    rcases hq_ with ⟨rfl, hf⟩ | ⟨q4, rfl, hf⟩
    · refine W.eq (g2 := F0 m 6 ls [.null]) rfl ?_
      refine W.widen (k := MC) (n := MS) hkc hks ?_
      exact m_ra hf rfl hx hb hr (Or.inl ⟨_, rfl⟩) hlocks hK hP hD hS d_Al_elementData_6
    · refine W.eq (g2 := F0 m 6 ls [.ref q4]) rfl ?_
      refine W.widen (k := MC) (n := MS) hkc hks ?_
      exact m_ra hf rfl hx hb hr (Or.inl ⟨_, rfl⟩) hlocks hK hP hD hS d_Al_elementData_6
theorem cw_mAl_elementData (l : Launch) (D : va_G) (cy : Nat → ClassId) (ad : Nat → Nat) (fu MC MS : Nat) (a0 : Nat) (a1 : Int32) (M : Mm) (Φ : Option Nat → Mm → Prop) (hf : xw_mAl_elementData fu MC MS cy ad Φ 0 0 M a0 a1) (sz : Nat) : Met l ({ cls := "java/util/ArrayList", name := "elementData", desc := "(I)Ljava/lang/Object;" } : Jvm.MethodName) (.code ({ cls := "java/util/ArrayList", name := "elementData", desc := "(I)Ljava/lang/Object;" } : Jvm.MethodName) b_Al_elementData 2 (Option.some (Jvm.ClassFile.FieldType.object "java/lang/Object")) :: gw) (rmw_mAl_elementData MC MS) (va_Pc [.ref a0, .int a1] (Pr D cy ad (mw M) sz)) (va_Qq Φ (fun u t => Po D cy (va_A (mw M) sz) (mw u) t) (va_A (mw M) sz)) MC MS (va_A (mw M) sz) :=
  q_met (Qc := fun A => va_Qq Φ (fun u t => Po D cy A (mw u) t) A) (by decide) rfl rfl (Nat.le_of_ble_eq_true rfl) (fun p e s m below meth c ls F hP hD hS hl => wew_mAl_elementData (fu := fu) F 0 0 M a0 a1 hf (Nat.zero_le _) (Nat.zero_le _) _ _ _ hP hD hS hl) sz
abbrev b_Al_get : ByteArray := prog_28_method_20_code
theorem d_Al_get_0 : decode b_Al_get 0 = .ok (.iload_n 1, 1) := by decide +kernel
theorem d_Al_get_1 : decode b_Al_get 1 = .ok (.aload_n 0, 1) := by decide +kernel
theorem d_Al_get_2 : decode b_Al_get 2 = .ok (.getfield 48, 3) := by decide +kernel
theorem d_Al_get_5 : decode b_Al_get 5 = .ok (.invokestatic 118, 3) := by decide +kernel
theorem d_Al_get_8 : decode b_Al_get 8 = .ok (.pop, 1) := by decide +kernel
theorem d_Al_get_9 : decode b_Al_get 9 = .ok (.aload_n 0, 1) := by decide +kernel
theorem d_Al_get_10 : decode b_Al_get 10 = .ok (.iload_n 1, 1) := by decide +kernel
theorem d_Al_get_11 : decode b_Al_get 11 = .ok (.invokevirtual 123, 3) := by decide +kernel
theorem d_Al_get_14 : decode b_Al_get 14 = .ok (.areturn, 1) := by decide +kernel
abbrev rmw_mAl_get (MC MS : Nat) : Room := { frames := 2, cells := MC, slots := MS, locals := 43 }
def Iw_mAl_get_e (p : Program) (l : Launch) (e : Env) (s : State) (m : MethodId) (args : Array Value) (below : List Frame) (meth : Method) (c : Code) (D : va_G) (cy : Nat → ClassId) (A : Nat → Prop) (ad : Nat → Nat) (MC MS : Nat) (Φ : Option Nat → Mm → Prop) (k : Nat → Nat → Mm → Nat → Int32 → Prop) : Prop :=
  ∀ (κ σ : Nat) (M : Mm) (a0 : Nat) (a1 : Int32), k κ σ M a0 a1 → κ ≤ MC → σ ≤ MS → ∀ (H : Heap) (locs : List Loc) (ls : Array Slot), va_P D classes (mw M) H → va_D A (mw M) → va_S A s.heap H locs → lv_has ls 2 [(0, .ref a0), (1, .int a1)] → W p l e (rmw_mAl_get MC MS) s m args below meth c H locs κ σ (MQ below (va_Qq Φ (fun u t => Po D cy A (mw u) t) A) args s MC MS A) (F0 m 0 ls [])
theorem hdq_2 : ({ cls := "java/util/Objects", name := "checkIndex", desc := "(II)I" } : Jvm.MethodName).cls ≠ "java/lang/invoke/MethodHandle" ∧ ({ cls := "java/util/Objects", name := "checkIndex", desc := "(II)I" } : Jvm.MethodName).cls ≠ "java/lang/invoke/VarHandle" ∧ (parseMethodDescriptor ({ cls := "java/util/Objects", name := "checkIndex", desc := "(II)I" } : Jvm.MethodName).desc).map (fun d => d.parameters.length) = some 2 := by decide +kernel
theorem hdq_3 : ({ cls := "java/util/ArrayList", name := "elementData", desc := "(I)Ljava/lang/Object;" } : Jvm.MethodName).cls ≠ "java/lang/invoke/MethodHandle" ∧ ({ cls := "java/util/ArrayList", name := "elementData", desc := "(I)Ljava/lang/Object;" } : Jvm.MethodName).cls ≠ "java/lang/invoke/VarHandle" ∧ (parseMethodDescriptor ({ cls := "java/util/ArrayList", name := "elementData", desc := "(I)Ljava/lang/Object;" } : Jvm.MethodName).desc).map (fun d => d.parameters.length) = some 1 := by decide +kernel
def xw_mAl_get (fu MC MS : Nat) (cy : Nat → ClassId) (ad : Nat → Nat) (Φ : Option Nat → Mm → Prop) (κ σ : Nat) (M : Mm) (a0 : Nat) (a1 : Int32) : Prop :=
  mgi M a0 11 1 fun v1 => ∃ mc2 ms3 : Nat, (κ + mc2 ≤ MC ∧ σ + ms3 ≤ MS) ∧ xw_mOb_checkIndex fu mc2 ms3 cy ad (fun v5 M4 => mck M4 a0 11 <| ∃ mc6 ms7 : Nat, (κ + mc2 + mc6 ≤ MC ∧ σ + ms3 + ms7 ≤ MS) ∧ xw_mAl_elementData fu mc6 ms7 cy ad (fun v9 M8 => osp v9 (Φ Option.none M8) fun q10 => Φ (some q10) M8) 0 0 M4 a0 a1) 0 0 M a1 v1
set_option maxHeartbeats 8000000 in
set_option maxRecDepth 100000 in
theorem wew_mAl_get {p : Program} {l : Launch} {e : Env} {s : State} {m : MethodId} {args : Array Value} {below : List Frame} {meth : Method} {c : Code} {D : va_G} {cy : Nat → ClassId} {A : Nat → Prop} {ad : Nat → Nat} {MC MS : Nat} {Φ : Option Nat → Mm → Prop} {fu : Nat} (F : Fx p s m args meth c b_Al_get 2 "java/util/ArrayList" "get" (Option.some (Jvm.ClassFile.FieldType.object "java/lang/Object")) D cy ad A) : Iw_mAl_get_e p l e s m args below meth c D cy A ad MC MS Φ (xw_mAl_get fu MC MS cy ad Φ) := by
  obtain ⟨hx, hb, hr, hml, hown, hts, hlocks, hK, hA, hSt, hnm, hex⟩ := id F
  intro κ σ M a0 a1 hf hkc hks H locs ls hP hD hS hl
  unfold xw_mAl_get at hf
  refine lv_iload_n hx hb d_Al_get_0 rfl (lv_at hl 1 rfl) ?_
  refine lv_aload_n hx hb d_Al_get_1 rfl (lv_at hl 0 rfl) ?_
  obtain ⟨fs_, hm_, v1, hv_, hf⟩ := hf
  obtain ⟨ix_, hi_⟩ := m_ix hm_
  refine va_get (D := D) (ci := 11) (v := .int v1) (C := "java/util/ArrayList") (T := F_11) (N := 3) hx hb hts i_11 hown hK hP ix_ hi_ rfl 1 (by decide) (hts _ gw_352) (fun _ h9 => h9) hv_ d_Al_get_2 ?_
  clear hv_ hi_ hm_
  obtain ⟨mc2, ms3, ⟨hc_, hd_⟩, hf⟩ := hf
  refine m_ai (va_runS (As := [.int a1, .int v1]) (rest := []) ⟨hx, hb, hml, hown, hts⟩ (cw_mOb_checkIndex l D cy ad fu mc2 ms3 a1 v1 M _ hf H.size) ⟨q_cB hts gw_558 gw_25 gw_556 hdq_2 ⟨Nat.le_of_ble_eq_true rfl, Nat.le_of_ble_eq_true rfl⟩, hts _ gw_557⟩ (q_pre hP hD hK hSt hS (m_free hD hS hA) _) rfl rfl hl.1 rfl (lv_room (Nat.le_of_ble_eq_true rfl)) d_Al_get_5 ⟨hc_, hd_⟩) hD hS hA (fun v5 M4 H locs hf hP hD hS => ?_)
  have hkc : κ + mc2 ≤ MC := hc_
  have hks : σ + ms3 ≤ MS := hd_
  clear hc_ hd_
  refine lv_pop hx hb d_Al_get_8 rfl ?_
  refine lv_aload_n hx hb d_Al_get_9 rfl (lv_at hl 0 rfl) ?_
  refine lv_iload_n hx hb d_Al_get_10 rfl (lv_at hl 1 rfl) ?_
  obtain ⟨fs_, hm_, hf⟩ := hf
  obtain ⟨ix_, hi_⟩ := m_ix hm_
  obtain ⟨mc6, ms7, ⟨hc_, hd_⟩, hf⟩ := hf
  refine m_aq (va_runV (C := "java/util/ArrayList") (As := [.int a1]) (rest := []) ⟨hx, hb, hml, hown, hts⟩ (cw_mAl_elementData l D cy ad fu mc6 ms7 a0 a1 M4 _ hf H.size) ⟨q_cB hts gw_565 gw_12 gw_562 hdq_3 ⟨Nat.le_of_ble_eq_true rfl, Nat.le_of_ble_eq_true rfl⟩, hts _ gw_563, hts _ gw_564⟩ (q_preV (q_pre hP hD hK hSt hS (m_free hD hS hA) _) (va_recv hK hP (ci := 11) (q0 := ix_) rfl hi_)) rfl rfl hl.1 rfl (lv_room (Nat.le_of_ble_eq_true rfl)) d_Al_get_11 ⟨hc_, hd_⟩) hD hS hA (fun v9 M8 H locs hf hP hD hS => ?_)
  have hkc : κ + mc2 + mc6 ≤ MC := hc_
  have hks : σ + ms3 + ms7 ≤ MS := hd_
  clear hc_ hd_
  have hq_ := ospp hf
  clear hf
  rcases hq_ with ⟨rfl, hf⟩ | ⟨q10, rfl, hf⟩
  · refine W.eq (g2 := F0 m 14 ls [.null]) rfl ?_
    refine W.widen (k := MC) (n := MS) hkc hks ?_
    exact m_ra hf rfl hx hb hr (Or.inl ⟨_, rfl⟩) hlocks hK hP hD hS d_Al_get_14
  · refine W.eq (g2 := F0 m 14 ls [.ref q10]) rfl ?_
    refine W.widen (k := MC) (n := MS) hkc hks ?_
    exact m_ra hf rfl hx hb hr (Or.inl ⟨_, rfl⟩) hlocks hK hP hD hS d_Al_get_14
theorem cw_mAl_get (l : Launch) (D : va_G) (cy : Nat → ClassId) (ad : Nat → Nat) (fu MC MS : Nat) (a0 : Nat) (a1 : Int32) (M : Mm) (Φ : Option Nat → Mm → Prop) (hf : xw_mAl_get fu MC MS cy ad Φ 0 0 M a0 a1) (sz : Nat) : Met l ({ cls := "java/util/ArrayList", name := "get", desc := "(I)Ljava/lang/Object;" } : Jvm.MethodName) (.code ({ cls := "java/util/ArrayList", name := "get", desc := "(I)Ljava/lang/Object;" } : Jvm.MethodName) b_Al_get 2 (Option.some (Jvm.ClassFile.FieldType.object "java/lang/Object")) :: gw) (rmw_mAl_get MC MS) (va_Pc [.ref a0, .int a1] (Pr D cy ad (mw M) sz)) (va_Qq Φ (fun u t => Po D cy (va_A (mw M) sz) (mw u) t) (va_A (mw M) sz)) MC MS (va_A (mw M) sz) :=
  q_met (Qc := fun A => va_Qq Φ (fun u t => Po D cy A (mw u) t) A) (by decide) rfl rfl (Nat.le_of_ble_eq_true rfl) (fun p e s m below meth c ls F hP hD hS hl => wew_mAl_get (fu := fu) F 0 0 M a0 a1 hf (Nat.zero_le _) (Nat.zero_le _) _ _ _ hP hD hS hl) sz
abbrev b_K_blockOf : ByteArray := prog_1_method_14_code
theorem d_K_blockOf_0 : decode b_K_blockOf 0 = .ok (.iconst 0, 1) := by decide +kernel
theorem d_K_blockOf_1 : decode b_K_blockOf 1 = .ok (.istore_n 3, 1) := by decide +kernel
theorem d_K_blockOf_2 : decode b_K_blockOf 2 = .ok (.iload_n 3, 1) := by decide +kernel
theorem d_K_blockOf_3 : decode b_K_blockOf 3 = .ok (.aload_n 0, 1) := by decide +kernel
theorem d_K_blockOf_4 : decode b_K_blockOf 4 = .ok (.getfield 56, 3) := by decide +kernel
theorem d_K_blockOf_7 : decode b_K_blockOf 7 = .ok (.invokevirtual 93, 3) := by decide +kernel
theorem d_K_blockOf_10 : decode b_K_blockOf 10 = .ok (.if_icmp .ge 46, 3) := by decide +kernel
theorem d_K_blockOf_13 : decode b_K_blockOf 13 = .ok (.aload_n 0, 1) := by decide +kernel
theorem d_K_blockOf_14 : decode b_K_blockOf 14 = .ok (.getfield 56, 3) := by decide +kernel
theorem d_K_blockOf_17 : decode b_K_blockOf 17 = .ok (.iload_n 3, 1) := by decide +kernel
theorem d_K_blockOf_18 : decode b_K_blockOf 18 = .ok (.invokevirtual 232, 3) := by decide +kernel
theorem d_K_blockOf_21 : decode b_K_blockOf 21 = .ok (.checkcast 66, 3) := by decide +kernel
theorem d_K_blockOf_24 : decode b_K_blockOf 24 = .ok (.getfield 170, 3) := by decide +kernel
theorem d_K_blockOf_27 : decode b_K_blockOf 27 = .ok (.iconst 0, 1) := by decide +kernel
theorem d_K_blockOf_28 : decode b_K_blockOf 28 = .ok (.aload_n 1, 1) := by decide +kernel
theorem d_K_blockOf_29 : decode b_K_blockOf 29 = .ok (.iload_n 2, 1) := by decide +kernel
theorem d_K_blockOf_30 : decode b_K_blockOf 30 = .ok (.bipush 32, 2) := by decide +kernel
theorem d_K_blockOf_32 : decode b_K_blockOf 32 = .ok (.invokestatic 236, 3) := by decide +kernel
theorem d_K_blockOf_35 : decode b_K_blockOf 35 = .ok (.ifCond .eq 15, 3) := by decide +kernel
theorem d_K_blockOf_38 : decode b_K_blockOf 38 = .ok (.aload_n 0, 1) := by decide +kernel
theorem d_K_blockOf_39 : decode b_K_blockOf 39 = .ok (.getfield 56, 3) := by decide +kernel
theorem d_K_blockOf_42 : decode b_K_blockOf 42 = .ok (.iload_n 3, 1) := by decide +kernel
theorem d_K_blockOf_43 : decode b_K_blockOf 43 = .ok (.invokevirtual 232, 3) := by decide +kernel
theorem d_K_blockOf_46 : decode b_K_blockOf 46 = .ok (.checkcast 66, 3) := by decide +kernel
theorem d_K_blockOf_49 : decode b_K_blockOf 49 = .ok (.areturn, 1) := by decide +kernel
theorem d_K_blockOf_50 : decode b_K_blockOf 50 = .ok (.iinc 3 1, 3) := by decide +kernel
theorem d_K_blockOf_53 : decode b_K_blockOf 53 = .ok (.goto (-51), 3) := by decide +kernel
theorem d_K_blockOf_56 : decode b_K_blockOf 56 = .ok (.aconst_null, 1) := by decide +kernel
theorem d_K_blockOf_57 : decode b_K_blockOf 57 = .ok (.areturn, 1) := by decide +kernel
abbrev rmw_mK_blockOf (MC MS : Nat) : Room := { frames := 3, cells := MC, slots := MS, locals := 64 }
def Iw_mK_blockOf_2 (p : Program) (l : Launch) (e : Env) (s : State) (m : MethodId) (args : Array Value) (below : List Frame) (meth : Method) (c : Code) (D : va_G) (cy : Nat → ClassId) (A : Nat → Prop) (ad : Nat → Nat) (MC MS : Nat) (Φ : Option Nat → Mm → Prop) (k : Nat → Nat → Mm → Nat → Nat → Int32 → Int32 → Prop) : Prop :=
  ∀ (κ σ : Nat) (M : Mm) (x0 : Nat) (x1 : Nat) (x2 : Int32) (x3 : Int32), k κ σ M x0 x1 x2 x3 → κ ≤ MC → σ ≤ MS → ∀ (H : Heap) (locs : List Loc) (ls : Array Slot), va_P D classes (mw M) H → va_D A (mw M) → va_S A s.heap H locs → lv_has ls 4 [(0, .ref x0), (1, .ref x1), (2, .int x2), (3, .int x3)] → W p l e (rmw_mK_blockOf MC MS) s m args below meth c H locs κ σ (MQ below (va_Qq Φ (fun u t => Po D cy A (mw u) t) A) args s MC MS A) (F0 m 2 ls [])
def Iw_mK_blockOf_e (p : Program) (l : Launch) (e : Env) (s : State) (m : MethodId) (args : Array Value) (below : List Frame) (meth : Method) (c : Code) (D : va_G) (cy : Nat → ClassId) (A : Nat → Prop) (ad : Nat → Nat) (MC MS : Nat) (Φ : Option Nat → Mm → Prop) (k : Nat → Nat → Mm → Nat → Nat → Int32 → Prop) : Prop :=
  ∀ (κ σ : Nat) (M : Mm) (a0 : Nat) (a1 : Nat) (a2 : Int32), k κ σ M a0 a1 a2 → κ ≤ MC → σ ≤ MS → ∀ (H : Heap) (locs : List Loc) (ls : Array Slot), va_P D classes (mw M) H → va_D A (mw M) → va_S A s.heap H locs → lv_has ls 4 [(0, .ref a0), (1, .ref a1), (2, .int a2)] → W p l e (rmw_mK_blockOf MC MS) s m args below meth c H locs κ σ (MQ below (va_Qq Φ (fun u t => Po D cy A (mw u) t) A) args s MC MS A) (F0 m 0 ls [])
theorem hdq_4 : ({ cls := "java/util/ArrayList", name := "size", desc := "()I" } : Jvm.MethodName).cls ≠ "java/lang/invoke/MethodHandle" ∧ ({ cls := "java/util/ArrayList", name := "size", desc := "()I" } : Jvm.MethodName).cls ≠ "java/lang/invoke/VarHandle" ∧ (parseMethodDescriptor ({ cls := "java/util/ArrayList", name := "size", desc := "()I" } : Jvm.MethodName).desc).map (fun d => d.parameters.length) = some 0 := by decide +kernel
theorem hdq_5 : ({ cls := "java/util/ArrayList", name := "get", desc := "(I)Ljava/lang/Object;" } : Jvm.MethodName).cls ≠ "java/lang/invoke/MethodHandle" ∧ ({ cls := "java/util/ArrayList", name := "get", desc := "(I)Ljava/lang/Object;" } : Jvm.MethodName).cls ≠ "java/lang/invoke/VarHandle" ∧ (parseMethodDescriptor ({ cls := "java/util/ArrayList", name := "get", desc := "(I)Ljava/lang/Object;" } : Jvm.MethodName).desc).map (fun d => d.parameters.length) = some 1 := by decide +kernel
theorem hdq_6 : ({ cls := "CoinKeeper", name := "same", desc := "([BI[BII)Z" } : Jvm.MethodName).cls ≠ "java/lang/invoke/MethodHandle" ∧ ({ cls := "CoinKeeper", name := "same", desc := "([BI[BII)Z" } : Jvm.MethodName).cls ≠ "java/lang/invoke/VarHandle" ∧ (parseMethodDescriptor ({ cls := "CoinKeeper", name := "same", desc := "([BI[BII)Z" } : Jvm.MethodName).desc).map (fun d => d.parameters.length) = some 5 := by decide +kernel
def xv_mK_blockOf_2 (fu MC MS : Nat) (cy : Nat → ClassId) (ad : Nat → Nat) (Φ : Option Nat → Mm → Prop) (k_2 : Nat → Nat → Mm → Nat → Nat → Int32 → Int32 → Prop) (κ σ : Nat) (M : Mm) (x0 : Nat) (x1 : Nat) (x2 : Int32) (x3 : Int32) : Prop :=
  mgr M x0 0 8 fun r1 => osp r1 (False) fun q2 => mck M q2 11 <| ∃ mc3 ms4 : Nat, (κ + mc3 ≤ MC ∧ σ + ms4 ≤ MS) ∧ xw_mAl_size fu mc3 ms4 cy ad (fun v6 M5 => if v6 ≤ x3 then (Φ Option.none M5) else (mgr M5 x0 0 8 fun r7 => osp r7 (False) fun q8 => mck M5 q8 11 <| ∃ mc9 ms10 : Nat, (κ + mc3 + mc9 ≤ MC ∧ σ + ms4 + ms10 ≤ MS) ∧ xw_mAl_get fu mc9 ms10 cy ad (fun v12 M11 => osp v12 (False) fun q13 => mck M11 q13 1 <| mgr M11 q13 1 2 fun r14 => osp r14 (False) fun q15 => ∃ (c16 : Nat) (c17 : Nat → Int32) (c18 : Nat) (c19 : Nat → Int32), mal M11 [(q15, .inl (cy 0, c16, .inl c17)), (x1, .inl (cy 0, c18, .inl c19))] ∧ mnd (List.map (fun x : Nat × va_E => x.1) [(q15, .inl (cy 0, c16, .inl c17)), (x1, .inl (cy 0, c18, .inl c19))]) ∧ ∃ (v20 : Int32), x_K_same fu c16 c17 c18 c19 (0 : Int32) x2 (32 : Int32) = some (v20) ∧ bnd (mov M11 [(q15, .inl (cy 0, c16, .inl c17)), (x1, .inl (cy 0, c18, .inl c19))]) fun M21 => if v20 = 0 then (bnd (x3 + (1 : Int32)) fun v22 => k_2 (κ + mc3 + mc9) (σ + ms4 + ms10) M21 x0 x1 x2 v22) else (mgr M21 x0 0 8 fun r23 => osp r23 (False) fun q24 => mck M21 q24 11 <| ∃ mc25 ms26 : Nat, (κ + mc3 + mc9 + mc25 ≤ MC ∧ σ + ms4 + ms10 + ms26 ≤ MS) ∧ xw_mAl_get fu mc25 ms26 cy ad (fun v28 M27 => osp v28 (Φ Option.none M27) fun q29 => mck M27 q29 1 <| Φ (some q29) M27) 0 0 M21 q24 x3)) 0 0 M5 q8 x3)) 0 0 M q2
set_option maxHeartbeats 8000000 in
set_option maxRecDepth 100000 in
theorem wv_mK_blockOf_2 {p : Program} {l : Launch} {e : Env} {s : State} {m : MethodId} {args : Array Value} {below : List Frame} {meth : Method} {c : Code} {D : va_G} {cy : Nat → ClassId} {A : Nat → Prop} {ad : Nat → Nat} {MC MS : Nat} {Φ : Option Nat → Mm → Prop} {fu : Nat} {k_2 : Nat → Nat → Mm → Nat → Nat → Int32 → Int32 → Prop} (F : Fx p s m args meth c b_K_blockOf 4 "CoinKeeper" "blockOf" (Option.some (Jvm.ClassFile.FieldType.object "CoinKeeper$Block")) D cy ad A) (hk_2 : Iw_mK_blockOf_2 p l e s m args below meth c D cy A ad MC MS Φ k_2) : Iw_mK_blockOf_2 p l e s m args below meth c D cy A ad MC MS Φ (xv_mK_blockOf_2 fu MC MS cy ad Φ k_2) := by
  obtain ⟨hx, hb, hr, hml, hown, hts, hlocks, hK, hA, hSt, hnm, hex⟩ := id F
  intro κ σ M x0 x1 x2 x3 hf hkc hks H locs ls hP hD hS hl
  unfold xv_mK_blockOf_2 at hf
  refine lv_iload_n hx hb d_K_blockOf_2 rfl (lv_at hl 3 rfl) ?_
  refine lv_aload_n hx hb d_K_blockOf_3 rfl (lv_at hl 0 rfl) ?_
  obtain ⟨fs_, hm_, r1, hv_, hf⟩ := hf
  obtain ⟨ix_, hi_⟩ := m_ix hm_
  refine va_get (D := D) (ci := 0) (v := va_rf r1) (C := "CoinKeeper") (T := F_0) (N := 13) hx hb hts i_0 hown hK hP ix_ hi_ rfl 8 (by decide) (hts _ gw_508) (fun _ h9 => h9) hv_ d_K_blockOf_4 ?_
  clear hv_ hi_ hm_
  have hq_ := ospp hf
  clear hf
  rcases hq_ with ⟨rfl, hf⟩ | ⟨q2, rfl, hf⟩
  · refine W.eq (g2 := F0 m 7 ls [.null, .int x3]) rfl ?_
    exact hf.elim
  · refine W.eq (g2 := F0 m 7 ls [.ref q2, .int x3]) rfl ?_
    obtain ⟨fs_, hm_, hf⟩ := hf
    obtain ⟨ix_, hi_⟩ := m_ix hm_
    obtain ⟨mc3, ms4, ⟨hc_, hd_⟩, hf⟩ := hf
    refine m_ai (va_runV (C := "java/util/ArrayList") (As := []) (rest := [.int x3]) ⟨hx, hb, hml, hown, hts⟩ (cw_mAl_size l D cy ad fu mc3 ms4 q2 M _ hf H.size) ⟨q_cB hts gw_551 gw_12 gw_673 hdq_4 ⟨Nat.le_of_ble_eq_true rfl, Nat.le_of_ble_eq_true rfl⟩, hts _ gw_549, hts _ gw_550⟩ (q_preV (q_pre hP hD hK hSt hS (m_free hD hS hA) _) (va_recv hK hP (ci := 11) (q0 := ix_) rfl hi_)) rfl rfl hl.1 rfl (lv_room (Nat.le_of_ble_eq_true rfl)) d_K_blockOf_7 ⟨hc_, hd_⟩) hD hS hA (fun v6 M5 H locs hf hP hD hS => ?_)
    have hkc : κ + mc3 ≤ MC := hc_
    have hks : σ + ms4 ≤ MS := hd_
    clear hc_ hd_
    refine lv_icmp_ge (tgt := 56) hx hb d_K_blockOf_10 (by decide) (fun cx => ?_) (fun cx => ?_)
    · have hf := ifpP cx hf
      refine lv_null hx hb d_K_blockOf_56 ?_
      refine W.widen (k := MC) (n := MS) hkc hks ?_
      exact m_ra hf rfl hx hb hr (Or.inl ⟨_, rfl⟩) hlocks hK hP hD hS d_K_blockOf_57
    · have hf := ifnP cx hf
      refine lv_aload_n hx hb d_K_blockOf_13 rfl (lv_at hl 0 rfl) ?_
      obtain ⟨fs_, hm_, r7, hv_, hf⟩ := hf
      obtain ⟨ix_, hi_⟩ := m_ix hm_
      refine va_get (D := D) (ci := 0) (v := va_rf r7) (C := "CoinKeeper") (T := F_0) (N := 13) hx hb hts i_0 hown hK hP ix_ hi_ rfl 8 (by decide) (hts _ gw_508) (fun _ h9 => h9) hv_ d_K_blockOf_14 ?_
      clear hv_ hi_ hm_
      have hq_ := ospp hf
      clear hf
      rcases hq_ with ⟨rfl, hf⟩ | ⟨q8, rfl, hf⟩
      · refine W.eq (g2 := F0 m 17 ls [.null]) rfl ?_
        refine lv_iload_n hx hb d_K_blockOf_17 rfl (lv_at hl 3 rfl) ?_
        exact hf.elim
      · refine W.eq (g2 := F0 m 17 ls [.ref q8]) rfl ?_
        refine lv_iload_n hx hb d_K_blockOf_17 rfl (lv_at hl 3 rfl) ?_
        obtain ⟨fs_, hm_, hf⟩ := hf
        obtain ⟨ix_, hi_⟩ := m_ix hm_
        obtain ⟨mc9, ms10, ⟨hc_, hd_⟩, hf⟩ := hf
        refine m_aq (va_runV (C := "java/util/ArrayList") (As := [.int x3]) (rest := []) ⟨hx, hb, hml, hown, hts⟩ (cw_mAl_get l D cy ad fu mc9 ms10 q8 x3 M5 _ hf H.size) ⟨q_cB hts gw_555 gw_12 gw_743 hdq_5 ⟨Nat.le_of_ble_eq_true rfl, Nat.le_of_ble_eq_true rfl⟩, hts _ gw_553, hts _ gw_554⟩ (q_preV (q_pre hP hD hK hSt hS (m_free hD hS hA) _) (va_recv hK hP (ci := 11) (q0 := ix_) rfl hi_)) rfl rfl hl.1 rfl (lv_room (Nat.le_of_ble_eq_true rfl)) d_K_blockOf_18 ⟨hc_, hd_⟩) hD hS hA (fun v12 M11 H locs hf hP hD hS => ?_)
        have hkc : κ + mc3 + mc9 ≤ MC := hc_
        have hks : σ + ms4 + ms10 ≤ MS := hd_
        clear hc_ hd_
        have hq_ := ospp hf
        clear hf
        rcases hq_ with ⟨rfl, hf⟩ | ⟨q13, rfl, hf⟩
        · refine W.eq (g2 := F0 m 21 ls [.null]) rfl ?_
          refine lv_castN hx hb d_K_blockOf_21 ?_
          exact hf.elim
        · refine W.eq (g2 := F0 m 21 ls [.ref q13]) rfl ?_
          obtain ⟨fs_, hm_, hf⟩ := hf
          obtain ⟨ix_, hi_⟩ := m_ix hm_
          refine va_castY (C := "CoinKeeper$Block") hx hb hown (hts _ gw_374) (hSt.2.1 _ (List.mem_of_getElem? (i := 24) rfl)) (va_recv hK hP (ci := 1) (q0 := ix_) rfl hi_) d_K_blockOf_21 ?_
          clear hi_ hm_
          obtain ⟨fs_, hm_, r14, hv_, hf⟩ := hf
          obtain ⟨ix_, hi_⟩ := m_ix hm_
          refine va_get (D := D) (ci := 1) (v := va_rf r14) (C := "CoinKeeper$Block") (T := F_1) (N := 12) hx hb hts i_1 hown hK hP ix_ hi_ rfl 2 (by decide) (hts _ gw_396) (fun _ h9 => h9) hv_ d_K_blockOf_24 ?_
          clear hv_ hi_ hm_
          have hq_ := ospp hf
          clear hf
          rcases hq_ with ⟨rfl, hf⟩ | ⟨q15, rfl, hf⟩
          · refine W.eq (g2 := F0 m 27 ls [.null]) rfl ?_
            refine lv_iconst (v := 0) hx hb d_K_blockOf_27 (by decide) ?_
            refine lv_aload_n hx hb d_K_blockOf_28 rfl (lv_at hl 1 rfl) ?_
            refine lv_iload_n hx hb d_K_blockOf_29 rfl (lv_at hl 2 rfl) ?_
            refine lv_bipush (v := 32) hx hb d_K_blockOf_30 (by decide) ?_
            exact hf.elim
          · refine W.eq (g2 := F0 m 27 ls [.ref q15]) rfl ?_
            refine lv_iconst (v := 0) hx hb d_K_blockOf_27 (by decide) ?_
            refine lv_aload_n hx hb d_K_blockOf_28 rfl (lv_at hl 1 rfl) ?_
            refine lv_iload_n hx hb d_K_blockOf_29 rfl (lv_at hl 2 rfl) ?_
            refine lv_bipush (v := 32) hx hb d_K_blockOf_30 (by decide) ?_
            obtain ⟨c16, c17, c18, c19, hal_, hnd_, v20, hc, hf⟩ := hf
            refine m_li (va_runS (As := [.ref q15, .int (0 : Int32), .ref x1, .int x2, .int (32 : Int32)]) (rest := []) ⟨hx, hb, hml, hown, hts⟩ (c_K_same l D cy ad fu q15 x1 c16 c17 c18 c19 (0 : Int32) x2 (32 : Int32) _ hc H.size) ⟨q_cB hts gw_746 gw_1 gw_744 hdq_6 ⟨Nat.le_of_ble_eq_true rfl, Nat.le_of_ble_eq_true rfl⟩, hts _ gw_745⟩ (q_pre (m_subP hP hal_) (m_subD hD hal_ hnd_) hK hSt hS (m_lF hD hS hA hal_) _) rfl rfl hl.1 rfl (lv_room (Nat.le_of_ble_eq_true rfl)) d_K_blockOf_32 ⟨hkc, hks⟩) hP hD hS hA hal_ rfl (fun H locs hP hD hS => ?_)
            refine W.widen (k := κ + mc3 + mc9) (n := σ + ms4 + ms10) (Nat.le_refl _) (Nat.le_refl _) ?_
            obtain ⟨M21, eM_, hf⟩ := bnP hf
            have hP : va_P D classes (mw M21) H := by rw [eM_]; exact hP
            have hD : va_D A (mw M21) := by rw [eM_]; exact hD
            clear eM_ hal_ hnd_ hc
            refine lv_if_eq (tgt := 50) hx hb d_K_blockOf_35 (by decide) (fun cx => ?_) (fun cx => ?_)
            · have hf := ifpP cx hf
              obtain ⟨v22, ev, hf⟩ := bnP hf
              refine lv_iinc (v := v22) (lv' := [(3, .int v22), (0, .ref x0), (1, .ref x1), (2, .int x2)]) hx hb d_K_blockOf_50 hl (k := 3) rfl (by rw [ev]; rfl) (by decide) rfl (fun ls hl => ?_)
              clear ev
              refine lv_goto (tgt := 2) hx hb d_K_blockOf_53 (by decide) ?_
              exact hk_2 _ _ _ _ _ _ _ hf hkc hks _ _ _ hP hD hS (lv_sub hl [1, 2, 3, 0] rfl)
            · have hf := ifnP cx hf
              refine lv_aload_n hx hb d_K_blockOf_38 rfl (lv_at hl 0 rfl) ?_
              obtain ⟨fs_, hm_, r23, hv_, hf⟩ := hf
              obtain ⟨ix_, hi_⟩ := m_ix hm_
              refine va_get (D := D) (ci := 0) (v := va_rf r23) (C := "CoinKeeper") (T := F_0) (N := 13) hx hb hts i_0 hown hK hP ix_ hi_ rfl 8 (by decide) (hts _ gw_508) (fun _ h9 => h9) hv_ d_K_blockOf_39 ?_
              clear hv_ hi_ hm_
              have hq_ := ospp hf
              clear hf
              rcases hq_ with ⟨rfl, hf⟩ | ⟨q24, rfl, hf⟩
              · refine W.eq (g2 := F0 m 42 ls [.null]) rfl ?_
                refine lv_iload_n hx hb d_K_blockOf_42 rfl (lv_at hl 3 rfl) ?_
                exact hf.elim
              · refine W.eq (g2 := F0 m 42 ls [.ref q24]) rfl ?_
                refine lv_iload_n hx hb d_K_blockOf_42 rfl (lv_at hl 3 rfl) ?_
                obtain ⟨fs_, hm_, hf⟩ := hf
                obtain ⟨ix_, hi_⟩ := m_ix hm_
                obtain ⟨mc25, ms26, ⟨hc_, hd_⟩, hf⟩ := hf
                refine m_aq (va_runV (C := "java/util/ArrayList") (As := [.int x3]) (rest := []) ⟨hx, hb, hml, hown, hts⟩ (cw_mAl_get l D cy ad fu mc25 ms26 q24 x3 M21 _ hf H.size) ⟨q_cB hts gw_555 gw_12 gw_743 hdq_5 ⟨Nat.le_of_ble_eq_true rfl, Nat.le_of_ble_eq_true rfl⟩, hts _ gw_553, hts _ gw_554⟩ (q_preV (q_pre hP hD hK hSt hS (m_free hD hS hA) _) (va_recv hK hP (ci := 11) (q0 := ix_) rfl hi_)) rfl rfl hl.1 rfl (lv_room (Nat.le_of_ble_eq_true rfl)) d_K_blockOf_43 ⟨hc_, hd_⟩) hD hS hA (fun v28 M27 H locs hf hP hD hS => ?_)
                have hkc : κ + mc3 + mc9 + mc25 ≤ MC := hc_
                have hks : σ + ms4 + ms10 + ms26 ≤ MS := hd_
                clear hc_ hd_
                have hq_ := ospp hf
                clear hf
                rcases hq_ with ⟨rfl, hf⟩ | ⟨q29, rfl, hf⟩
                · refine W.eq (g2 := F0 m 46 ls [.null]) rfl ?_
                  refine lv_castN hx hb d_K_blockOf_46 ?_
                  refine W.widen (k := MC) (n := MS) hkc hks ?_
                  exact m_ra hf rfl hx hb hr (Or.inl ⟨_, rfl⟩) hlocks hK hP hD hS d_K_blockOf_49
                · refine W.eq (g2 := F0 m 46 ls [.ref q29]) rfl ?_
                  obtain ⟨fs_, hm_, hf⟩ := hf
                  obtain ⟨ix_, hi_⟩ := m_ix hm_
                  refine va_castY (C := "CoinKeeper$Block") hx hb hown (hts _ gw_374) (hSt.2.1 _ (List.mem_of_getElem? (i := 24) rfl)) (va_recv hK hP (ci := 1) (q0 := ix_) rfl hi_) d_K_blockOf_46 ?_
                  clear hi_ hm_
                  refine W.widen (k := MC) (n := MS) hkc hks ?_
                  exact m_ra hf rfl hx hb hr (Or.inl ⟨_, rfl⟩) hlocks hK hP hD hS d_K_blockOf_49
def xw_mK_blockOf_2 (fu MC MS : Nat) (cy : Nat → ClassId) (ad : Nat → Nat) (Φ : Option Nat → Mm → Prop) : Nat → Nat → Nat → Mm → Nat → Nat → Int32 → Int32 → Prop
  | 0 => fun _ _ _ _ _ _ _ => False
  | n + 1 => xv_mK_blockOf_2 fu MC MS cy ad Φ (xw_mK_blockOf_2 fu MC MS cy ad Φ n)
theorem ww_mK_blockOf_2 {p : Program} {l : Launch} {e : Env} {s : State} {m : MethodId} {args : Array Value} {below : List Frame} {meth : Method} {c : Code} {D : va_G} {cy : Nat → ClassId} {A : Nat → Prop} {ad : Nat → Nat} {MC MS : Nat} {Φ : Option Nat → Mm → Prop} {fu : Nat} (F : Fx p s m args meth c b_K_blockOf 4 "CoinKeeper" "blockOf" (Option.some (Jvm.ClassFile.FieldType.object "CoinKeeper$Block")) D cy ad A) : ∀ n : Nat, Iw_mK_blockOf_2 p l e s m args below meth c D cy A ad MC MS Φ (xw_mK_blockOf_2 fu MC MS cy ad Φ n)
  | 0 => fun _ _ _ _ _ _ _ hf => False.elim hf
  | n + 1 => wv_mK_blockOf_2 F (ww_mK_blockOf_2 F n)
def xw_mK_blockOf (fu MC MS : Nat) (cy : Nat → ClassId) (ad : Nat → Nat) (Φ : Option Nat → Mm → Prop) (κ σ : Nat) (M : Mm) (a0 : Nat) (a1 : Nat) (a2 : Int32) : Prop :=
  xw_mK_blockOf_2 fu MC MS cy ad Φ fu κ σ M a0 a1 a2 (0 : Int32)
set_option maxHeartbeats 8000000 in
set_option maxRecDepth 100000 in
theorem wew_mK_blockOf {p : Program} {l : Launch} {e : Env} {s : State} {m : MethodId} {args : Array Value} {below : List Frame} {meth : Method} {c : Code} {D : va_G} {cy : Nat → ClassId} {A : Nat → Prop} {ad : Nat → Nat} {MC MS : Nat} {Φ : Option Nat → Mm → Prop} {fu : Nat} (F : Fx p s m args meth c b_K_blockOf 4 "CoinKeeper" "blockOf" (Option.some (Jvm.ClassFile.FieldType.object "CoinKeeper$Block")) D cy ad A) : Iw_mK_blockOf_e p l e s m args below meth c D cy A ad MC MS Φ (xw_mK_blockOf fu MC MS cy ad Φ) := by
  obtain ⟨hx, hb, hr, hml, hown, hts, hlocks, hK, hA, hSt, hnm, hex⟩ := id F
  intro κ σ M a0 a1 a2 hf hkc hks H locs ls hP hD hS hl
  unfold xw_mK_blockOf at hf
  refine lv_iconst (v := 0) hx hb d_K_blockOf_0 (by decide) ?_
  refine lv_istore_n (lv' := [(3, .int (0 : Int32)), (0, .ref a0), (1, .ref a1), (2, .int a2)]) hx hb d_K_blockOf_1 rfl hl (by decide) rfl (fun ls hl => ?_)
  exact ww_mK_blockOf_2 F fu _ _ _ _ _ _ _ hf hkc hks _ _ _ hP hD hS (lv_sub hl [1, 2, 3, 0] rfl)
theorem cw_mK_blockOf (l : Launch) (D : va_G) (cy : Nat → ClassId) (ad : Nat → Nat) (fu MC MS : Nat) (a0 : Nat) (a1 : Nat) (a2 : Int32) (M : Mm) (Φ : Option Nat → Mm → Prop) (hf : xw_mK_blockOf fu MC MS cy ad Φ 0 0 M a0 a1 a2) (sz : Nat) : Met l ({ cls := "CoinKeeper", name := "blockOf", desc := "([BI)LCoinKeeper$Block;" } : Jvm.MethodName) (.code ({ cls := "CoinKeeper", name := "blockOf", desc := "([BI)LCoinKeeper$Block;" } : Jvm.MethodName) b_K_blockOf 4 (Option.some (Jvm.ClassFile.FieldType.object "CoinKeeper$Block")) :: gw) (rmw_mK_blockOf MC MS) (va_Pc [.ref a0, .ref a1, .int a2] (Pr D cy ad (mw M) sz)) (va_Qq Φ (fun u t => Po D cy (va_A (mw M) sz) (mw u) t) (va_A (mw M) sz)) MC MS (va_A (mw M) sz) :=
  q_met (Qc := fun A => va_Qq Φ (fun u t => Po D cy A (mw u) t) A) (by decide) rfl rfl (Nat.le_of_ble_eq_true rfl) (fun p e s m below meth c ls F hP hD hS hl => wew_mK_blockOf (fu := fu) F 0 0 M a0 a1 a2 hf (Nat.zero_le _) (Nat.zero_le _) _ _ _ hP hD hS hl) sz
abbrev b_K_badBlocks : ByteArray := prog_1_method_23_code
theorem d_K_badBlocks_0 : decode b_K_badBlocks 0 = .ok (.iconst 0, 1) := by decide +kernel
theorem d_K_badBlocks_1 : decode b_K_badBlocks 1 = .ok (.istore_n 1, 1) := by decide +kernel
theorem d_K_badBlocks_2 : decode b_K_badBlocks 2 = .ok (.iconst 0, 1) := by decide +kernel
theorem d_K_badBlocks_3 : decode b_K_badBlocks 3 = .ok (.istore_n 2, 1) := by decide +kernel
theorem d_K_badBlocks_4 : decode b_K_badBlocks 4 = .ok (.iload_n 2, 1) := by decide +kernel
theorem d_K_badBlocks_5 : decode b_K_badBlocks 5 = .ok (.aload_n 0, 1) := by decide +kernel
theorem d_K_badBlocks_6 : decode b_K_badBlocks 6 = .ok (.getfield 56, 3) := by decide +kernel
theorem d_K_badBlocks_9 : decode b_K_badBlocks 9 = .ok (.invokevirtual 93, 3) := by decide +kernel
theorem d_K_badBlocks_12 : decode b_K_badBlocks 12 = .ok (.if_icmp .ge 29, 3) := by decide +kernel
theorem d_K_badBlocks_15 : decode b_K_badBlocks 15 = .ok (.aload_n 0, 1) := by decide +kernel
theorem d_K_badBlocks_16 : decode b_K_badBlocks 16 = .ok (.getfield 56, 3) := by decide +kernel
theorem d_K_badBlocks_19 : decode b_K_badBlocks 19 = .ok (.iload_n 2, 1) := by decide +kernel
theorem d_K_badBlocks_20 : decode b_K_badBlocks 20 = .ok (.invokevirtual 232, 3) := by decide +kernel
theorem d_K_badBlocks_23 : decode b_K_badBlocks 23 = .ok (.checkcast 66, 3) := by decide +kernel
theorem d_K_badBlocks_26 : decode b_K_badBlocks 26 = .ok (.getfield 213, 3) := by decide +kernel
theorem d_K_badBlocks_29 : decode b_K_badBlocks 29 = .ok (.ifCond .eq 6, 3) := by decide +kernel
theorem d_K_badBlocks_32 : decode b_K_badBlocks 32 = .ok (.iinc 1 1, 3) := by decide +kernel
theorem d_K_badBlocks_35 : decode b_K_badBlocks 35 = .ok (.iinc 2 1, 3) := by decide +kernel
theorem d_K_badBlocks_38 : decode b_K_badBlocks 38 = .ok (.goto (-34), 3) := by decide +kernel
theorem d_K_badBlocks_41 : decode b_K_badBlocks 41 = .ok (.iload_n 1, 1) := by decide +kernel
theorem d_K_badBlocks_42 : decode b_K_badBlocks 42 = .ok (.ireturn, 1) := by decide +kernel
abbrev rmw_mK_badBlocks (MC MS : Nat) : Room := { frames := 3, cells := MC, slots := MS, locals := 64 }
def Iw_mK_badBlocks_35 (p : Program) (l : Launch) (e : Env) (s : State) (m : MethodId) (args : Array Value) (below : List Frame) (meth : Method) (c : Code) (D : va_G) (cy : Nat → ClassId) (A : Nat → Prop) (ad : Nat → Nat) (MC MS : Nat) (Φ : Int32 → Mm → Prop) (k : Nat → Nat → Mm → Nat → Int32 → Int32 → Prop) : Prop :=
  ∀ (κ σ : Nat) (M : Mm) (x0 : Nat) (x1 : Int32) (x2 : Int32), k κ σ M x0 x1 x2 → κ ≤ MC → σ ≤ MS → ∀ (H : Heap) (locs : List Loc) (ls : Array Slot), va_P D classes (mw M) H → va_D A (mw M) → va_S A s.heap H locs → lv_has ls 3 [(0, .ref x0), (1, .int x1), (2, .int x2)] → W p l e (rmw_mK_badBlocks MC MS) s m args below meth c H locs κ σ (MQ below (va_Qi Φ (fun u t => Po D cy A (mw u) t) A) args s MC MS A) (F0 m 35 ls [])
def Iw_mK_badBlocks_4 (p : Program) (l : Launch) (e : Env) (s : State) (m : MethodId) (args : Array Value) (below : List Frame) (meth : Method) (c : Code) (D : va_G) (cy : Nat → ClassId) (A : Nat → Prop) (ad : Nat → Nat) (MC MS : Nat) (Φ : Int32 → Mm → Prop) (k : Nat → Nat → Mm → Nat → Int32 → Int32 → Prop) : Prop :=
  ∀ (κ σ : Nat) (M : Mm) (x0 : Nat) (x1 : Int32) (x2 : Int32), k κ σ M x0 x1 x2 → κ ≤ MC → σ ≤ MS → ∀ (H : Heap) (locs : List Loc) (ls : Array Slot), va_P D classes (mw M) H → va_D A (mw M) → va_S A s.heap H locs → lv_has ls 3 [(0, .ref x0), (1, .int x1), (2, .int x2)] → W p l e (rmw_mK_badBlocks MC MS) s m args below meth c H locs κ σ (MQ below (va_Qi Φ (fun u t => Po D cy A (mw u) t) A) args s MC MS A) (F0 m 4 ls [])
def Iw_mK_badBlocks_e (p : Program) (l : Launch) (e : Env) (s : State) (m : MethodId) (args : Array Value) (below : List Frame) (meth : Method) (c : Code) (D : va_G) (cy : Nat → ClassId) (A : Nat → Prop) (ad : Nat → Nat) (MC MS : Nat) (Φ : Int32 → Mm → Prop) (k : Nat → Nat → Mm → Nat → Prop) : Prop :=
  ∀ (κ σ : Nat) (M : Mm) (a0 : Nat), k κ σ M a0 → κ ≤ MC → σ ≤ MS → ∀ (H : Heap) (locs : List Loc) (ls : Array Slot), va_P D classes (mw M) H → va_D A (mw M) → va_S A s.heap H locs → lv_has ls 3 [(0, .ref a0)] → W p l e (rmw_mK_badBlocks MC MS) s m args below meth c H locs κ σ (MQ below (va_Qi Φ (fun u t => Po D cy A (mw u) t) A) args s MC MS A) (F0 m 0 ls [])
def xv_mK_badBlocks_35 (fu MC MS : Nat) (cy : Nat → ClassId) (ad : Nat → Nat) (Φ : Int32 → Mm → Prop) (k_4 : Nat → Nat → Mm → Nat → Int32 → Int32 → Prop) (κ σ : Nat) (M : Mm) (x0 : Nat) (x1 : Int32) (x2 : Int32) : Prop :=
  bnd (x2 + (1 : Int32)) fun v1 => k_4 κ σ M x0 x1 v1
set_option maxHeartbeats 8000000 in
set_option maxRecDepth 100000 in
theorem wv_mK_badBlocks_35 {p : Program} {l : Launch} {e : Env} {s : State} {m : MethodId} {args : Array Value} {below : List Frame} {meth : Method} {c : Code} {D : va_G} {cy : Nat → ClassId} {A : Nat → Prop} {ad : Nat → Nat} {MC MS : Nat} {Φ : Int32 → Mm → Prop} {fu : Nat} {k_4 : Nat → Nat → Mm → Nat → Int32 → Int32 → Prop} (F : Fx p s m args meth c b_K_badBlocks 3 "CoinKeeper" "badBlocks" (some .int) D cy ad A) (hk_4 : Iw_mK_badBlocks_4 p l e s m args below meth c D cy A ad MC MS Φ k_4) : Iw_mK_badBlocks_35 p l e s m args below meth c D cy A ad MC MS Φ (xv_mK_badBlocks_35 fu MC MS cy ad Φ k_4) := by
  obtain ⟨hx, hb, hr, hml, hown, hts, hlocks, hK, hA, hSt, hnm, hex⟩ := id F
  intro κ σ M x0 x1 x2 hf hkc hks H locs ls hP hD hS hl
  unfold xv_mK_badBlocks_35 at hf
  obtain ⟨v1, ev, hf⟩ := bnP hf
  refine lv_iinc (v := v1) (lv' := [(2, .int v1), (0, .ref x0), (1, .int x1)]) hx hb d_K_badBlocks_35 hl (k := 2) rfl (by rw [ev]; rfl) (by decide) rfl (fun ls hl => ?_)
  clear ev
  refine lv_goto (tgt := 4) hx hb d_K_badBlocks_38 (by decide) ?_
  exact hk_4 _ _ _ _ _ _ hf hkc hks _ _ _ hP hD hS (lv_sub hl [1, 2, 0] rfl)
def xv_mK_badBlocks_4 (fu MC MS : Nat) (cy : Nat → ClassId) (ad : Nat → Nat) (Φ : Int32 → Mm → Prop) (k_4 : Nat → Nat → Mm → Nat → Int32 → Int32 → Prop) (κ σ : Nat) (M : Mm) (x0 : Nat) (x1 : Int32) (x2 : Int32) : Prop :=
  mgr M x0 0 8 fun r1 => osp r1 (False) fun q2 => mck M q2 11 <| ∃ mc3 ms4 : Nat, (κ + mc3 ≤ MC ∧ σ + ms4 ≤ MS) ∧ xw_mAl_size fu mc3 ms4 cy ad (fun v6 M5 => if v6 ≤ x2 then (Φ x1 M5) else (mgr M5 x0 0 8 fun r7 => osp r7 (False) fun q8 => mck M5 q8 11 <| ∃ mc9 ms10 : Nat, (κ + mc3 + mc9 ≤ MC ∧ σ + ms4 + ms10 ≤ MS) ∧ xw_mAl_get fu mc9 ms10 cy ad (fun v12 M11 => osp v12 (False) fun q13 => mck M11 q13 1 <| mgi M11 q13 1 9 fun v14 => if v14 = 0 then (xv_mK_badBlocks_35 fu MC MS cy ad Φ k_4 (κ + mc3 + mc9) (σ + ms4 + ms10) M11 x0 x1 x2) else (bnd (x1 + (1 : Int32)) fun v15 => xv_mK_badBlocks_35 fu MC MS cy ad Φ k_4 (κ + mc3 + mc9) (σ + ms4 + ms10) M11 x0 v15 x2)) 0 0 M5 q8 x2)) 0 0 M q2
set_option maxHeartbeats 8000000 in
set_option maxRecDepth 100000 in
theorem wv_mK_badBlocks_4 {p : Program} {l : Launch} {e : Env} {s : State} {m : MethodId} {args : Array Value} {below : List Frame} {meth : Method} {c : Code} {D : va_G} {cy : Nat → ClassId} {A : Nat → Prop} {ad : Nat → Nat} {MC MS : Nat} {Φ : Int32 → Mm → Prop} {fu : Nat} {k_4 : Nat → Nat → Mm → Nat → Int32 → Int32 → Prop} (F : Fx p s m args meth c b_K_badBlocks 3 "CoinKeeper" "badBlocks" (some .int) D cy ad A) (hk_4 : Iw_mK_badBlocks_4 p l e s m args below meth c D cy A ad MC MS Φ k_4) : Iw_mK_badBlocks_4 p l e s m args below meth c D cy A ad MC MS Φ (xv_mK_badBlocks_4 fu MC MS cy ad Φ k_4) := by
  obtain ⟨hx, hb, hr, hml, hown, hts, hlocks, hK, hA, hSt, hnm, hex⟩ := id F
  intro κ σ M x0 x1 x2 hf hkc hks H locs ls hP hD hS hl
  unfold xv_mK_badBlocks_4 at hf
  refine lv_iload_n hx hb d_K_badBlocks_4 rfl (lv_at hl 2 rfl) ?_
  refine lv_aload_n hx hb d_K_badBlocks_5 rfl (lv_at hl 0 rfl) ?_
  obtain ⟨fs_, hm_, r1, hv_, hf⟩ := hf
  obtain ⟨ix_, hi_⟩ := m_ix hm_
  refine va_get (D := D) (ci := 0) (v := va_rf r1) (C := "CoinKeeper") (T := F_0) (N := 13) hx hb hts i_0 hown hK hP ix_ hi_ rfl 8 (by decide) (hts _ gw_508) (fun _ h9 => h9) hv_ d_K_badBlocks_6 ?_
  clear hv_ hi_ hm_
  have hq_ := ospp hf
  clear hf
  rcases hq_ with ⟨rfl, hf⟩ | ⟨q2, rfl, hf⟩
  · refine W.eq (g2 := F0 m 9 ls [.null, .int x2]) rfl ?_
    exact hf.elim
  · refine W.eq (g2 := F0 m 9 ls [.ref q2, .int x2]) rfl ?_
    obtain ⟨fs_, hm_, hf⟩ := hf
    obtain ⟨ix_, hi_⟩ := m_ix hm_
    obtain ⟨mc3, ms4, ⟨hc_, hd_⟩, hf⟩ := hf
    refine m_ai (va_runV (C := "java/util/ArrayList") (As := []) (rest := [.int x2]) ⟨hx, hb, hml, hown, hts⟩ (cw_mAl_size l D cy ad fu mc3 ms4 q2 M _ hf H.size) ⟨q_cB hts gw_551 gw_12 gw_673 hdq_4 ⟨Nat.le_of_ble_eq_true rfl, Nat.le_of_ble_eq_true rfl⟩, hts _ gw_549, hts _ gw_550⟩ (q_preV (q_pre hP hD hK hSt hS (m_free hD hS hA) _) (va_recv hK hP (ci := 11) (q0 := ix_) rfl hi_)) rfl rfl hl.1 rfl (lv_room (Nat.le_of_ble_eq_true rfl)) d_K_badBlocks_9 ⟨hc_, hd_⟩) hD hS hA (fun v6 M5 H locs hf hP hD hS => ?_)
    have hkc : κ + mc3 ≤ MC := hc_
    have hks : σ + ms4 ≤ MS := hd_
    clear hc_ hd_
    refine lv_icmp_ge (tgt := 41) hx hb d_K_badBlocks_12 (by decide) (fun cx => ?_) (fun cx => ?_)
    · have hf := ifpP cx hf
      refine lv_iload_n hx hb d_K_badBlocks_41 rfl (lv_at hl 1 rfl) ?_
      refine W.widen (k := MC) (n := MS) hkc hks ?_
      exact m_ri hf hx hb hr hlocks hK hP hD hS d_K_badBlocks_42
    · have hf := ifnP cx hf
      refine lv_aload_n hx hb d_K_badBlocks_15 rfl (lv_at hl 0 rfl) ?_
      obtain ⟨fs_, hm_, r7, hv_, hf⟩ := hf
      obtain ⟨ix_, hi_⟩ := m_ix hm_
      refine va_get (D := D) (ci := 0) (v := va_rf r7) (C := "CoinKeeper") (T := F_0) (N := 13) hx hb hts i_0 hown hK hP ix_ hi_ rfl 8 (by decide) (hts _ gw_508) (fun _ h9 => h9) hv_ d_K_badBlocks_16 ?_
      clear hv_ hi_ hm_
      have hq_ := ospp hf
      clear hf
      rcases hq_ with ⟨rfl, hf⟩ | ⟨q8, rfl, hf⟩
      · refine W.eq (g2 := F0 m 19 ls [.null]) rfl ?_
        refine lv_iload_n hx hb d_K_badBlocks_19 rfl (lv_at hl 2 rfl) ?_
        exact hf.elim
      · refine W.eq (g2 := F0 m 19 ls [.ref q8]) rfl ?_
        refine lv_iload_n hx hb d_K_badBlocks_19 rfl (lv_at hl 2 rfl) ?_
        obtain ⟨fs_, hm_, hf⟩ := hf
        obtain ⟨ix_, hi_⟩ := m_ix hm_
        obtain ⟨mc9, ms10, ⟨hc_, hd_⟩, hf⟩ := hf
        refine m_aq (va_runV (C := "java/util/ArrayList") (As := [.int x2]) (rest := []) ⟨hx, hb, hml, hown, hts⟩ (cw_mAl_get l D cy ad fu mc9 ms10 q8 x2 M5 _ hf H.size) ⟨q_cB hts gw_555 gw_12 gw_743 hdq_5 ⟨Nat.le_of_ble_eq_true rfl, Nat.le_of_ble_eq_true rfl⟩, hts _ gw_553, hts _ gw_554⟩ (q_preV (q_pre hP hD hK hSt hS (m_free hD hS hA) _) (va_recv hK hP (ci := 11) (q0 := ix_) rfl hi_)) rfl rfl hl.1 rfl (lv_room (Nat.le_of_ble_eq_true rfl)) d_K_badBlocks_20 ⟨hc_, hd_⟩) hD hS hA (fun v12 M11 H locs hf hP hD hS => ?_)
        have hkc : κ + mc3 + mc9 ≤ MC := hc_
        have hks : σ + ms4 + ms10 ≤ MS := hd_
        clear hc_ hd_
        have hq_ := ospp hf
        clear hf
        rcases hq_ with ⟨rfl, hf⟩ | ⟨q13, rfl, hf⟩
        · refine W.eq (g2 := F0 m 23 ls [.null]) rfl ?_
          refine lv_castN hx hb d_K_badBlocks_23 ?_
          exact hf.elim
        · refine W.eq (g2 := F0 m 23 ls [.ref q13]) rfl ?_
          obtain ⟨fs_, hm_, hf⟩ := hf
          obtain ⟨ix_, hi_⟩ := m_ix hm_
          refine va_castY (C := "CoinKeeper$Block") hx hb hown (hts _ gw_374) (hSt.2.1 _ (List.mem_of_getElem? (i := 24) rfl)) (va_recv hK hP (ci := 1) (q0 := ix_) rfl hi_) d_K_badBlocks_23 ?_
          clear hi_ hm_
          obtain ⟨fs_, hm_, v14, hv_, hf⟩ := hf
          obtain ⟨ix_, hi_⟩ := m_ix hm_
          refine va_get (D := D) (ci := 1) (v := .int v14) (C := "CoinKeeper$Block") (T := F_1) (N := 12) hx hb hts i_1 hown hK hP ix_ hi_ rfl 9 (by decide) (hts _ gw_409) (fun _ h9 => h9) hv_ d_K_badBlocks_26 ?_
          clear hv_ hi_ hm_
          refine lv_if_eq (tgt := 35) hx hb d_K_badBlocks_29 (by decide) (fun cx => ?_) (fun cx => ?_)
          · have hf := ifpP cx hf
            exact wv_mK_badBlocks_35 (fu := fu) F hk_4 _ _ _ _ _ _ hf hkc hks _ _ _ hP hD hS (lv_sub hl [0, 1, 2] rfl)
          · have hf := ifnP cx hf
            obtain ⟨v15, ev, hf⟩ := bnP hf
            refine lv_iinc (v := v15) (lv' := [(1, .int v15), (0, .ref x0), (2, .int x2)]) hx hb d_K_badBlocks_32 hl (k := 1) rfl (by rw [ev]; rfl) (by decide) rfl (fun ls hl => ?_)
            clear ev
            exact wv_mK_badBlocks_35 (fu := fu) F hk_4 _ _ _ _ _ _ hf hkc hks _ _ _ hP hD hS (lv_sub hl [1, 0, 2] rfl)
def xw_mK_badBlocks_4 (fu MC MS : Nat) (cy : Nat → ClassId) (ad : Nat → Nat) (Φ : Int32 → Mm → Prop) : Nat → Nat → Nat → Mm → Nat → Int32 → Int32 → Prop
  | 0 => fun _ _ _ _ _ _ => False
  | n + 1 => xv_mK_badBlocks_4 fu MC MS cy ad Φ (xw_mK_badBlocks_4 fu MC MS cy ad Φ n)
theorem ww_mK_badBlocks_4 {p : Program} {l : Launch} {e : Env} {s : State} {m : MethodId} {args : Array Value} {below : List Frame} {meth : Method} {c : Code} {D : va_G} {cy : Nat → ClassId} {A : Nat → Prop} {ad : Nat → Nat} {MC MS : Nat} {Φ : Int32 → Mm → Prop} {fu : Nat} (F : Fx p s m args meth c b_K_badBlocks 3 "CoinKeeper" "badBlocks" (some .int) D cy ad A) : ∀ n : Nat, Iw_mK_badBlocks_4 p l e s m args below meth c D cy A ad MC MS Φ (xw_mK_badBlocks_4 fu MC MS cy ad Φ n)
  | 0 => fun _ _ _ _ _ _ hf => False.elim hf
  | n + 1 => wv_mK_badBlocks_4 F (ww_mK_badBlocks_4 F n)
def xw_mK_badBlocks (fu MC MS : Nat) (cy : Nat → ClassId) (ad : Nat → Nat) (Φ : Int32 → Mm → Prop) (κ σ : Nat) (M : Mm) (a0 : Nat) : Prop :=
  xw_mK_badBlocks_4 fu MC MS cy ad Φ fu κ σ M a0 (0 : Int32) (0 : Int32)
set_option maxHeartbeats 8000000 in
set_option maxRecDepth 100000 in
theorem wew_mK_badBlocks {p : Program} {l : Launch} {e : Env} {s : State} {m : MethodId} {args : Array Value} {below : List Frame} {meth : Method} {c : Code} {D : va_G} {cy : Nat → ClassId} {A : Nat → Prop} {ad : Nat → Nat} {MC MS : Nat} {Φ : Int32 → Mm → Prop} {fu : Nat} (F : Fx p s m args meth c b_K_badBlocks 3 "CoinKeeper" "badBlocks" (some .int) D cy ad A) : Iw_mK_badBlocks_e p l e s m args below meth c D cy A ad MC MS Φ (xw_mK_badBlocks fu MC MS cy ad Φ) := by
  obtain ⟨hx, hb, hr, hml, hown, hts, hlocks, hK, hA, hSt, hnm, hex⟩ := id F
  intro κ σ M a0 hf hkc hks H locs ls hP hD hS hl
  unfold xw_mK_badBlocks at hf
  refine lv_iconst (v := 0) hx hb d_K_badBlocks_0 (by decide) ?_
  refine lv_istore_n (lv' := [(1, .int (0 : Int32)), (0, .ref a0)]) hx hb d_K_badBlocks_1 rfl hl (by decide) rfl (fun ls hl => ?_)
  refine lv_iconst (v := 0) hx hb d_K_badBlocks_2 (by decide) ?_
  refine lv_istore_n (lv' := [(2, .int (0 : Int32)), (1, .int (0 : Int32)), (0, .ref a0)]) hx hb d_K_badBlocks_3 rfl hl (by decide) rfl (fun ls hl => ?_)
  exact ww_mK_badBlocks_4 F fu _ _ _ _ _ _ hf hkc hks _ _ _ hP hD hS (lv_sub hl [2, 1, 0] rfl)
theorem cw_mK_badBlocks (l : Launch) (D : va_G) (cy : Nat → ClassId) (ad : Nat → Nat) (fu MC MS : Nat) (a0 : Nat) (M : Mm) (Φ : Int32 → Mm → Prop) (hf : xw_mK_badBlocks fu MC MS cy ad Φ 0 0 M a0) (sz : Nat) : Met l ({ cls := "CoinKeeper", name := "badBlocks", desc := "()I" } : Jvm.MethodName) (.code ({ cls := "CoinKeeper", name := "badBlocks", desc := "()I" } : Jvm.MethodName) b_K_badBlocks 3 (some .int) :: gw) (rmw_mK_badBlocks MC MS) (va_Pc [.ref a0] (Pr D cy ad (mw M) sz)) (va_Qi Φ (fun u t => Po D cy (va_A (mw M) sz) (mw u) t) (va_A (mw M) sz)) MC MS (va_A (mw M) sz) :=
  q_met (Qc := fun A => va_Qi Φ (fun u t => Po D cy A (mw u) t) A) (by decide) rfl rfl (Nat.le_of_ble_eq_true rfl) (fun p e s m below meth c ls F hP hD hS hl => wew_mK_badBlocks (fu := fu) F 0 0 M a0 hf (Nat.zero_le _) (Nat.zero_le _) _ _ _ hP hD hS hl) sz
abbrev b_K_spoil : ByteArray := prog_1_method_21_code
theorem d_K_spoil_0 : decode b_K_spoil 0 = .ok (.aload_n 1, 1) := by decide +kernel
theorem d_K_spoil_1 : decode b_K_spoil 1 = .ok (.iconst 1, 1) := by decide +kernel
theorem d_K_spoil_2 : decode b_K_spoil 2 = .ok (.putfield 213, 3) := by decide +kernel
theorem d_K_spoil_5 : decode b_K_spoil 5 = .ok (.iconst 1, 1) := by decide +kernel
theorem d_K_spoil_6 : decode b_K_spoil 6 = .ok (.istore_n 2, 1) := by decide +kernel
theorem d_K_spoil_7 : decode b_K_spoil 7 = .ok (.iload_n 2, 1) := by decide +kernel
theorem d_K_spoil_8 : decode b_K_spoil 8 = .ok (.aload_n 0, 1) := by decide +kernel
theorem d_K_spoil_9 : decode b_K_spoil 9 = .ok (.getfield 56, 3) := by decide +kernel
theorem d_K_spoil_12 : decode b_K_spoil 12 = .ok (.invokevirtual 93, 3) := by decide +kernel
theorem d_K_spoil_15 : decode b_K_spoil 15 = .ok (.if_icmp .ge 43, 3) := by decide +kernel
theorem d_K_spoil_18 : decode b_K_spoil 18 = .ok (.aload_n 0, 1) := by decide +kernel
theorem d_K_spoil_19 : decode b_K_spoil 19 = .ok (.getfield 56, 3) := by decide +kernel
theorem d_K_spoil_22 : decode b_K_spoil 22 = .ok (.iload_n 2, 1) := by decide +kernel
theorem d_K_spoil_23 : decode b_K_spoil 23 = .ok (.invokevirtual 232, 3) := by decide +kernel
theorem d_K_spoil_26 : decode b_K_spoil 26 = .ok (.checkcast 66, 3) := by decide +kernel
theorem d_K_spoil_29 : decode b_K_spoil 29 = .ok (.astore_n 3, 1) := by decide +kernel
theorem d_K_spoil_30 : decode b_K_spoil 30 = .ok (.aload_n 3, 1) := by decide +kernel
theorem d_K_spoil_31 : decode b_K_spoil 31 = .ok (.getfield 330, 3) := by decide +kernel
theorem d_K_spoil_34 : decode b_K_spoil 34 = .ok (.ifnull 18, 3) := by decide +kernel
theorem d_K_spoil_37 : decode b_K_spoil 37 = .ok (.aload_n 3, 1) := by decide +kernel
theorem d_K_spoil_38 : decode b_K_spoil 38 = .ok (.getfield 330, 3) := by decide +kernel
theorem d_K_spoil_41 : decode b_K_spoil 41 = .ok (.getfield 213, 3) := by decide +kernel
theorem d_K_spoil_44 : decode b_K_spoil 44 = .ok (.ifCond .eq 8, 3) := by decide +kernel
theorem d_K_spoil_47 : decode b_K_spoil 47 = .ok (.aload_n 3, 1) := by decide +kernel
theorem d_K_spoil_48 : decode b_K_spoil 48 = .ok (.iconst 1, 1) := by decide +kernel
theorem d_K_spoil_49 : decode b_K_spoil 49 = .ok (.putfield 213, 3) := by decide +kernel
theorem d_K_spoil_52 : decode b_K_spoil 52 = .ok (.iinc 2 1, 3) := by decide +kernel
theorem d_K_spoil_55 : decode b_K_spoil 55 = .ok (.goto (-48), 3) := by decide +kernel
theorem d_K_spoil_58 : decode b_K_spoil 58 = .ok (.return_, 1) := by decide +kernel
abbrev rmw_mK_spoil (MC MS : Nat) : Room := { frames := 3, cells := MC, slots := MS, locals := 64 }
def Iw_mK_spoil_52 (p : Program) (l : Launch) (e : Env) (s : State) (m : MethodId) (args : Array Value) (below : List Frame) (meth : Method) (c : Code) (D : va_G) (cy : Nat → ClassId) (A : Nat → Prop) (ad : Nat → Nat) (MC MS : Nat) (Φ : Mm → Prop) (k : Nat → Nat → Mm → Nat → Int32 → Prop) : Prop :=
  ∀ (κ σ : Nat) (M : Mm) (x0 : Nat) (x2 : Int32), k κ σ M x0 x2 → κ ≤ MC → σ ≤ MS → ∀ (H : Heap) (locs : List Loc) (ls : Array Slot), va_P D classes (mw M) H → va_D A (mw M) → va_S A s.heap H locs → lv_has ls 4 [(0, .ref x0), (2, .int x2)] → W p l e (rmw_mK_spoil MC MS) s m args below meth c H locs κ σ (MQ below (va_Qv Φ (fun u t => Po D cy A (mw u) t) A) args s MC MS A) (F0 m 52 ls [])
def Iw_mK_spoil_7 (p : Program) (l : Launch) (e : Env) (s : State) (m : MethodId) (args : Array Value) (below : List Frame) (meth : Method) (c : Code) (D : va_G) (cy : Nat → ClassId) (A : Nat → Prop) (ad : Nat → Nat) (MC MS : Nat) (Φ : Mm → Prop) (k : Nat → Nat → Mm → Nat → Int32 → Prop) : Prop :=
  ∀ (κ σ : Nat) (M : Mm) (x0 : Nat) (x2 : Int32), k κ σ M x0 x2 → κ ≤ MC → σ ≤ MS → ∀ (H : Heap) (locs : List Loc) (ls : Array Slot), va_P D classes (mw M) H → va_D A (mw M) → va_S A s.heap H locs → lv_has ls 4 [(0, .ref x0), (2, .int x2)] → W p l e (rmw_mK_spoil MC MS) s m args below meth c H locs κ σ (MQ below (va_Qv Φ (fun u t => Po D cy A (mw u) t) A) args s MC MS A) (F0 m 7 ls [])
def Iw_mK_spoil_e (p : Program) (l : Launch) (e : Env) (s : State) (m : MethodId) (args : Array Value) (below : List Frame) (meth : Method) (c : Code) (D : va_G) (cy : Nat → ClassId) (A : Nat → Prop) (ad : Nat → Nat) (MC MS : Nat) (Φ : Mm → Prop) (k : Nat → Nat → Mm → Nat → Nat → Prop) : Prop :=
  ∀ (κ σ : Nat) (M : Mm) (a0 : Nat) (a1 : Nat), k κ σ M a0 a1 → κ ≤ MC → σ ≤ MS → ∀ (H : Heap) (locs : List Loc) (ls : Array Slot), va_P D classes (mw M) H → va_D A (mw M) → va_S A s.heap H locs → lv_has ls 4 [(0, .ref a0), (1, .ref a1)] → W p l e (rmw_mK_spoil MC MS) s m args below meth c H locs κ σ (MQ below (va_Qv Φ (fun u t => Po D cy A (mw u) t) A) args s MC MS A) (F0 m 0 ls [])
def xv_mK_spoil_52 (fu MC MS : Nat) (cy : Nat → ClassId) (ad : Nat → Nat) (Φ : Mm → Prop) (k_7 : Nat → Nat → Mm → Nat → Int32 → Prop) (κ σ : Nat) (M : Mm) (x0 : Nat) (x2 : Int32) : Prop :=
  bnd (x2 + (1 : Int32)) fun v1 => k_7 κ σ M x0 v1
set_option maxHeartbeats 8000000 in
set_option maxRecDepth 100000 in
theorem wv_mK_spoil_52 {p : Program} {l : Launch} {e : Env} {s : State} {m : MethodId} {args : Array Value} {below : List Frame} {meth : Method} {c : Code} {D : va_G} {cy : Nat → ClassId} {A : Nat → Prop} {ad : Nat → Nat} {MC MS : Nat} {Φ : Mm → Prop} {fu : Nat} {k_7 : Nat → Nat → Mm → Nat → Int32 → Prop} (F : Fx p s m args meth c b_K_spoil 4 "CoinKeeper" "spoil" none D cy ad A) (hk_7 : Iw_mK_spoil_7 p l e s m args below meth c D cy A ad MC MS Φ k_7) : Iw_mK_spoil_52 p l e s m args below meth c D cy A ad MC MS Φ (xv_mK_spoil_52 fu MC MS cy ad Φ k_7) := by
  obtain ⟨hx, hb, hr, hml, hown, hts, hlocks, hK, hA, hSt, hnm, hex⟩ := id F
  intro κ σ M x0 x2 hf hkc hks H locs ls hP hD hS hl
  unfold xv_mK_spoil_52 at hf
  obtain ⟨v1, ev, hf⟩ := bnP hf
  refine lv_iinc (v := v1) (lv' := [(2, .int v1), (0, .ref x0)]) hx hb d_K_spoil_52 hl (k := 1) rfl (by rw [ev]; rfl) (by decide) rfl (fun ls hl => ?_)
  clear ev
  refine lv_goto (tgt := 7) hx hb d_K_spoil_55 (by decide) ?_
  exact hk_7 _ _ _ _ _ hf hkc hks _ _ _ hP hD hS (lv_sub hl [1, 0] rfl)
def xv_mK_spoil_7 (fu MC MS : Nat) (cy : Nat → ClassId) (ad : Nat → Nat) (Φ : Mm → Prop) (k_7 : Nat → Nat → Mm → Nat → Int32 → Prop) (κ σ : Nat) (M : Mm) (x0 : Nat) (x2 : Int32) : Prop :=
  mgr M x0 0 8 fun r1 => osp r1 (False) fun q2 => mck M q2 11 <| ∃ mc3 ms4 : Nat, (κ + mc3 ≤ MC ∧ σ + ms4 ≤ MS) ∧ xw_mAl_size fu mc3 ms4 cy ad (fun v6 M5 => if v6 ≤ x2 then (Φ M5) else (mgr M5 x0 0 8 fun r7 => osp r7 (False) fun q8 => mck M5 q8 11 <| ∃ mc9 ms10 : Nat, (κ + mc3 + mc9 ≤ MC ∧ σ + ms4 + ms10 ≤ MS) ∧ xw_mAl_get fu mc9 ms10 cy ad (fun v12 M11 => osp v12 (False) fun q13 => mck M11 q13 1 <| mgr M11 q13 1 0 fun r14 => osp r14 (xv_mK_spoil_52 fu MC MS cy ad Φ k_7 (κ + mc3 + mc9) (σ + ms4 + ms10) M11 x0 x2) fun q15 => mgr M11 q13 1 0 fun r16 => osp r16 (False) fun q17 => mgi M11 q17 1 9 fun v18 => if v18 = 0 then (xv_mK_spoil_52 fu MC MS cy ad Φ k_7 (κ + mc3 + mc9) (σ + ms4 + ms10) M11 x0 x2) else (mpt M11 q13 1 9 (.int (1 : Int32)) fun M19 => xv_mK_spoil_52 fu MC MS cy ad Φ k_7 (κ + mc3 + mc9) (σ + ms4 + ms10) M19 x0 x2)) 0 0 M5 q8 x2)) 0 0 M q2
set_option maxHeartbeats 8000000 in
set_option maxRecDepth 100000 in
theorem wv_mK_spoil_7 {p : Program} {l : Launch} {e : Env} {s : State} {m : MethodId} {args : Array Value} {below : List Frame} {meth : Method} {c : Code} {D : va_G} {cy : Nat → ClassId} {A : Nat → Prop} {ad : Nat → Nat} {MC MS : Nat} {Φ : Mm → Prop} {fu : Nat} {k_7 : Nat → Nat → Mm → Nat → Int32 → Prop} (F : Fx p s m args meth c b_K_spoil 4 "CoinKeeper" "spoil" none D cy ad A) (hk_7 : Iw_mK_spoil_7 p l e s m args below meth c D cy A ad MC MS Φ k_7) : Iw_mK_spoil_7 p l e s m args below meth c D cy A ad MC MS Φ (xv_mK_spoil_7 fu MC MS cy ad Φ k_7) := by
  obtain ⟨hx, hb, hr, hml, hown, hts, hlocks, hK, hA, hSt, hnm, hex⟩ := id F
  intro κ σ M x0 x2 hf hkc hks H locs ls hP hD hS hl
  unfold xv_mK_spoil_7 at hf
  refine lv_iload_n hx hb d_K_spoil_7 rfl (lv_at hl 1 rfl) ?_
  refine lv_aload_n hx hb d_K_spoil_8 rfl (lv_at hl 0 rfl) ?_
  obtain ⟨fs_, hm_, r1, hv_, hf⟩ := hf
  obtain ⟨ix_, hi_⟩ := m_ix hm_
  refine va_get (D := D) (ci := 0) (v := va_rf r1) (C := "CoinKeeper") (T := F_0) (N := 13) hx hb hts i_0 hown hK hP ix_ hi_ rfl 8 (by decide) (hts _ gw_508) (fun _ h9 => h9) hv_ d_K_spoil_9 ?_
  clear hv_ hi_ hm_
  have hq_ := ospp hf
  clear hf
  rcases hq_ with ⟨rfl, hf⟩ | ⟨q2, rfl, hf⟩
  · refine W.eq (g2 := F0 m 12 ls [.null, .int x2]) rfl ?_
    exact hf.elim
  · refine W.eq (g2 := F0 m 12 ls [.ref q2, .int x2]) rfl ?_
    obtain ⟨fs_, hm_, hf⟩ := hf
    obtain ⟨ix_, hi_⟩ := m_ix hm_
    obtain ⟨mc3, ms4, ⟨hc_, hd_⟩, hf⟩ := hf
    refine m_ai (va_runV (C := "java/util/ArrayList") (As := []) (rest := [.int x2]) ⟨hx, hb, hml, hown, hts⟩ (cw_mAl_size l D cy ad fu mc3 ms4 q2 M _ hf H.size) ⟨q_cB hts gw_551 gw_12 gw_673 hdq_4 ⟨Nat.le_of_ble_eq_true rfl, Nat.le_of_ble_eq_true rfl⟩, hts _ gw_549, hts _ gw_550⟩ (q_preV (q_pre hP hD hK hSt hS (m_free hD hS hA) _) (va_recv hK hP (ci := 11) (q0 := ix_) rfl hi_)) rfl rfl hl.1 rfl (lv_room (Nat.le_of_ble_eq_true rfl)) d_K_spoil_12 ⟨hc_, hd_⟩) hD hS hA (fun v6 M5 H locs hf hP hD hS => ?_)
    have hkc : κ + mc3 ≤ MC := hc_
    have hks : σ + ms4 ≤ MS := hd_
    clear hc_ hd_
    refine lv_icmp_ge (tgt := 58) hx hb d_K_spoil_15 (by decide) (fun cx => ?_) (fun cx => ?_)
    · have hf := ifpP cx hf
      refine W.widen (k := MC) (n := MS) hkc hks ?_
      exact m_rv hf hx hb hr hlocks hK hP hD hS d_K_spoil_58
    · have hf := ifnP cx hf
      refine lv_aload_n hx hb d_K_spoil_18 rfl (lv_at hl 0 rfl) ?_
      obtain ⟨fs_, hm_, r7, hv_, hf⟩ := hf
      obtain ⟨ix_, hi_⟩ := m_ix hm_
      refine va_get (D := D) (ci := 0) (v := va_rf r7) (C := "CoinKeeper") (T := F_0) (N := 13) hx hb hts i_0 hown hK hP ix_ hi_ rfl 8 (by decide) (hts _ gw_508) (fun _ h9 => h9) hv_ d_K_spoil_19 ?_
      clear hv_ hi_ hm_
      have hq_ := ospp hf
      clear hf
      rcases hq_ with ⟨rfl, hf⟩ | ⟨q8, rfl, hf⟩
      · refine W.eq (g2 := F0 m 22 ls [.null]) rfl ?_
        refine lv_iload_n hx hb d_K_spoil_22 rfl (lv_at hl 1 rfl) ?_
        exact hf.elim
      · refine W.eq (g2 := F0 m 22 ls [.ref q8]) rfl ?_
        refine lv_iload_n hx hb d_K_spoil_22 rfl (lv_at hl 1 rfl) ?_
        obtain ⟨fs_, hm_, hf⟩ := hf
        obtain ⟨ix_, hi_⟩ := m_ix hm_
        obtain ⟨mc9, ms10, ⟨hc_, hd_⟩, hf⟩ := hf
        refine m_aq (va_runV (C := "java/util/ArrayList") (As := [.int x2]) (rest := []) ⟨hx, hb, hml, hown, hts⟩ (cw_mAl_get l D cy ad fu mc9 ms10 q8 x2 M5 _ hf H.size) ⟨q_cB hts gw_555 gw_12 gw_743 hdq_5 ⟨Nat.le_of_ble_eq_true rfl, Nat.le_of_ble_eq_true rfl⟩, hts _ gw_553, hts _ gw_554⟩ (q_preV (q_pre hP hD hK hSt hS (m_free hD hS hA) _) (va_recv hK hP (ci := 11) (q0 := ix_) rfl hi_)) rfl rfl hl.1 rfl (lv_room (Nat.le_of_ble_eq_true rfl)) d_K_spoil_23 ⟨hc_, hd_⟩) hD hS hA (fun v12 M11 H locs hf hP hD hS => ?_)
        have hkc : κ + mc3 + mc9 ≤ MC := hc_
        have hks : σ + ms4 + ms10 ≤ MS := hd_
        clear hc_ hd_
        have hq_ := ospp hf
        clear hf
        rcases hq_ with ⟨rfl, hf⟩ | ⟨q13, rfl, hf⟩
        · refine W.eq (g2 := F0 m 26 ls [.null]) rfl ?_
          refine lv_castN hx hb d_K_spoil_26 ?_
          refine lv_astore_nN (lv' := [(3, .null), (0, .ref x0), (2, .int x2)]) hx hb d_K_spoil_29 rfl hl (by decide) rfl (fun ls hl => ?_)
          refine lv_aload_nN hx hb d_K_spoil_30 rfl (lv_at hl 0 rfl) ?_
          exact hf.elim
        · refine W.eq (g2 := F0 m 26 ls [.ref q13]) rfl ?_
          obtain ⟨fs_, hm_, hf⟩ := hf
          obtain ⟨ix_, hi_⟩ := m_ix hm_
          refine va_castY (C := "CoinKeeper$Block") hx hb hown (hts _ gw_374) (hSt.2.1 _ (List.mem_of_getElem? (i := 24) rfl)) (va_recv hK hP (ci := 1) (q0 := ix_) rfl hi_) d_K_spoil_26 ?_
          clear hi_ hm_
          refine lv_astore_n (lv' := [(3, .ref q13), (0, .ref x0), (2, .int x2)]) hx hb d_K_spoil_29 rfl hl (by decide) rfl (fun ls hl => ?_)
          refine lv_aload_n hx hb d_K_spoil_30 rfl (lv_at hl 0 rfl) ?_
          obtain ⟨fs_, hm_, r14, hv_, hf⟩ := hf
          obtain ⟨ix_, hi_⟩ := m_ix hm_
          refine va_get (D := D) (ci := 1) (v := va_rf r14) (C := "CoinKeeper$Block") (T := F_1) (N := 12) hx hb hts i_1 hown hK hP ix_ hi_ rfl 0 (by decide) (hts _ gw_391) (fun _ h9 => h9) hv_ d_K_spoil_31 ?_
          clear hv_ hi_ hm_
          have hq_ := ospp hf
          clear hf
          rcases hq_ with ⟨rfl, hf⟩ | ⟨q15, rfl, hf⟩
          · refine W.eq (g2 := F0 m 34 ls [.null]) rfl ?_
            refine lv_ifnullN (tgt := 52) hx hb d_K_spoil_34 (by decide) ?_
            exact wv_mK_spoil_52 (fu := fu) F hk_7 _ _ _ _ _ hf hkc hks _ _ _ hP hD hS (lv_sub hl [1, 2] rfl)
          · refine W.eq (g2 := F0 m 34 ls [.ref q15]) rfl ?_
            refine lv_ifnull hx hb d_K_spoil_34 ?_
            refine lv_aload_n hx hb d_K_spoil_37 rfl (lv_at hl 0 rfl) ?_
            obtain ⟨fs_, hm_, r16, hv_, hf⟩ := hf
            obtain ⟨ix_, hi_⟩ := m_ix hm_
            refine va_get (D := D) (ci := 1) (v := va_rf r16) (C := "CoinKeeper$Block") (T := F_1) (N := 12) hx hb hts i_1 hown hK hP ix_ hi_ rfl 0 (by decide) (hts _ gw_391) (fun _ h9 => h9) hv_ d_K_spoil_38 ?_
            clear hv_ hi_ hm_
            have hq_ := ospp hf
            clear hf
            rcases hq_ with ⟨rfl, hf⟩ | ⟨q17, rfl, hf⟩
            · refine W.eq (g2 := F0 m 41 ls [.null]) rfl ?_
              exact hf.elim
            · refine W.eq (g2 := F0 m 41 ls [.ref q17]) rfl ?_
              obtain ⟨fs_, hm_, v18, hv_, hf⟩ := hf
              obtain ⟨ix_, hi_⟩ := m_ix hm_
              refine va_get (D := D) (ci := 1) (v := .int v18) (C := "CoinKeeper$Block") (T := F_1) (N := 12) hx hb hts i_1 hown hK hP ix_ hi_ rfl 9 (by decide) (hts _ gw_409) (fun _ h9 => h9) hv_ d_K_spoil_41 ?_
              clear hv_ hi_ hm_
              refine lv_if_eq (tgt := 52) hx hb d_K_spoil_44 (by decide) (fun cx => ?_) (fun cx => ?_)
              · have hf := ifpP cx hf
                exact wv_mK_spoil_52 (fu := fu) F hk_7 _ _ _ _ _ hf hkc hks _ _ _ hP hD hS (lv_sub hl [1, 2] rfl)
              · have hf := ifnP cx hf
                refine lv_aload_n hx hb d_K_spoil_47 rfl (lv_at hl 0 rfl) ?_
                refine lv_iconst (v := 1) hx hb d_K_spoil_48 (by decide) ?_
                obtain ⟨fs_, hm_, hlen_, hf⟩ := hf
                obtain ⟨ix_, hi_⟩ := m_ix hm_
                have hE_ := m_set (y := .inr (1, fs_.set 9 (.int (1 : Int32)))) hD hi_
                refine va_put (D := D) (ci := 1) (v := .int (1 : Int32)) (ty := .boolean) (C := "CoinKeeper$Block") (T := F_1) (N := 12) hx hb hts i_1 t_1 t_1_ok n_1 hown hK hP hD hS ix_ hi_ rfl 9 (by decide) (hts _ gw_409) (fun _ h9 => h9) rfl (by decide +kernel) (isb_n (v := 1) (by decide)) (isb_f (v := 1) (by decide)) hlen_ d_K_spoil_49 (fun H locs hP hD hS => ?_)
                obtain ⟨M19, eM_⟩ : ∃ z, z = mu M11 q13 (.inr (1, fs_.set 9 (.int (1 : Int32)))) := ⟨_, rfl⟩
                rw [← eM_] at hf hE_
                rw [hE_] at hP hD
                clear hE_ eM_ hi_ hm_
                exact wv_mK_spoil_52 (fu := fu) F hk_7 _ _ _ _ _ hf hkc hks _ _ _ hP hD hS (lv_sub hl [1, 2] rfl)
def xw_mK_spoil_7 (fu MC MS : Nat) (cy : Nat → ClassId) (ad : Nat → Nat) (Φ : Mm → Prop) : Nat → Nat → Nat → Mm → Nat → Int32 → Prop
  | 0 => fun _ _ _ _ _ => False
  | n + 1 => xv_mK_spoil_7 fu MC MS cy ad Φ (xw_mK_spoil_7 fu MC MS cy ad Φ n)
theorem ww_mK_spoil_7 {p : Program} {l : Launch} {e : Env} {s : State} {m : MethodId} {args : Array Value} {below : List Frame} {meth : Method} {c : Code} {D : va_G} {cy : Nat → ClassId} {A : Nat → Prop} {ad : Nat → Nat} {MC MS : Nat} {Φ : Mm → Prop} {fu : Nat} (F : Fx p s m args meth c b_K_spoil 4 "CoinKeeper" "spoil" none D cy ad A) : ∀ n : Nat, Iw_mK_spoil_7 p l e s m args below meth c D cy A ad MC MS Φ (xw_mK_spoil_7 fu MC MS cy ad Φ n)
  | 0 => fun _ _ _ _ _ hf => False.elim hf
  | n + 1 => wv_mK_spoil_7 F (ww_mK_spoil_7 F n)
def xw_mK_spoil (fu MC MS : Nat) (cy : Nat → ClassId) (ad : Nat → Nat) (Φ : Mm → Prop) (κ σ : Nat) (M : Mm) (a0 : Nat) (a1 : Nat) : Prop :=
  mpt M a1 1 9 (.int (1 : Int32)) fun M1 => xw_mK_spoil_7 fu MC MS cy ad Φ fu κ σ M1 a0 (1 : Int32)
set_option maxHeartbeats 8000000 in
set_option maxRecDepth 100000 in
theorem wew_mK_spoil {p : Program} {l : Launch} {e : Env} {s : State} {m : MethodId} {args : Array Value} {below : List Frame} {meth : Method} {c : Code} {D : va_G} {cy : Nat → ClassId} {A : Nat → Prop} {ad : Nat → Nat} {MC MS : Nat} {Φ : Mm → Prop} {fu : Nat} (F : Fx p s m args meth c b_K_spoil 4 "CoinKeeper" "spoil" none D cy ad A) : Iw_mK_spoil_e p l e s m args below meth c D cy A ad MC MS Φ (xw_mK_spoil fu MC MS cy ad Φ) := by
  obtain ⟨hx, hb, hr, hml, hown, hts, hlocks, hK, hA, hSt, hnm, hex⟩ := id F
  intro κ σ M a0 a1 hf hkc hks H locs ls hP hD hS hl
  unfold xw_mK_spoil at hf
  refine lv_aload_n hx hb d_K_spoil_0 rfl (lv_at hl 1 rfl) ?_
  refine lv_iconst (v := 1) hx hb d_K_spoil_1 (by decide) ?_
  obtain ⟨fs_, hm_, hlen_, hf⟩ := hf
  obtain ⟨ix_, hi_⟩ := m_ix hm_
  have hE_ := m_set (y := .inr (1, fs_.set 9 (.int (1 : Int32)))) hD hi_
  refine va_put (D := D) (ci := 1) (v := .int (1 : Int32)) (ty := .boolean) (C := "CoinKeeper$Block") (T := F_1) (N := 12) hx hb hts i_1 t_1 t_1_ok n_1 hown hK hP hD hS ix_ hi_ rfl 9 (by decide) (hts _ gw_409) (fun _ h9 => h9) rfl (by decide +kernel) (isb_n (v := 1) (by decide)) (isb_f (v := 1) (by decide)) hlen_ d_K_spoil_2 (fun H locs hP hD hS => ?_)
  obtain ⟨M1, eM_⟩ : ∃ z, z = mu M a1 (.inr (1, fs_.set 9 (.int (1 : Int32)))) := ⟨_, rfl⟩
  rw [← eM_] at hf hE_
  rw [hE_] at hP hD
  clear hE_ eM_ hi_ hm_
  refine lv_iconst (v := 1) hx hb d_K_spoil_5 (by decide) ?_
  refine lv_istore_n (lv' := [(2, .int (1 : Int32)), (0, .ref a0), (1, .ref a1)]) hx hb d_K_spoil_6 rfl hl (by decide) rfl (fun ls hl => ?_)
  exact ww_mK_spoil_7 F fu _ _ _ _ _ hf hkc hks _ _ _ hP hD hS (lv_sub hl [1, 0] rfl)
theorem cw_mK_spoil (l : Launch) (D : va_G) (cy : Nat → ClassId) (ad : Nat → Nat) (fu MC MS : Nat) (a0 : Nat) (a1 : Nat) (M : Mm) (Φ : Mm → Prop) (hf : xw_mK_spoil fu MC MS cy ad Φ 0 0 M a0 a1) (sz : Nat) : Met l ({ cls := "CoinKeeper", name := "spoil", desc := "(LCoinKeeper$Block;)V" } : Jvm.MethodName) (.code ({ cls := "CoinKeeper", name := "spoil", desc := "(LCoinKeeper$Block;)V" } : Jvm.MethodName) b_K_spoil 4 none :: gw) (rmw_mK_spoil MC MS) (va_Pc [.ref a0, .ref a1] (Pr D cy ad (mw M) sz)) (va_Qv Φ (fun u t => Po D cy (va_A (mw M) sz) (mw u) t) (va_A (mw M) sz)) MC MS (va_A (mw M) sz) :=
  q_met (Qc := fun A => va_Qv Φ (fun u t => Po D cy A (mw u) t) A) (by decide) rfl rfl (Nat.le_of_ble_eq_true rfl) (fun p e s m below meth c ls F hP hD hS hl => wew_mK_spoil (fu := fu) F 0 0 M a0 a1 hf (Nat.zero_le _) (Nat.zero_le _) _ _ _ hP hD hS hl) sz
