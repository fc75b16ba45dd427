abbrev b_Bl_ancestor : ByteArray := prog_2_method_2_code
theorem d_Bl_ancestor_0 : decode b_Bl_ancestor 0 = .ok (.aload_n 0, 1) := by decide +kernel
theorem d_Bl_ancestor_1 : decode b_Bl_ancestor 1 = .ok (.astore_n 2, 1) := by decide +kernel
theorem d_Bl_ancestor_2 : decode b_Bl_ancestor 2 = .ok (.aload_n 2, 1) := by decide +kernel
theorem d_Bl_ancestor_3 : decode b_Bl_ancestor 3 = .ok (.getfield 23, 3) := by decide +kernel
theorem d_Bl_ancestor_6 : decode b_Bl_ancestor 6 = .ok (.iload_n 1, 1) := by decide +kernel
theorem d_Bl_ancestor_7 : decode b_Bl_ancestor 7 = .ok (.if_icmp .le 18, 3) := by decide +kernel
theorem d_Bl_ancestor_10 : decode b_Bl_ancestor 10 = .ok (.aload_n 2, 1) := by decide +kernel
theorem d_Bl_ancestor_11 : decode b_Bl_ancestor 11 = .ok (.getfield 7, 3) := by decide +kernel
theorem d_Bl_ancestor_14 : decode b_Bl_ancestor 14 = .ok (.ifnull 11, 3) := by decide +kernel
theorem d_Bl_ancestor_17 : decode b_Bl_ancestor 17 = .ok (.aload_n 2, 1) := by decide +kernel
theorem d_Bl_ancestor_18 : decode b_Bl_ancestor 18 = .ok (.getfield 7, 3) := by decide +kernel
theorem d_Bl_ancestor_21 : decode b_Bl_ancestor 21 = .ok (.astore_n 2, 1) := by decide +kernel
theorem d_Bl_ancestor_22 : decode b_Bl_ancestor 22 = .ok (.goto (-20), 3) := by decide +kernel
theorem d_Bl_ancestor_25 : decode b_Bl_ancestor 25 = .ok (.aload_n 2, 1) := by decide +kernel
theorem d_Bl_ancestor_26 : decode b_Bl_ancestor 26 = .ok (.areturn, 1) := by decide +kernel
abbrev rmw_mBl_ancestor (MC MS : Nat) : Room := { frames := 0, cells := MC, slots := MS, locals := 0 }
def Iw_mBl_ancestor_2 (p : Program) (l : Launch) (e : Env) (s : State) (m : MethodId) (args : Array Value) (below : List Frame) (meth : Method) (c : Code) (D : va_G) (cy : Nat → ClassId) (A : Nat → Prop) (ad : Nat → Nat) (mi MC MS : Nat) (Φ : Option Nat → Mm → Prop) (k : Nat → Nat → Mm → Int32 → Option Nat → Prop) : Prop :=
  ∀ (κ σ : Nat) (M : Mm) (x1 : Int32) (x2 : Option Nat), k κ σ M x1 x2 → κ ≤ MC → σ ≤ MS → ∀ (H : Heap) (locs : List Loc) (ls : Array Slot), va_P D classes (mw M) H → va_D A (mw M) → va_S A s.heap H locs → lv_has ls 3 [(1, .int x1), (2, va_rf x2)] → W p l e (rmw_mBl_ancestor MC MS) s m args below meth c H locs κ σ (MQ below (va_Qq Φ (fun u t => Po D cy A (mw u) t) A) args s MC MS A) (F0 m 2 ls [])
def Iw_mBl_ancestor_e (p : Program) (l : Launch) (e : Env) (s : State) (m : MethodId) (args : Array Value) (below : List Frame) (meth : Method) (c : Code) (D : va_G) (cy : Nat → ClassId) (A : Nat → Prop) (ad : Nat → Nat) (mi MC MS : Nat) (Φ : Option Nat → Mm → Prop) (k : Nat → Nat → Mm → Nat → Int32 → Prop) : Prop :=
  ∀ (κ σ : Nat) (M : Mm) (a0 : Nat) (a1 : Int32), k κ σ M a0 a1 → κ ≤ MC → σ ≤ MS → ∀ (H : Heap) (locs : List Loc) (ls : Array Slot), va_P D classes (mw M) H → va_D A (mw M) → va_S A s.heap H locs → lv_has ls 3 [(0, .ref a0), (1, .int a1)] → W p l e (rmw_mBl_ancestor MC MS) s m args below meth c H locs κ σ (MQ below (va_Qq Φ (fun u t => Po D cy A (mw u) t) A) args s MC MS A) (F0 m 0 ls [])
set_option maxHeartbeats 8000000 in
set_option maxRecDepth 100000 in
theorem wv_mBl_ancestor_2 {p : Program} {l : Launch} {e : Env} {s : State} {m : MethodId} {args : Array Value} {below : List Frame} {meth : Method} {c : Code} {D : va_G} {cy : Nat → ClassId} {A : Nat → Prop} {ad : Nat → Nat} {mi MC MS : Nat} {Φ : Option Nat → Mm → Prop} {fu : Nat} {k_2 : Nat → Nat → Mm → Int32 → Option Nat → Prop} (F : FxM p s m args meth c b_Bl_ancestor 3 "CoinKeeper$Block" "ancestor" (Option.some (Jvm.ClassFile.FieldType.object "CoinKeeper$Block")) D cy ad mi A) (hk_2 : Iw_mBl_ancestor_2 p l e s m args below meth c D cy A ad mi MC MS Φ k_2) : Iw_mBl_ancestor_2 p l e s m args below meth c D cy A ad mi MC MS Φ (xv_mBl_ancestor_2 fu MC MS cy ad mi Φ k_2) := by
  obtain ⟨⟨hx, hb, hr, hml, hown, hts, hlocks, hK, hA, hSt, hnm, hex⟩, hT, hMi⟩ := id F
  intro κ σ M x1 x2 hf hkc hks H locs ls hP hD hS hl
  unfold xv_mBl_ancestor_2 at hf
  have hq_ := ospp hf
  clear hf
  rcases hq_ with ⟨rfl, hf⟩ | ⟨x2a, rfl, hf⟩
  · have hl : lv_has ls 3 [(1, .int x1), (2, .null)] := hl
    refine lv_aload_nN hx hb d_Bl_ancestor_2 rfl (lv_at hl 1 rfl) ?_
    exact hf.elim
  · have hl : lv_has ls 3 [(1, .int x1), (2, .ref x2a)] := hl
    refine lv_aload_n hx hb d_Bl_ancestor_2 rfl (lv_at hl 1 rfl) ?_
    obtain ⟨fs_, hm_, v1, hv_, hf⟩ := hf
    obtain ⟨ix_, hi_⟩ := m_ix hm_
    refine va_get (D := D) (ci := 1) (v := .int v1) (C := "CoinKeeper$Block") (T := F_1) (N := 12) hx hb hts i_1 hown hK hP ix_ hi_ rfl 4 (by decide) (hts _ gw_400) (fun _ h9 => h9) hv_ d_Bl_ancestor_3 ?_
    clear hv_ hi_ hm_
    refine lv_iload_n hx hb d_Bl_ancestor_6 rfl (lv_at hl 0 rfl) ?_
    refine lv_icmp_le (tgt := 25) hx hb d_Bl_ancestor_7 (by decide) (fun cx => ?_) (fun cx => ?_)
    · have hf := ifpP cx hf
      refine lv_aload_n hx hb d_Bl_ancestor_25 rfl (lv_at hl 1 rfl) ?_
      refine W.widen (k := MC) (n := MS) hkc hks ?_
      exact m_ra hf rfl hx hb hr (Or.inl ⟨_, rfl⟩) hlocks hK hP hD hS d_Bl_ancestor_26
    · have hf := ifnP cx hf
      refine lv_aload_n hx hb d_Bl_ancestor_10 rfl (lv_at hl 1 rfl) ?_
      obtain ⟨fs_, hm_, r2, hv_, hf⟩ := hf
      obtain ⟨ix_, hi_⟩ := m_ix hm_
      refine va_get (D := D) (ci := 1) (v := va_rf r2) (C := "CoinKeeper$Block") (T := F_1) (N := 12) hx hb hts i_1 hown hK hP ix_ hi_ rfl 0 (by decide) (hts _ gw_390) (fun _ h9 => h9) hv_ d_Bl_ancestor_11 ?_
      clear hv_ hi_ hm_
      have hq_ := ospp hf
      clear hf
      rcases hq_ with ⟨rfl, hf⟩ | ⟨q3, rfl, hf⟩
      · refine W.eq (g2 := F0 m 14 ls [.null]) rfl ?_
        refine lv_ifnullN (tgt := 25) hx hb d_Bl_ancestor_14 (by decide) ?_
        refine lv_aload_n hx hb d_Bl_ancestor_25 rfl (lv_at hl 1 rfl) ?_
        refine W.widen (k := MC) (n := MS) hkc hks ?_
        exact m_ra hf rfl hx hb hr (Or.inl ⟨_, rfl⟩) hlocks hK hP hD hS d_Bl_ancestor_26
      · refine W.eq (g2 := F0 m 14 ls [.ref q3]) rfl ?_
        refine lv_ifnull hx hb d_Bl_ancestor_14 ?_
        refine lv_aload_n hx hb d_Bl_ancestor_17 rfl (lv_at hl 1 rfl) ?_
        obtain ⟨fs_, hm_, r4, hv_, hf⟩ := hf
        obtain ⟨ix_, hi_⟩ := m_ix hm_
        refine va_get (D := D) (ci := 1) (v := va_rf r4) (C := "CoinKeeper$Block") (T := F_1) (N := 12) hx hb hts i_1 hown hK hP ix_ hi_ rfl 0 (by decide) (hts _ gw_390) (fun _ h9 => h9) hv_ d_Bl_ancestor_18 ?_
        clear hv_ hi_ hm_
        have hq_ := ospp hf
        clear hf
        rcases hq_ with ⟨rfl, hf⟩ | ⟨q5, rfl, hf⟩
        · refine W.eq (g2 := F0 m 21 ls [.null]) rfl ?_
          refine lv_astore_nN (lv' := [(2, .null), (1, .int x1)]) hx hb d_Bl_ancestor_21 rfl hl (by decide) rfl (fun ls hl => ?_)
          refine lv_goto (tgt := 2) hx hb d_Bl_ancestor_22 (by decide) ?_
          have hl : lv_has ls 3 [(1, .int x1), (2, va_rf Option.none)] := lv_sub hl [1, 0] rfl
          exact hk_2 _ _ _ _ _ hf hkc hks _ _ _ hP hD hS hl
        · refine W.eq (g2 := F0 m 21 ls [.ref q5]) rfl ?_
          refine lv_astore_n (lv' := [(2, .ref q5), (1, .int x1)]) hx hb d_Bl_ancestor_21 rfl hl (by decide) rfl (fun ls hl => ?_)
          refine lv_goto (tgt := 2) hx hb d_Bl_ancestor_22 (by decide) ?_
          have hl : lv_has ls 3 [(1, .int x1), (2, va_rf (some q5))] := lv_sub hl [1, 0] rfl
          exact hk_2 _ _ _ _ _ hf hkc hks _ _ _ hP hD hS hl
theorem ww_mBl_ancestor_2 {p : Program} {l : Launch} {e : Env} {s : State} {m : MethodId} {args : Array Value} {below : List Frame} {meth : Method} {c : Code} {D : va_G} {cy : Nat → ClassId} {A : Nat → Prop} {ad : Nat → Nat} {mi MC MS : Nat} {Φ : Option Nat → Mm → Prop} {fu : Nat} (F : FxM p s m args meth c b_Bl_ancestor 3 "CoinKeeper$Block" "ancestor" (Option.some (Jvm.ClassFile.FieldType.object "CoinKeeper$Block")) D cy ad mi A) : ∀ n : Nat, Iw_mBl_ancestor_2 p l e s m args below meth c D cy A ad mi MC MS Φ (xw_mBl_ancestor_2 fu MC MS cy ad mi Φ n)
  | 0 => fun _ _ _ _ _ hf => False.elim hf
  | n + 1 => wv_mBl_ancestor_2 F (ww_mBl_ancestor_2 F n)
set_option maxHeartbeats 8000000 in
set_option maxRecDepth 100000 in
theorem wew_mBl_ancestor {p : Program} {l : Launch} {e : Env} {s : State} {m : MethodId} {args : Array Value} {below : List Frame} {meth : Method} {c : Code} {D : va_G} {cy : Nat → ClassId} {A : Nat → Prop} {ad : Nat → Nat} {mi MC MS : Nat} {Φ : Option Nat → Mm → Prop} {fu : Nat} (F : FxM p s m args meth c b_Bl_ancestor 3 "CoinKeeper$Block" "ancestor" (Option.some (Jvm.ClassFile.FieldType.object "CoinKeeper$Block")) D cy ad mi A) : Iw_mBl_ancestor_e p l e s m args below meth c D cy A ad mi MC MS Φ (xw_mBl_ancestor fu MC MS cy ad mi Φ) := by
  obtain ⟨⟨hx, hb, hr, hml, hown, hts, hlocks, hK, hA, hSt, hnm, hex⟩, hT, hMi⟩ := id F
  intro κ σ M a0 a1 hf hkc hks H locs ls hP hD hS hl
  unfold xw_mBl_ancestor at hf
  refine lv_aload_n hx hb d_Bl_ancestor_0 rfl (lv_at hl 0 rfl) ?_
  refine lv_astore_n (lv' := [(2, .ref a0), (0, .ref a0), (1, .int a1)]) hx hb d_Bl_ancestor_1 rfl hl (by decide) rfl (fun ls hl => ?_)
  have hl : lv_has ls 3 [(1, .int a1), (2, va_rf (some a0))] := lv_sub hl [2, 0] rfl
  exact ww_mBl_ancestor_2 F fu _ _ _ _ _ hf hkc hks _ _ _ hP hD hS hl
theorem cw_mBl_ancestor (l : Launch) (D : va_G) (cy : Nat → ClassId) (ad : Nat → Nat) (mi fu MC MS : Nat) (a0 : Nat) (a1 : Int32) (M : Mm) (Φ : Option Nat → Mm → Prop) (hf : xw_mBl_ancestor fu MC MS cy ad mi Φ 0 0 M a0 a1) (sz : Nat) : Met l ({ cls := "CoinKeeper$Block", name := "ancestor", desc := "(I)LCoinKeeper$Block;" } : Jvm.MethodName) (.code ({ cls := "CoinKeeper$Block", name := "ancestor", desc := "(I)LCoinKeeper$Block;" } : Jvm.MethodName) b_Bl_ancestor 3 (Option.some (Jvm.ClassFile.FieldType.object "CoinKeeper$Block")) :: gw) (rmw_mBl_ancestor MC MS) (va_Pc [.ref a0, .int a1] (PrM D cy ad mi (mw M) sz)) (va_Qq Φ (fun u t => Po D cy (va_A (mw M) sz) (mw u) t) (va_A (mw M) sz)) MC MS (va_A (mw M) sz) :=
  q_metM (Qc := fun A => va_Qq Φ (fun u t => Po D cy A (mw u) t) A) (by decide) rfl rfl (Nat.le_of_ble_eq_true rfl) (fun p e s m below meth c ls F hP hD hS hl => wew_mBl_ancestor (fu := fu) F 0 0 M a0 a1 hf (Nat.zero_le _) (Nat.zero_le _) _ _ _ hP hD hS hl) sz
abbrev b_Bl_meets : ByteArray := prog_2_method_3_code
theorem d_Bl_meets_0 : decode b_Bl_meets 0 = .ok (.aload_n 0, 1) := by decide +kernel
theorem d_Bl_meets_1 : decode b_Bl_meets 1 = .ok (.getfield 23, 3) := by decide +kernel
theorem d_Bl_meets_4 : decode b_Bl_meets 4 = .ok (.aload_n 1, 1) := by decide +kernel
theorem d_Bl_meets_5 : decode b_Bl_meets 5 = .ok (.getfield 23, 3) := by decide +kernel
theorem d_Bl_meets_8 : decode b_Bl_meets 8 = .ok (.invokestatic 52, 3) := by decide +kernel
theorem d_Bl_meets_11 : decode b_Bl_meets 11 = .ok (.istore_n 2, 1) := by decide +kernel
theorem d_Bl_meets_12 : decode b_Bl_meets 12 = .ok (.aload_n 0, 1) := by decide +kernel
theorem d_Bl_meets_13 : decode b_Bl_meets 13 = .ok (.iload_n 2, 1) := by decide +kernel
theorem d_Bl_meets_14 : decode b_Bl_meets 14 = .ok (.invokevirtual 58, 3) := by decide +kernel
theorem d_Bl_meets_17 : decode b_Bl_meets 17 = .ok (.astore_n 3, 1) := by decide +kernel
theorem d_Bl_meets_18 : decode b_Bl_meets 18 = .ok (.aload_n 1, 1) := by decide +kernel
theorem d_Bl_meets_19 : decode b_Bl_meets 19 = .ok (.iload_n 2, 1) := by decide +kernel
theorem d_Bl_meets_20 : decode b_Bl_meets 20 = .ok (.invokevirtual 58, 3) := by decide +kernel
theorem d_Bl_meets_23 : decode b_Bl_meets 23 = .ok (.astore 4, 2) := by decide +kernel
theorem d_Bl_meets_25 : decode b_Bl_meets 25 = .ok (.aload_n 3, 1) := by decide +kernel
theorem d_Bl_meets_26 : decode b_Bl_meets 26 = .ok (.aload 4, 2) := by decide +kernel
theorem d_Bl_meets_28 : decode b_Bl_meets 28 = .ok (.if_acmp .eq 33, 3) := by decide +kernel
theorem d_Bl_meets_31 : decode b_Bl_meets 31 = .ok (.aload_n 3, 1) := by decide +kernel
theorem d_Bl_meets_32 : decode b_Bl_meets 32 = .ok (.getfield 7, 3) := by decide +kernel
theorem d_Bl_meets_35 : decode b_Bl_meets 35 = .ok (.ifnull 26, 3) := by decide +kernel
theorem d_Bl_meets_38 : decode b_Bl_meets 38 = .ok (.aload 4, 2) := by decide +kernel
theorem d_Bl_meets_40 : decode b_Bl_meets 40 = .ok (.getfield 7, 3) := by decide +kernel
theorem d_Bl_meets_43 : decode b_Bl_meets 43 = .ok (.ifnull 18, 3) := by decide +kernel
theorem d_Bl_meets_46 : decode b_Bl_meets 46 = .ok (.aload_n 3, 1) := by decide +kernel
theorem d_Bl_meets_47 : decode b_Bl_meets 47 = .ok (.getfield 7, 3) := by decide +kernel
theorem d_Bl_meets_50 : decode b_Bl_meets 50 = .ok (.astore_n 3, 1) := by decide +kernel
theorem d_Bl_meets_51 : decode b_Bl_meets 51 = .ok (.aload 4, 2) := by decide +kernel
theorem d_Bl_meets_53 : decode b_Bl_meets 53 = .ok (.getfield 7, 3) := by decide +kernel
theorem d_Bl_meets_56 : decode b_Bl_meets 56 = .ok (.astore 4, 2) := by decide +kernel
theorem d_Bl_meets_58 : decode b_Bl_meets 58 = .ok (.goto (-33), 3) := by decide +kernel
theorem d_Bl_meets_61 : decode b_Bl_meets 61 = .ok (.aload_n 3, 1) := by decide +kernel
theorem d_Bl_meets_62 : decode b_Bl_meets 62 = .ok (.areturn, 1) := by decide +kernel
abbrev rmw_mBl_meets (MC MS : Nat) : Room := { frames := 1, cells := MC, slots := MS, locals := 26 }
def Iw_mBl_meets_25 (p : Program) (l : Launch) (e : Env) (s : State) (m : MethodId) (args : Array Value) (below : List Frame) (meth : Method) (c : Code) (D : va_G) (cy : Nat → ClassId) (A : Nat → Prop) (ad : Nat → Nat) (mi MC MS : Nat) (Φ : Option Nat → Mm → Prop) (k : Nat → Nat → Mm → Option Nat → Option Nat → Prop) : Prop :=
  ∀ (κ σ : Nat) (M : Mm) (x3 : Option Nat) (x4 : Option Nat), k κ σ M x3 x4 → κ ≤ MC → σ ≤ MS → ∀ (H : Heap) (locs : List Loc) (ls : Array Slot), va_P D classes (mw M) H → va_D A (mw M) → va_S A s.heap H locs → lv_has ls 5 [(3, va_rf x3), (4, va_rf x4)] → W p l e (rmw_mBl_meets MC MS) s m args below meth c H locs κ σ (MQ below (va_Qq Φ (fun u t => Po D cy A (mw u) t) A) args s MC MS A) (F0 m 25 ls [])
def Iw_mBl_meets_e (p : Program) (l : Launch) (e : Env) (s : State) (m : MethodId) (args : Array Value) (below : List Frame) (meth : Method) (c : Code) (D : va_G) (cy : Nat → ClassId) (A : Nat → Prop) (ad : Nat → Nat) (mi MC MS : Nat) (Φ : Option Nat → Mm → Prop) (k : Nat → Nat → Mm → Nat → Nat → Prop) : Prop :=
  ∀ (κ σ : Nat) (M : Mm) (a0 : Nat) (a1 : Nat), k κ σ M a0 a1 → κ ≤ MC → σ ≤ MS → ∀ (H : Heap) (locs : List Loc) (ls : Array Slot), va_P D classes (mw M) H → va_D A (mw M) → va_S A s.heap H locs → lv_has ls 5 [(0, .ref a0), (1, .ref a1)] → W p l e (rmw_mBl_meets MC MS) s m args below meth c H locs κ σ (MQ below (va_Qq Φ (fun u t => Po D cy A (mw u) t) A) args s MC MS A) (F0 m 0 ls [])
set_option maxHeartbeats 8000000 in
set_option maxRecDepth 100000 in
theorem wv_mBl_meets_25 {p : Program} {l : Launch} {e : Env} {s : State} {m : MethodId} {args : Array Value} {below : List Frame} {meth : Method} {c : Code} {D : va_G} {cy : Nat → ClassId} {A : Nat → Prop} {ad : Nat → Nat} {mi MC MS : Nat} {Φ : Option Nat → Mm → Prop} {fu : Nat} {k_25 : Nat → Nat → Mm → Option Nat → Option Nat → Prop} (F : FxM p s m args meth c b_Bl_meets 5 "CoinKeeper$Block" "meets" (Option.some (Jvm.ClassFile.FieldType.object "CoinKeeper$Block")) D cy ad mi A) (hk_25 : Iw_mBl_meets_25 p l e s m args below meth c D cy A ad mi MC MS Φ k_25) : Iw_mBl_meets_25 p l e s m args below meth c D cy A ad mi MC MS Φ (xv_mBl_meets_25 fu MC MS cy ad mi Φ k_25) := by
  obtain ⟨⟨hx, hb, hr, hml, hown, hts, hlocks, hK, hA, hSt, hnm, hex⟩, hT, hMi⟩ := id F
  intro κ σ M x3 x4 hf hkc hks H locs ls hP hD hS hl
  unfold xv_mBl_meets_25 at hf
  have hq_ := ospp hf
  clear hf
  rcases hq_ with ⟨rfl, hf⟩ | ⟨x3a, rfl, hf⟩
  · have hl : lv_has ls 5 [(3, .null), (4, va_rf x4)] := hl
    have hq_ := ospp hf
    clear hf
    rcases hq_ with ⟨rfl, hf⟩ | ⟨x4a, rfl, hf⟩
    · have hl : lv_has ls 5 [(3, .null), (4, .null)] := hl
      refine lv_aload_nN hx hb d_Bl_meets_25 rfl (lv_at hl 0 rfl) ?_
      refine lv_aloadN hx hb d_Bl_meets_26 (lv_at hl 1 rfl) ?_
      refine lv_acmp_eq (rx := Option.none) (ry := Option.none) (tgt := 61) hx hb d_Bl_meets_28 (by decide) (fun cx => ?_) (fun cx => ?_)
      · have hf := ifpP cx hf
        refine lv_aload_nN hx hb d_Bl_meets_61 rfl (lv_at hl 0 rfl) ?_
        refine W.widen (k := MC) (n := MS) hkc hks ?_
        exact m_ra hf rfl hx hb hr (Or.inl ⟨_, rfl⟩) hlocks hK hP hD hS d_Bl_meets_62
      · have hf := ifnP cx hf
        refine lv_aload_nN hx hb d_Bl_meets_31 rfl (lv_at hl 0 rfl) ?_
        exact hf.elim
    · have hl : lv_has ls 5 [(3, .null), (4, .ref x4a)] := hl
      refine lv_aload_nN hx hb d_Bl_meets_25 rfl (lv_at hl 0 rfl) ?_
      refine lv_aload hx hb d_Bl_meets_26 (lv_at hl 1 rfl) ?_
      refine lv_acmp_eq (rx := Option.none) (ry := (some x4a)) (tgt := 61) hx hb d_Bl_meets_28 (by decide) (fun cx => ?_) (fun cx => ?_)
      · have hf := ifpP cx hf
        refine lv_aload_nN hx hb d_Bl_meets_61 rfl (lv_at hl 0 rfl) ?_
        refine W.widen (k := MC) (n := MS) hkc hks ?_
        exact m_ra hf rfl hx hb hr (Or.inl ⟨_, rfl⟩) hlocks hK hP hD hS d_Bl_meets_62
      · have hf := ifnP cx hf
        refine lv_aload_nN hx hb d_Bl_meets_31 rfl (lv_at hl 0 rfl) ?_
        exact hf.elim
  · have hl : lv_has ls 5 [(3, .ref x3a), (4, va_rf x4)] := hl
    have hq_ := ospp hf
    clear hf
    rcases hq_ with ⟨rfl, hf⟩ | ⟨x4a, rfl, hf⟩
    · have hl : lv_has ls 5 [(3, .ref x3a), (4, .null)] := hl
      refine lv_aload_n hx hb d_Bl_meets_25 rfl (lv_at hl 0 rfl) ?_
      refine lv_aloadN hx hb d_Bl_meets_26 (lv_at hl 1 rfl) ?_
      refine lv_acmp_eq (rx := (some x3a)) (ry := Option.none) (tgt := 61) hx hb d_Bl_meets_28 (by decide) (fun cx => ?_) (fun cx => ?_)
      · have hf := ifpP cx hf
        refine lv_aload_n hx hb d_Bl_meets_61 rfl (lv_at hl 0 rfl) ?_
        refine W.widen (k := MC) (n := MS) hkc hks ?_
        exact m_ra hf rfl hx hb hr (Or.inl ⟨_, rfl⟩) hlocks hK hP hD hS d_Bl_meets_62
      · have hf := ifnP cx hf
        refine lv_aload_n hx hb d_Bl_meets_31 rfl (lv_at hl 0 rfl) ?_
        obtain ⟨fs_, hm_, r1, hv_, hf⟩ := hf
        obtain ⟨ix_, hi_⟩ := m_ix hm_
        refine va_get (D := D) (ci := 1) (v := va_rf r1) (C := "CoinKeeper$Block") (T := F_1) (N := 12) hx hb hts i_1 hown hK hP ix_ hi_ rfl 0 (by decide) (hts _ gw_390) (fun _ h9 => h9) hv_ d_Bl_meets_32 ?_
        clear hv_ hi_ hm_
        have hq_ := ospp hf
        clear hf
        rcases hq_ with ⟨rfl, hf⟩ | ⟨q2, rfl, hf⟩
        · refine W.eq (g2 := F0 m 35 ls [.null]) rfl ?_
          refine lv_ifnullN (tgt := 61) hx hb d_Bl_meets_35 (by decide) ?_
          refine lv_aload_n hx hb d_Bl_meets_61 rfl (lv_at hl 0 rfl) ?_
          refine W.widen (k := MC) (n := MS) hkc hks ?_
          exact m_ra hf rfl hx hb hr (Or.inl ⟨_, rfl⟩) hlocks hK hP hD hS d_Bl_meets_62
        · refine W.eq (g2 := F0 m 35 ls [.ref q2]) rfl ?_
          refine lv_ifnull hx hb d_Bl_meets_35 ?_
          refine lv_aloadN hx hb d_Bl_meets_38 (lv_at hl 1 rfl) ?_
          exact hf.elim
    · have hl : lv_has ls 5 [(3, .ref x3a), (4, .ref x4a)] := hl
      refine lv_aload_n hx hb d_Bl_meets_25 rfl (lv_at hl 0 rfl) ?_
      refine lv_aload hx hb d_Bl_meets_26 (lv_at hl 1 rfl) ?_
      refine lv_acmp_eq (rx := (some x3a)) (ry := (some x4a)) (tgt := 61) hx hb d_Bl_meets_28 (by decide) (fun cx => ?_) (fun cx => ?_)
      · have hf := ifpP cx hf
        refine lv_aload_n hx hb d_Bl_meets_61 rfl (lv_at hl 0 rfl) ?_
        refine W.widen (k := MC) (n := MS) hkc hks ?_
        exact m_ra hf rfl hx hb hr (Or.inl ⟨_, rfl⟩) hlocks hK hP hD hS d_Bl_meets_62
      · have hf := ifnP cx hf
        refine lv_aload_n hx hb d_Bl_meets_31 rfl (lv_at hl 0 rfl) ?_
        obtain ⟨fs_, hm_, r3, hv_, hf⟩ := hf
        obtain ⟨ix_, hi_⟩ := m_ix hm_
        refine va_get (D := D) (ci := 1) (v := va_rf r3) (C := "CoinKeeper$Block") (T := F_1) (N := 12) hx hb hts i_1 hown hK hP ix_ hi_ rfl 0 (by decide) (hts _ gw_390) (fun _ h9 => h9) hv_ d_Bl_meets_32 ?_
        clear hv_ hi_ hm_
        have hq_ := ospp hf
        clear hf
        rcases hq_ with ⟨rfl, hf⟩ | ⟨q4, rfl, hf⟩
        · refine W.eq (g2 := F0 m 35 ls [.null]) rfl ?_
          refine lv_ifnullN (tgt := 61) hx hb d_Bl_meets_35 (by decide) ?_
          refine lv_aload_n hx hb d_Bl_meets_61 rfl (lv_at hl 0 rfl) ?_
          refine W.widen (k := MC) (n := MS) hkc hks ?_
          exact m_ra hf rfl hx hb hr (Or.inl ⟨_, rfl⟩) hlocks hK hP hD hS d_Bl_meets_62
        · refine W.eq (g2 := F0 m 35 ls [.ref q4]) rfl ?_
          refine lv_ifnull hx hb d_Bl_meets_35 ?_
          refine lv_aload hx hb d_Bl_meets_38 (lv_at hl 1 rfl) ?_
          obtain ⟨fs_, hm_, r5, hv_, hf⟩ := hf
          obtain ⟨ix_, hi_⟩ := m_ix hm_
          refine va_get (D := D) (ci := 1) (v := va_rf r5) (C := "CoinKeeper$Block") (T := F_1) (N := 12) hx hb hts i_1 hown hK hP ix_ hi_ rfl 0 (by decide) (hts _ gw_390) (fun _ h9 => h9) hv_ d_Bl_meets_40 ?_
          clear hv_ hi_ hm_
          have hq_ := ospp hf
          clear hf
          rcases hq_ with ⟨rfl, hf⟩ | ⟨q6, rfl, hf⟩
          · refine W.eq (g2 := F0 m 43 ls [.null]) rfl ?_
            refine lv_ifnullN (tgt := 61) hx hb d_Bl_meets_43 (by decide) ?_
            refine lv_aload_n hx hb d_Bl_meets_61 rfl (lv_at hl 0 rfl) ?_
            refine W.widen (k := MC) (n := MS) hkc hks ?_
            exact m_ra hf rfl hx hb hr (Or.inl ⟨_, rfl⟩) hlocks hK hP hD hS d_Bl_meets_62
          · refine W.eq (g2 := F0 m 43 ls [.ref q6]) rfl ?_
            refine lv_ifnull hx hb d_Bl_meets_43 ?_
            refine lv_aload_n hx hb d_Bl_meets_46 rfl (lv_at hl 0 rfl) ?_
            obtain ⟨fs_, hm_, r7, hv_, hf⟩ := hf
            obtain ⟨ix_, hi_⟩ := m_ix hm_
            refine va_get (D := D) (ci := 1) (v := va_rf r7) (C := "CoinKeeper$Block") (T := F_1) (N := 12) hx hb hts i_1 hown hK hP ix_ hi_ rfl 0 (by decide) (hts _ gw_390) (fun _ h9 => h9) hv_ d_Bl_meets_47 ?_
            clear hv_ hi_ hm_
            have hq_ := ospp hf
            clear hf
            rcases hq_ with ⟨rfl, hf⟩ | ⟨q8, rfl, hf⟩
            · refine W.eq (g2 := F0 m 50 ls [.null]) rfl ?_
              refine lv_astore_nN (lv' := [(3, .null), (4, .ref x4a)]) hx hb d_Bl_meets_50 rfl hl (by decide) rfl (fun ls hl => ?_)
              refine lv_aload hx hb d_Bl_meets_51 (lv_at hl 1 rfl) ?_
              obtain ⟨fs_, hm_, r9, hv_, hf⟩ := hf
              obtain ⟨ix_, hi_⟩ := m_ix hm_
              refine va_get (D := D) (ci := 1) (v := va_rf r9) (C := "CoinKeeper$Block") (T := F_1) (N := 12) hx hb hts i_1 hown hK hP ix_ hi_ rfl 0 (by decide) (hts _ gw_390) (fun _ h9 => h9) hv_ d_Bl_meets_53 ?_
              clear hv_ hi_ hm_
              have hq_ := ospp hf
              clear hf
              rcases hq_ with ⟨rfl, hf⟩ | ⟨q10, rfl, hf⟩
              · refine W.eq (g2 := F0 m 56 ls [.null]) rfl ?_
                refine lv_astoreN (lv' := [(4, .null), (3, .null)]) hx hb d_Bl_meets_56 hl (by decide) rfl (fun ls hl => ?_)
                refine lv_goto (tgt := 25) hx hb d_Bl_meets_58 (by decide) ?_
                have hl : lv_has ls 5 [(3, va_rf Option.none), (4, va_rf Option.none)] := lv_sub hl [1, 0] rfl
                exact hk_25 _ _ _ _ _ hf hkc hks _ _ _ hP hD hS hl
              · refine W.eq (g2 := F0 m 56 ls [.ref q10]) rfl ?_
                refine lv_astore (lv' := [(4, .ref q10), (3, .null)]) hx hb d_Bl_meets_56 hl (by decide) rfl (fun ls hl => ?_)
                refine lv_goto (tgt := 25) hx hb d_Bl_meets_58 (by decide) ?_
                have hl : lv_has ls 5 [(3, va_rf Option.none), (4, va_rf (some q10))] := lv_sub hl [1, 0] rfl
                exact hk_25 _ _ _ _ _ hf hkc hks _ _ _ hP hD hS hl
            · refine W.eq (g2 := F0 m 50 ls [.ref q8]) rfl ?_
              refine lv_astore_n (lv' := [(3, .ref q8), (4, .ref x4a)]) hx hb d_Bl_meets_50 rfl hl (by decide) rfl (fun ls hl => ?_)
              refine lv_aload hx hb d_Bl_meets_51 (lv_at hl 1 rfl) ?_
              obtain ⟨fs_, hm_, r11, hv_, hf⟩ := hf
              obtain ⟨ix_, hi_⟩ := m_ix hm_
              refine va_get (D := D) (ci := 1) (v := va_rf r11) (C := "CoinKeeper$Block") (T := F_1) (N := 12) hx hb hts i_1 hown hK hP ix_ hi_ rfl 0 (by decide) (hts _ gw_390) (fun _ h9 => h9) hv_ d_Bl_meets_53 ?_
              clear hv_ hi_ hm_
              have hq_ := ospp hf
              clear hf
              rcases hq_ with ⟨rfl, hf⟩ | ⟨q12, rfl, hf⟩
              · refine W.eq (g2 := F0 m 56 ls [.null]) rfl ?_
                refine lv_astoreN (lv' := [(4, .null), (3, .ref q8)]) hx hb d_Bl_meets_56 hl (by decide) rfl (fun ls hl => ?_)
                refine lv_goto (tgt := 25) hx hb d_Bl_meets_58 (by decide) ?_
                have hl : lv_has ls 5 [(3, va_rf (some q8)), (4, va_rf Option.none)] := lv_sub hl [1, 0] rfl
                exact hk_25 _ _ _ _ _ hf hkc hks _ _ _ hP hD hS hl
              · refine W.eq (g2 := F0 m 56 ls [.ref q12]) rfl ?_
                refine lv_astore (lv' := [(4, .ref q12), (3, .ref q8)]) hx hb d_Bl_meets_56 hl (by decide) rfl (fun ls hl => ?_)
                refine lv_goto (tgt := 25) hx hb d_Bl_meets_58 (by decide) ?_
                have hl : lv_has ls 5 [(3, va_rf (some q8)), (4, va_rf (some q12))] := lv_sub hl [1, 0] rfl
                exact hk_25 _ _ _ _ _ hf hkc hks _ _ _ hP hD hS hl
theorem ww_mBl_meets_25 {p : Program} {l : Launch} {e : Env} {s : State} {m : MethodId} {args : Array Value} {below : List Frame} {meth : Method} {c : Code} {D : va_G} {cy : Nat → ClassId} {A : Nat → Prop} {ad : Nat → Nat} {mi MC MS : Nat} {Φ : Option Nat → Mm → Prop} {fu : Nat} (F : FxM p s m args meth c b_Bl_meets 5 "CoinKeeper$Block" "meets" (Option.some (Jvm.ClassFile.FieldType.object "CoinKeeper$Block")) D cy ad mi A) : ∀ n : Nat, Iw_mBl_meets_25 p l e s m args below meth c D cy A ad mi MC MS Φ (xw_mBl_meets_25 fu MC MS cy ad mi Φ n)
  | 0 => fun _ _ _ _ _ hf => False.elim hf
  | n + 1 => wv_mBl_meets_25 F (ww_mBl_meets_25 F n)
theorem hdq_0 : ({ cls := "CoinKeeper$Block", name := "ancestor", desc := "(I)LCoinKeeper$Block;" } : Jvm.MethodName).cls ≠ "java/lang/invoke/MethodHandle" ∧ ({ cls := "CoinKeeper$Block", name := "ancestor", desc := "(I)LCoinKeeper$Block;" } : Jvm.MethodName).cls ≠ "java/lang/invoke/VarHandle" ∧ (parseMethodDescriptor ({ cls := "CoinKeeper$Block", name := "ancestor", desc := "(I)LCoinKeeper$Block;" } : Jvm.MethodName).desc).map (fun d => d.parameters.length) = some 1 := by decide +kernel
set_option maxHeartbeats 8000000 in
set_option maxRecDepth 100000 in
theorem wew_mBl_meets {p : Program} {l : Launch} {e : Env} {s : State} {m : MethodId} {args : Array Value} {below : List Frame} {meth : Method} {c : Code} {D : va_G} {cy : Nat → ClassId} {A : Nat → Prop} {ad : Nat → Nat} {mi MC MS : Nat} {Φ : Option Nat → Mm → Prop} {fu : Nat} (F : FxM p s m args meth c b_Bl_meets 5 "CoinKeeper$Block" "meets" (Option.some (Jvm.ClassFile.FieldType.object "CoinKeeper$Block")) D cy ad mi A) : Iw_mBl_meets_e p l e s m args below meth c D cy A ad mi MC MS Φ (xw_mBl_meets fu MC MS cy ad mi Φ) := by
  obtain ⟨⟨hx, hb, hr, hml, hown, hts, hlocks, hK, hA, hSt, hnm, hex⟩, hT, hMi⟩ := id F
  intro κ σ M a0 a1 hf hkc hks H locs ls hP hD hS hl
  unfold xw_mBl_meets at hf
  refine lv_aload_n hx hb d_Bl_meets_0 rfl (lv_at hl 0 rfl) ?_
  obtain ⟨fs_, hm_, v1, hv_, hf⟩ := hf
  obtain ⟨ix_, hi_⟩ := m_ix hm_
  refine va_get (D := D) (ci := 1) (v := .int v1) (C := "CoinKeeper$Block") (T := F_1) (N := 12) hx hb hts i_1 hown hK hP ix_ hi_ rfl 4 (by decide) (hts _ gw_400) (fun _ h9 => h9) hv_ d_Bl_meets_1 ?_
  clear hv_ hi_ hm_
  refine lv_aload_n hx hb d_Bl_meets_4 rfl (lv_at hl 1 rfl) ?_
  obtain ⟨fs_, hm_, v2, hv_, hf⟩ := hf
  obtain ⟨ix_, hi_⟩ := m_ix hm_
  refine va_get (D := D) (ci := 1) (v := .int v2) (C := "CoinKeeper$Block") (T := F_1) (N := 12) hx hb hts i_1 hown hK hP ix_ hi_ rfl 4 (by decide) (hts _ gw_400) (fun _ h9 => h9) hv_ d_Bl_meets_5 ?_
  clear hv_ hi_ hm_
  refine va_mmin (R := rmw_mBl_meets MC MS) (rest := []) hx hb (hml.trans hl.1.symm) hown (hts _ gw_899) (hts _ gw_493) (hts _ gw_15) (hts _ gw_494) (Nat.le_of_ble_eq_true rfl) (Nat.le_of_ble_eq_true rfl) hkc hks d_Bl_meets_8 ?_
  refine lv_topi (fun v3 ev => ?_)
  have hf := bnQ ev hf
  clear ev
  refine lv_istore_n (lv' := [(2, .int v3), (0, .ref a0), (1, .ref a1)]) hx hb d_Bl_meets_11 rfl hl (by decide) rfl (fun ls hl => ?_)
  refine lv_aload_n hx hb d_Bl_meets_12 rfl (lv_at hl 1 rfl) ?_
  refine lv_iload_n hx hb d_Bl_meets_13 rfl (lv_at hl 0 rfl) ?_
  obtain ⟨fs_, hm_, hf⟩ := hf
  obtain ⟨ix_, hi_⟩ := m_ix hm_
  obtain ⟨mc4, ms5, ⟨hc_, hd_⟩, hf⟩ := hf
  refine m_aq (va_runV (C := "CoinKeeper$Block") (As := [.int v3]) (rest := []) ⟨hx, hb, hml, hown, hts⟩ (cw_mBl_ancestor l D cy ad mi fu mc4 ms5 a0 v3 M _ hf H.size) ⟨q_cB hts gw_755 gw_13 gw_752 hdq_0 ⟨Nat.le_of_ble_eq_true rfl, Nat.le_of_ble_eq_true rfl⟩, hts _ gw_753, hts _ gw_754⟩ (q_preVM (q_preM hP hD hK hSt hT hMi hS (m_free hD hS hA) _) (va_recv hK hP (ci := 1) (q0 := ix_) rfl hi_)) rfl rfl hl.1 rfl (lv_room (Nat.le_of_ble_eq_true rfl)) d_Bl_meets_14 ⟨hc_, hd_⟩) hD hS hA (fun v7 M6 H locs hf hP hD hS => ?_)
  have hkc : κ + mc4 ≤ MC := hc_
  have hks : σ + ms5 ≤ MS := hd_
  clear hc_ hd_
  obtain ⟨q8, rfl, hf⟩ := hf
  refine W.eq (g2 := F0 m 17 ls [.ref q8]) rfl ?_
  refine lv_astore_n (lv' := [(3, .ref q8), (2, .int v3), (0, .ref a0), (1, .ref a1)]) hx hb d_Bl_meets_17 rfl hl (by decide) rfl (fun ls hl => ?_)
  refine lv_aload_n hx hb d_Bl_meets_18 rfl (lv_at hl 3 rfl) ?_
  refine lv_iload_n hx hb d_Bl_meets_19 rfl (lv_at hl 1 rfl) ?_
  obtain ⟨fs_, hm_, hf⟩ := hf
  obtain ⟨ix_, hi_⟩ := m_ix hm_
  obtain ⟨mc9, ms10, ⟨hc_, hd_⟩, hf⟩ := hf
  refine m_aq (va_runV (C := "CoinKeeper$Block") (As := [.int v3]) (rest := []) ⟨hx, hb, hml, hown, hts⟩ (cw_mBl_ancestor l D cy ad mi fu mc9 ms10 a1 v3 M6 _ hf H.size) ⟨q_cB hts gw_755 gw_13 gw_752 hdq_0 ⟨Nat.le_of_ble_eq_true rfl, Nat.le_of_ble_eq_true rfl⟩, hts _ gw_753, hts _ gw_754⟩ (q_preVM (q_preM hP hD hK hSt hT hMi hS (m_free hD hS hA) _) (va_recv hK hP (ci := 1) (q0 := ix_) rfl hi_)) rfl rfl hl.1 rfl (lv_room (Nat.le_of_ble_eq_true rfl)) d_Bl_meets_20 ⟨hc_, hd_⟩) hD hS hA (fun v12 M11 H locs hf hP hD hS => ?_)
  have hkc : κ + mc4 + mc9 ≤ MC := hc_
  have hks : σ + ms5 + ms10 ≤ MS := hd_
  clear hc_ hd_
  obtain ⟨q13, rfl, hf⟩ := hf
  refine W.eq (g2 := F0 m 23 ls [.ref q13]) rfl ?_
  refine lv_astore (lv' := [(4, .ref q13), (3, .ref q8), (2, .int v3), (0, .ref a0), (1, .ref a1)]) hx hb d_Bl_meets_23 hl (by decide) rfl (fun ls hl => ?_)
  have hl : lv_has ls 5 [(3, va_rf (some q8)), (4, va_rf (some q13))] := lv_sub hl [1, 0] rfl
  exact ww_mBl_meets_25 F fu _ _ _ _ _ hf hkc hks _ _ _ hP hD hS hl
theorem cw_mBl_meets (l : Launch) (D : va_G) (cy : Nat → ClassId) (ad : Nat → Nat) (mi fu MC MS : Nat) (a0 : Nat) (a1 : Nat) (M : Mm) (Φ : Option Nat → Mm → Prop) (hf : xw_mBl_meets fu MC MS cy ad mi Φ 0 0 M a0 a1) (sz : Nat) : Met l ({ cls := "CoinKeeper$Block", name := "meets", desc := "(LCoinKeeper$Block;)LCoinKeeper$Block;" } : Jvm.MethodName) (.code ({ cls := "CoinKeeper$Block", name := "meets", desc := "(LCoinKeeper$Block;)LCoinKeeper$Block;" } : Jvm.MethodName) b_Bl_meets 5 (Option.some (Jvm.ClassFile.FieldType.object "CoinKeeper$Block")) :: gw) (rmw_mBl_meets MC MS) (va_Pc [.ref a0, .ref a1] (PrM D cy ad mi (mw M) sz)) (va_Qq Φ (fun u t => Po D cy (va_A (mw M) sz) (mw u) t) (va_A (mw M) sz)) MC MS (va_A (mw M) sz) :=
  q_metM (Qc := fun A => va_Qq Φ (fun u t => Po D cy A (mw u) t) A) (by decide) rfl rfl (Nat.le_of_ble_eq_true rfl) (fun p e s m below meth c ls F hP hD hS hl => wew_mBl_meets (fu := fu) F 0 0 M a0 a1 hf (Nat.zero_le _) (Nat.zero_le _) _ _ _ hP hD hS hl) sz
abbrev b_Bl_subsidy : ByteArray := prog_2_method_4_code
theorem d_Bl_subsidy_0 : decode b_Bl_subsidy 0 = .ok (.ldc2_w 62, 3) := by decide +kernel
theorem d_Bl_subsidy_3 : decode b_Bl_subsidy 3 = .ok (.aload_n 0, 1) := by decide +kernel
theorem d_Bl_subsidy_4 : decode b_Bl_subsidy 4 = .ok (.getfield 23, 3) := by decide +kernel
theorem d_Bl_subsidy_7 : decode b_Bl_subsidy 7 = .ok (.bipush 20, 2) := by decide +kernel
theorem d_Bl_subsidy_9 : decode b_Bl_subsidy 9 = .ok (.idiv, 1) := by decide +kernel
theorem d_Bl_subsidy_10 : decode b_Bl_subsidy 10 = .ok (.lshr, 1) := by decide +kernel
theorem d_Bl_subsidy_11 : decode b_Bl_subsidy 11 = .ok (.lreturn, 1) := by decide +kernel
abbrev rmw_mBl_subsidy (MC MS : Nat) : Room := { frames := 0, cells := MC, slots := MS, locals := 0 }
def Iw_mBl_subsidy_e (p : Program) (l : Launch) (e : Env) (s : State) (m : MethodId) (args : Array Value) (below : List Frame) (meth : Method) (c : Code) (D : va_G) (cy : Nat → ClassId) (A : Nat → Prop) (ad : Nat → Nat) (mi MC MS : Nat) (Φ : Int64 → Mm → Prop) (k : Nat → Nat → Mm → Nat → Prop) : Prop :=
  ∀ (κ σ : Nat) (M : Mm) (a0 : Nat), k κ σ M a0 → κ ≤ MC → σ ≤ MS → ∀ (H : Heap) (locs : List Loc) (ls : Array Slot), va_P D classes (mw M) H → va_D A (mw M) → va_S A s.heap H locs → lv_has ls 1 [(0, .ref a0)] → W p l e (rmw_mBl_subsidy MC MS) s m args below meth c H locs κ σ (MQ below (va_Ql Φ (fun u t => Po D cy A (mw u) t) A) args s MC MS A) (F0 m 0 ls [])
set_option maxHeartbeats 8000000 in
set_option maxRecDepth 100000 in
theorem wew_mBl_subsidy {p : Program} {l : Launch} {e : Env} {s : State} {m : MethodId} {args : Array Value} {below : List Frame} {meth : Method} {c : Code} {D : va_G} {cy : Nat → ClassId} {A : Nat → Prop} {ad : Nat → Nat} {mi MC MS : Nat} {Φ : Int64 → Mm → Prop} {fu : Nat} (F : FxM p s m args meth c b_Bl_subsidy 1 "CoinKeeper$Block" "subsidy" (some .long) D cy ad mi A) : Iw_mBl_subsidy_e p l e s m args below meth c D cy A ad mi MC MS Φ (xw_mBl_subsidy fu MC MS cy ad mi Φ) := by
  obtain ⟨⟨hx, hb, hr, hml, hown, hts, hlocks, hK, hA, hSt, hnm, hex⟩, hT, hMi⟩ := id F
  intro κ σ M a0 hf hkc hks H locs ls hP hD hS hl
  unfold xw_mBl_subsidy at hf
  refine lv_ldc2 (v := 5000000000) hx hb hown (hts _ gw_967) d_Bl_subsidy_0 ?_
  refine lv_aload_n hx hb d_Bl_subsidy_3 rfl (lv_at hl 0 rfl) ?_
  obtain ⟨fs_, hm_, v1, hv_, hf⟩ := hf
  obtain ⟨ix_, hi_⟩ := m_ix hm_
  refine va_get (D := D) (ci := 1) (v := .int v1) (C := "CoinKeeper$Block") (T := F_1) (N := 12) hx hb hts i_1 hown hK hP ix_ hi_ rfl 4 (by decide) (hts _ gw_400) (fun _ h9 => h9) hv_ d_Bl_subsidy_4 ?_
  clear hv_ hi_ hm_
  refine lv_bipush (v := 20) hx hb d_Bl_subsidy_7 (by decide) ?_
  refine lv_idiv hx hb d_Bl_subsidy_9 (by decide) ?_
  refine lv_lshr hx hb d_Bl_subsidy_10 rfl ?_
  refine lv_topl (fun v2 ev => ?_)
  have hf := bnQ ev hf
  clear ev
  refine W.widen (k := MC) (n := MS) hkc hks ?_
  exact m_rl hf hx hb hr hlocks hK hP hD hS d_Bl_subsidy_11
theorem cw_mBl_subsidy (l : Launch) (D : va_G) (cy : Nat → ClassId) (ad : Nat → Nat) (mi fu MC MS : Nat) (a0 : Nat) (M : Mm) (Φ : Int64 → Mm → Prop) (hf : xw_mBl_subsidy fu MC MS cy ad mi Φ 0 0 M a0) (sz : Nat) : Met l ({ cls := "CoinKeeper$Block", name := "subsidy", desc := "()J" } : Jvm.MethodName) (.code ({ cls := "CoinKeeper$Block", name := "subsidy", desc := "()J" } : Jvm.MethodName) b_Bl_subsidy 1 (some .long) :: gw) (rmw_mBl_subsidy MC MS) (va_Pc [.ref a0] (PrM D cy ad mi (mw M) sz)) (va_Ql Φ (fun u t => Po D cy (va_A (mw M) sz) (mw u) t) (va_A (mw M) sz)) MC MS (va_A (mw M) sz) :=
  q_metM (Qc := fun A => va_Ql Φ (fun u t => Po D cy A (mw u) t) A) (by decide) rfl rfl (Nat.le_of_ble_eq_true rfl) (fun p e s m below meth c ls F hP hD hS hl => wew_mBl_subsidy (fu := fu) F 0 0 M a0 hf (Nat.zero_le _) (Nat.zero_le _) _ _ _ hP hD hS hl) sz
abbrev b_Bl_median : ByteArray := prog_2_method_5_code
theorem d_Bl_median_0 : decode b_Bl_median 0 = .ok (.bipush 11, 2) := by decide +kernel
theorem d_Bl_median_2 : decode b_Bl_median 2 = .ok (.newarray .long, 2) := by decide +kernel
theorem d_Bl_median_4 : decode b_Bl_median 4 = .ok (.astore_n 1, 1) := by decide +kernel
theorem d_Bl_median_5 : decode b_Bl_median 5 = .ok (.iconst 0, 1) := by decide +kernel
theorem d_Bl_median_6 : decode b_Bl_median 6 = .ok (.istore_n 2, 1) := by decide +kernel
theorem d_Bl_median_7 : decode b_Bl_median 7 = .ok (.aload_n 0, 1) := by decide +kernel
theorem d_Bl_median_8 : decode b_Bl_median 8 = .ok (.astore_n 3, 1) := by decide +kernel
theorem d_Bl_median_9 : decode b_Bl_median 9 = .ok (.aload_n 3, 1) := by decide +kernel
theorem d_Bl_median_10 : decode b_Bl_median 10 = .ok (.ifnull 66, 3) := by decide +kernel
theorem d_Bl_median_13 : decode b_Bl_median 13 = .ok (.iload_n 2, 1) := by decide +kernel
theorem d_Bl_median_14 : decode b_Bl_median 14 = .ok (.bipush 11, 2) := by decide +kernel
theorem d_Bl_median_16 : decode b_Bl_median 16 = .ok (.if_icmp .ge 60, 3) := by decide +kernel
theorem d_Bl_median_19 : decode b_Bl_median 19 = .ok (.iload_n 2, 1) := by decide +kernel
theorem d_Bl_median_20 : decode b_Bl_median 20 = .ok (.istore 4, 2) := by decide +kernel
theorem d_Bl_median_22 : decode b_Bl_median 22 = .ok (.iload 4, 2) := by decide +kernel
theorem d_Bl_median_24 : decode b_Bl_median 24 = .ok (.ifCond .le 33, 3) := by decide +kernel
theorem d_Bl_median_27 : decode b_Bl_median 27 = .ok (.aload_n 1, 1) := by decide +kernel
theorem d_Bl_median_28 : decode b_Bl_median 28 = .ok (.iload 4, 2) := by decide +kernel
theorem d_Bl_median_30 : decode b_Bl_median 30 = .ok (.iconst 1, 1) := by decide +kernel
theorem d_Bl_median_31 : decode b_Bl_median 31 = .ok (.isub, 1) := by decide +kernel
theorem d_Bl_median_32 : decode b_Bl_median 32 = .ok (.laload, 1) := by decide +kernel
theorem d_Bl_median_33 : decode b_Bl_median 33 = .ok (.aload_n 3, 1) := by decide +kernel
theorem d_Bl_median_34 : decode b_Bl_median 34 = .ok (.getfield 37, 3) := by decide +kernel
theorem d_Bl_median_37 : decode b_Bl_median 37 = .ok (.lcmp, 1) := by decide +kernel
theorem d_Bl_median_38 : decode b_Bl_median 38 = .ok (.ifCond .le 19, 3) := by decide +kernel
theorem d_Bl_median_41 : decode b_Bl_median 41 = .ok (.aload_n 1, 1) := by decide +kernel
theorem d_Bl_median_42 : decode b_Bl_median 42 = .ok (.iload 4, 2) := by decide +kernel
theorem d_Bl_median_44 : decode b_Bl_median 44 = .ok (.aload_n 1, 1) := by decide +kernel
theorem d_Bl_median_45 : decode b_Bl_median 45 = .ok (.iload 4, 2) := by decide +kernel
theorem d_Bl_median_47 : decode b_Bl_median 47 = .ok (.iconst 1, 1) := by decide +kernel
theorem d_Bl_median_48 : decode b_Bl_median 48 = .ok (.isub, 1) := by decide +kernel
theorem d_Bl_median_49 : decode b_Bl_median 49 = .ok (.laload, 1) := by decide +kernel
theorem d_Bl_median_50 : decode b_Bl_median 50 = .ok (.lastore, 1) := by decide +kernel
theorem d_Bl_median_51 : decode b_Bl_median 51 = .ok (.iinc 4 (-1), 3) := by decide +kernel
theorem d_Bl_median_54 : decode b_Bl_median 54 = .ok (.goto (-32), 3) := by decide +kernel
theorem d_Bl_median_57 : decode b_Bl_median 57 = .ok (.aload_n 1, 1) := by decide +kernel
theorem d_Bl_median_58 : decode b_Bl_median 58 = .ok (.iload 4, 2) := by decide +kernel
theorem d_Bl_median_60 : decode b_Bl_median 60 = .ok (.aload_n 3, 1) := by decide +kernel
theorem d_Bl_median_61 : decode b_Bl_median 61 = .ok (.getfield 37, 3) := by decide +kernel
theorem d_Bl_median_64 : decode b_Bl_median 64 = .ok (.lastore, 1) := by decide +kernel
theorem d_Bl_median_65 : decode b_Bl_median 65 = .ok (.iinc 2 1, 3) := by decide +kernel
theorem d_Bl_median_68 : decode b_Bl_median 68 = .ok (.aload_n 3, 1) := by decide +kernel
theorem d_Bl_median_69 : decode b_Bl_median 69 = .ok (.getfield 7, 3) := by decide +kernel
theorem d_Bl_median_72 : decode b_Bl_median 72 = .ok (.astore_n 3, 1) := by decide +kernel
theorem d_Bl_median_73 : decode b_Bl_median 73 = .ok (.goto (-64), 3) := by decide +kernel
theorem d_Bl_median_76 : decode b_Bl_median 76 = .ok (.aload_n 1, 1) := by decide +kernel
theorem d_Bl_median_77 : decode b_Bl_median 77 = .ok (.iload_n 2, 1) := by decide +kernel
theorem d_Bl_median_78 : decode b_Bl_median 78 = .ok (.iconst 2, 1) := by decide +kernel
theorem d_Bl_median_79 : decode b_Bl_median 79 = .ok (.idiv, 1) := by decide +kernel
theorem d_Bl_median_80 : decode b_Bl_median 80 = .ok (.laload, 1) := by decide +kernel
theorem d_Bl_median_81 : decode b_Bl_median 81 = .ok (.lreturn, 1) := by decide +kernel
abbrev rmw_mBl_median (MC MS : Nat) : Room := { frames := 0, cells := MC, slots := MS, locals := 0 }
def Iw_mBl_median_57 (p : Program) (l : Launch) (e : Env) (s : State) (m : MethodId) (args : Array Value) (below : List Frame) (meth : Method) (c : Code) (D : va_G) (cy : Nat → ClassId) (A : Nat → Prop) (ad : Nat → Nat) (mi MC MS : Nat) (Φ : Int64 → Mm → Prop) (k : Nat → Nat → Mm → Nat → Int32 → Nat → Int32 → Prop) : Prop :=
  ∀ (κ σ : Nat) (M : Mm) (x1 : Nat) (x2 : Int32) (x3 : Nat) (x4 : Int32), k κ σ M x1 x2 x3 x4 → κ ≤ MC → σ ≤ MS → ∀ (H : Heap) (locs : List Loc) (ls : Array Slot), va_P D classes (mw M) H → va_D A (mw M) → va_S A s.heap H locs → lv_has ls 5 [(1, .ref x1), (2, .int x2), (3, .ref x3), (4, .int x4)] → W p l e (rmw_mBl_median MC MS) s m args below meth c H locs κ σ (MQ below (va_Ql Φ (fun u t => Po D cy A (mw u) t) A) args s MC MS A) (F0 m 57 ls [])
def Iw_mBl_median_22 (p : Program) (l : Launch) (e : Env) (s : State) (m : MethodId) (args : Array Value) (below : List Frame) (meth : Method) (c : Code) (D : va_G) (cy : Nat → ClassId) (A : Nat → Prop) (ad : Nat → Nat) (mi MC MS : Nat) (Φ : Int64 → Mm → Prop) (k : Nat → Nat → Mm → Nat → Int32 → Nat → Int32 → Prop) : Prop :=
  ∀ (κ σ : Nat) (M : Mm) (x1 : Nat) (x2 : Int32) (x3 : Nat) (x4 : Int32), k κ σ M x1 x2 x3 x4 → κ ≤ MC → σ ≤ MS → ∀ (H : Heap) (locs : List Loc) (ls : Array Slot), va_P D classes (mw M) H → va_D A (mw M) → va_S A s.heap H locs → lv_has ls 5 [(1, .ref x1), (2, .int x2), (3, .ref x3), (4, .int x4)] → W p l e (rmw_mBl_median MC MS) s m args below meth c H locs κ σ (MQ below (va_Ql Φ (fun u t => Po D cy A (mw u) t) A) args s MC MS A) (F0 m 22 ls [])
def Iw_mBl_median_9 (p : Program) (l : Launch) (e : Env) (s : State) (m : MethodId) (args : Array Value) (below : List Frame) (meth : Method) (c : Code) (D : va_G) (cy : Nat → ClassId) (A : Nat → Prop) (ad : Nat → Nat) (mi MC MS : Nat) (Φ : Int64 → Mm → Prop) (k : Nat → Nat → Mm → Nat → Int32 → Option Nat → Prop) : Prop :=
  ∀ (κ σ : Nat) (M : Mm) (x1 : Nat) (x2 : Int32) (x3 : Option Nat), k κ σ M x1 x2 x3 → κ ≤ MC → σ ≤ MS → ∀ (H : Heap) (locs : List Loc) (ls : Array Slot), va_P D classes (mw M) H → va_D A (mw M) → va_S A s.heap H locs → lv_has ls 5 [(1, .ref x1), (2, .int x2), (3, va_rf x3)] → W p l e (rmw_mBl_median MC MS) s m args below meth c H locs κ σ (MQ below (va_Ql Φ (fun u t => Po D cy A (mw u) t) A) args s MC MS A) (F0 m 9 ls [])
def Iw_mBl_median_e (p : Program) (l : Launch) (e : Env) (s : State) (m : MethodId) (args : Array Value) (below : List Frame) (meth : Method) (c : Code) (D : va_G) (cy : Nat → ClassId) (A : Nat → Prop) (ad : Nat → Nat) (mi MC MS : Nat) (Φ : Int64 → Mm → Prop) (k : Nat → Nat → Mm → Nat → Prop) : Prop :=
  ∀ (κ σ : Nat) (M : Mm) (a0 : Nat), k κ σ M a0 → κ ≤ MC → σ ≤ MS → ∀ (H : Heap) (locs : List Loc) (ls : Array Slot), va_P D classes (mw M) H → va_D A (mw M) → va_S A s.heap H locs → lv_has ls 5 [(0, .ref a0)] → W p l e (rmw_mBl_median MC MS) s m args below meth c H locs κ σ (MQ below (va_Ql Φ (fun u t => Po D cy A (mw u) t) A) args s MC MS A) (F0 m 0 ls [])
set_option maxHeartbeats 8000000 in
set_option maxRecDepth 100000 in
theorem wv_mBl_median_57 {p : Program} {l : Launch} {e : Env} {s : State} {m : MethodId} {args : Array Value} {below : List Frame} {meth : Method} {c : Code} {D : va_G} {cy : Nat → ClassId} {A : Nat → Prop} {ad : Nat → Nat} {mi MC MS : Nat} {Φ : Int64 → Mm → Prop} {fu : Nat} {k_9 : Nat → Nat → Mm → Nat → Int32 → Option Nat → Prop} (F : FxM p s m args meth c b_Bl_median 5 "CoinKeeper$Block" "median" (some .long) D cy ad mi A) (hk_9 : Iw_mBl_median_9 p l e s m args below meth c D cy A ad mi MC MS Φ k_9) : Iw_mBl_median_57 p l e s m args below meth c D cy A ad mi MC MS Φ (xv_mBl_median_57 fu MC MS cy ad mi Φ k_9) := by
  obtain ⟨⟨hx, hb, hr, hml, hown, hts, hlocks, hK, hA, hSt, hnm, hex⟩, hT, hMi⟩ := id F
  intro κ σ M x1 x2 x3 x4 hf hkc hks H locs ls hP hD hS hl
  unfold xv_mBl_median_57 at hf
  refine lv_aload_n hx hb d_Bl_median_57 rfl (lv_at hl 0 rfl) ?_
  refine lv_iload hx hb d_Bl_median_58 (lv_at hl 3 rfl) ?_
  refine lv_aload_n hx hb d_Bl_median_60 rfl (lv_at hl 2 rfl) ?_
  obtain ⟨fs_, hm_, v1, hv_, hf⟩ := hf
  obtain ⟨ix_, hi_⟩ := m_ix hm_
  refine va_get (D := D) (ci := 1) (v := .long v1) (C := "CoinKeeper$Block") (T := F_1) (N := 12) hx hb hts i_1 hown hK hP ix_ hi_ rfl 5 (by decide) (hts _ gw_402) (fun _ h9 => h9) hv_ d_Bl_median_61 ?_
  clear hv_ hi_ hm_
  obtain ⟨n_, f_, hm_, hin_, hf⟩ := hf
  obtain ⟨ix_, hi_⟩ := m_ix hm_
  have hE_ := m_set (y := .inl (cy 2, n_, .inr (.inl (vp_updL f_ x4.toNatClampNeg v1)))) hD hi_
  refine va_last hx hb hK hP hD hS ix_ 2 hi_ rfl (inb_in hin_) d_Bl_median_64 (fun H locs hP hD hS => ?_)
  obtain ⟨M2, eM_⟩ : ∃ z, z = mu M x1 (.inl (cy 2, n_, .inr (.inl (vp_updL f_ x4.toNatClampNeg v1)))) := ⟨_, rfl⟩
  rw [← eM_] at hf hE_
  rw [hE_] at hP hD
  clear hE_ eM_ hi_ hm_
  obtain ⟨v3, ev, hf⟩ := bnP hf
  refine lv_iinc (v := v3) (lv' := [(2, .int v3), (1, .ref x1), (3, .ref x3), (4, .int x4)]) hx hb d_Bl_median_65 hl (k := 1) rfl (by rw [ev]; rfl) (by decide) rfl (fun ls hl => ?_)
  clear ev
  refine lv_aload_n hx hb d_Bl_median_68 rfl (lv_at hl 2 rfl) ?_
  obtain ⟨fs_, hm_, r4, hv_, hf⟩ := hf
  obtain ⟨ix_, hi_⟩ := m_ix hm_
  refine va_get (D := D) (ci := 1) (v := va_rf r4) (C := "CoinKeeper$Block") (T := F_1) (N := 12) hx hb hts i_1 hown hK hP ix_ hi_ rfl 0 (by decide) (hts _ gw_390) (fun _ h9 => h9) hv_ d_Bl_median_69 ?_
  clear hv_ hi_ hm_
  have hq_ := ospp hf
  clear hf
  rcases hq_ with ⟨rfl, hf⟩ | ⟨q5, rfl, hf⟩
  · refine W.eq (g2 := F0 m 72 ls [.null]) rfl ?_
    refine lv_astore_nN (lv' := [(3, .null), (2, .int v3), (1, .ref x1), (4, .int x4)]) hx hb d_Bl_median_72 rfl hl (by decide) rfl (fun ls hl => ?_)
    refine lv_goto (tgt := 9) hx hb d_Bl_median_73 (by decide) ?_
    have hl : lv_has ls 5 [(1, .ref x1), (2, .int v3), (3, va_rf Option.none)] := lv_sub hl [2, 1, 0] rfl
    exact hk_9 _ _ _ _ _ _ hf hkc hks _ _ _ hP hD hS hl
  · refine W.eq (g2 := F0 m 72 ls [.ref q5]) rfl ?_
    refine lv_astore_n (lv' := [(3, .ref q5), (2, .int v3), (1, .ref x1), (4, .int x4)]) hx hb d_Bl_median_72 rfl hl (by decide) rfl (fun ls hl => ?_)
    refine lv_goto (tgt := 9) hx hb d_Bl_median_73 (by decide) ?_
    have hl : lv_has ls 5 [(1, .ref x1), (2, .int v3), (3, va_rf (some q5))] := lv_sub hl [2, 1, 0] rfl
    exact hk_9 _ _ _ _ _ _ hf hkc hks _ _ _ hP hD hS hl
set_option maxHeartbeats 8000000 in
set_option maxRecDepth 100000 in
theorem wv_mBl_median_22 {p : Program} {l : Launch} {e : Env} {s : State} {m : MethodId} {args : Array Value} {below : List Frame} {meth : Method} {c : Code} {D : va_G} {cy : Nat → ClassId} {A : Nat → Prop} {ad : Nat → Nat} {mi MC MS : Nat} {Φ : Int64 → Mm → Prop} {fu : Nat} {k_9 : Nat → Nat → Mm → Nat → Int32 → Option Nat → Prop} {k_22 : Nat → Nat → Mm → Nat → Int32 → Nat → Int32 → Prop} (F : FxM p s m args meth c b_Bl_median 5 "CoinKeeper$Block" "median" (some .long) D cy ad mi A) (hk_9 : Iw_mBl_median_9 p l e s m args below meth c D cy A ad mi MC MS Φ k_9) (hk_22 : Iw_mBl_median_22 p l e s m args below meth c D cy A ad mi MC MS Φ k_22) : Iw_mBl_median_22 p l e s m args below meth c D cy A ad mi MC MS Φ (xv_mBl_median_22 fu MC MS cy ad mi Φ k_9 k_22) := by
  obtain ⟨⟨hx, hb, hr, hml, hown, hts, hlocks, hK, hA, hSt, hnm, hex⟩, hT, hMi⟩ := id F
  intro κ σ M x1 x2 x3 x4 hf hkc hks H locs ls hP hD hS hl
  unfold xv_mBl_median_22 at hf
  refine lv_iload hx hb d_Bl_median_22 (lv_at hl 3 rfl) ?_
  refine lv_if_le (tgt := 57) hx hb d_Bl_median_24 (by decide) (fun cx => ?_) (fun cx => ?_)
  · have hf := ifpP cx hf
    exact wv_mBl_median_57 (fu := fu) F hk_9 _ _ _ _ _ _ _ hf hkc hks _ _ _ hP hD hS (lv_sub hl [0, 1, 2, 3] rfl)
  · have hf := ifnP cx hf
    refine lv_aload_n hx hb d_Bl_median_27 rfl (lv_at hl 0 rfl) ?_
    refine lv_iload hx hb d_Bl_median_28 (lv_at hl 3 rfl) ?_
    refine lv_iconst (v := 1) hx hb d_Bl_median_30 (by decide) ?_
    refine lv_isub hx hb d_Bl_median_31 ?_
    refine lv_topi (fun v1 ev => ?_)
    have hf := bnQ ev hf
    clear ev
    obtain ⟨n_, f_, hm_, hin_, hf⟩ := hf
    obtain ⟨ix_, hi_⟩ := m_ix hm_
    refine va_lald hx hb hK hP ix_ 2 hi_ rfl (inb_in hin_) d_Bl_median_32 ?_
    obtain ⟨v2, ev⟩ : ∃ z, z = f_ v1.toNatClampNeg := ⟨_, rfl⟩
    first | rw [← ev] at hf ⊢ | rw [← ev]
    clear ev hi_ hm_ hin_
    refine lv_aload_n hx hb d_Bl_median_33 rfl (lv_at hl 2 rfl) ?_
    obtain ⟨fs_, hm_, v3, hv_, hf⟩ := hf
    obtain ⟨ix_, hi_⟩ := m_ix hm_
    refine va_get (D := D) (ci := 1) (v := .long v3) (C := "CoinKeeper$Block") (T := F_1) (N := 12) hx hb hts i_1 hown hK hP ix_ hi_ rfl 5 (by decide) (hts _ gw_402) (fun _ h9 => h9) hv_ d_Bl_median_34 ?_
    clear hv_ hi_ hm_
    refine W.lcmp hx hb d_Bl_median_37 ?_
    refine lv_if_le (tgt := 57) hx hb d_Bl_median_38 (by decide) (fun cx => ?_) (fun cx => ?_)
    · have hf := ifpP cx hf
      exact wv_mBl_median_57 (fu := fu) F hk_9 _ _ _ _ _ _ _ hf hkc hks _ _ _ hP hD hS (lv_sub hl [0, 1, 2, 3] rfl)
    · have hf := ifnP cx hf
      refine lv_aload_n hx hb d_Bl_median_41 rfl (lv_at hl 0 rfl) ?_
      refine lv_iload hx hb d_Bl_median_42 (lv_at hl 3 rfl) ?_
      refine lv_aload_n hx hb d_Bl_median_44 rfl (lv_at hl 0 rfl) ?_
      refine lv_iload hx hb d_Bl_median_45 (lv_at hl 3 rfl) ?_
      refine lv_iconst (v := 1) hx hb d_Bl_median_47 (by decide) ?_
      refine lv_isub hx hb d_Bl_median_48 ?_
      refine lv_topi (fun v4 ev => ?_)
      have hf := bnQ ev hf
      clear ev
      obtain ⟨n_, f_, hm_, hin_, hf⟩ := hf
      obtain ⟨ix_, hi_⟩ := m_ix hm_
      refine va_lald hx hb hK hP ix_ 2 hi_ rfl (inb_in hin_) d_Bl_median_49 ?_
      obtain ⟨v5, ev⟩ : ∃ z, z = f_ v4.toNatClampNeg := ⟨_, rfl⟩
      first | rw [← ev] at hf ⊢ | rw [← ev]
      clear ev hi_ hm_ hin_
      obtain ⟨n_, f_, hm_, hin_, hf⟩ := hf
      obtain ⟨ix_, hi_⟩ := m_ix hm_
      have hE_ := m_set (y := .inl (cy 2, n_, .inr (.inl (vp_updL f_ x4.toNatClampNeg v5)))) hD hi_
      refine va_last hx hb hK hP hD hS ix_ 2 hi_ rfl (inb_in hin_) d_Bl_median_50 (fun H locs hP hD hS => ?_)
      obtain ⟨M6, eM_⟩ : ∃ z, z = mu M x1 (.inl (cy 2, n_, .inr (.inl (vp_updL f_ x4.toNatClampNeg v5)))) := ⟨_, rfl⟩
      rw [← eM_] at hf hE_
      rw [hE_] at hP hD
      clear hE_ eM_ hi_ hm_
      obtain ⟨v7, ev, hf⟩ := bnP hf
      refine lv_iinc (v := v7) (lv' := [(4, .int v7), (1, .ref x1), (2, .int x2), (3, .ref x3)]) hx hb d_Bl_median_51 hl (k := 3) rfl (by rw [ev]; rfl) (by decide) rfl (fun ls hl => ?_)
      clear ev
      refine lv_goto (tgt := 22) hx hb d_Bl_median_54 (by decide) ?_
      exact hk_22 _ _ _ _ _ _ _ hf hkc hks _ _ _ hP hD hS (lv_sub hl [1, 2, 3, 0] rfl)
theorem ww_mBl_median_22 {p : Program} {l : Launch} {e : Env} {s : State} {m : MethodId} {args : Array Value} {below : List Frame} {meth : Method} {c : Code} {D : va_G} {cy : Nat → ClassId} {A : Nat → Prop} {ad : Nat → Nat} {mi MC MS : Nat} {Φ : Int64 → Mm → Prop} {fu : Nat} {k_9 : Nat → Nat → Mm → Nat → Int32 → Option Nat → Prop} (F : FxM p s m args meth c b_Bl_median 5 "CoinKeeper$Block" "median" (some .long) D cy ad mi A) (hk_9 : Iw_mBl_median_9 p l e s m args below meth c D cy A ad mi MC MS Φ k_9) : ∀ n : Nat, Iw_mBl_median_22 p l e s m args below meth c D cy A ad mi MC MS Φ (xw_mBl_median_22 fu MC MS cy ad mi Φ k_9 n)
  | 0 => fun _ _ _ _ _ _ _ hf => False.elim hf
  | n + 1 => wv_mBl_median_22 F hk_9 (ww_mBl_median_22 F hk_9 n)
set_option maxHeartbeats 8000000 in
set_option maxRecDepth 100000 in
theorem wv_mBl_median_9 {p : Program} {l : Launch} {e : Env} {s : State} {m : MethodId} {args : Array Value} {below : List Frame} {meth : Method} {c : Code} {D : va_G} {cy : Nat → ClassId} {A : Nat → Prop} {ad : Nat → Nat} {mi MC MS : Nat} {Φ : Int64 → Mm → Prop} {fu : Nat} {k_9 : Nat → Nat → Mm → Nat → Int32 → Option Nat → Prop} (F : FxM p s m args meth c b_Bl_median 5 "CoinKeeper$Block" "median" (some .long) D cy ad mi A) (hk_9 : Iw_mBl_median_9 p l e s m args below meth c D cy A ad mi MC MS Φ k_9) : Iw_mBl_median_9 p l e s m args below meth c D cy A ad mi MC MS Φ (xv_mBl_median_9 fu MC MS cy ad mi Φ k_9) := by
  obtain ⟨⟨hx, hb, hr, hml, hown, hts, hlocks, hK, hA, hSt, hnm, hex⟩, hT, hMi⟩ := id F
  intro κ σ M x1 x2 x3 hf hkc hks H locs ls hP hD hS hl
  unfold xv_mBl_median_9 at hf
  have hq_ := ospp hf
  clear hf
  rcases hq_ with ⟨rfl, hf⟩ | ⟨x3a, rfl, hf⟩
  · have hl : lv_has ls 5 [(1, .ref x1), (2, .int x2), (3, .null)] := hl
    refine lv_aload_nN hx hb d_Bl_median_9 rfl (lv_at hl 2 rfl) ?_
    refine lv_ifnullN (tgt := 76) hx hb d_Bl_median_10 (by decide) ?_
    refine lv_aload_n hx hb d_Bl_median_76 rfl (lv_at hl 0 rfl) ?_
    refine lv_iload_n hx hb d_Bl_median_77 rfl (lv_at hl 1 rfl) ?_
    refine lv_iconst (v := 2) hx hb d_Bl_median_78 (by decide) ?_
    refine lv_idiv hx hb d_Bl_median_79 (by decide) ?_
    refine lv_topi (fun v1 ev => ?_)
    have hf := bnQ ev hf
    clear ev
    obtain ⟨n_, f_, hm_, hin_, hf⟩ := hf
    obtain ⟨ix_, hi_⟩ := m_ix hm_
    refine va_lald hx hb hK hP ix_ 2 hi_ rfl (inb_in hin_) d_Bl_median_80 ?_
    obtain ⟨v2, ev⟩ : ∃ z, z = f_ v1.toNatClampNeg := ⟨_, rfl⟩
    first | rw [← ev] at hf ⊢ | rw [← ev]
    clear ev hi_ hm_ hin_
    refine W.widen (k := MC) (n := MS) hkc hks ?_
    exact m_rl hf hx hb hr hlocks hK hP hD hS d_Bl_median_81
  · have hl : lv_has ls 5 [(1, .ref x1), (2, .int x2), (3, .ref x3a)] := hl
    refine lv_aload_n hx hb d_Bl_median_9 rfl (lv_at hl 2 rfl) ?_
    refine lv_ifnull hx hb d_Bl_median_10 ?_
    refine lv_iload_n hx hb d_Bl_median_13 rfl (lv_at hl 1 rfl) ?_
    refine lv_bipush (v := 11) hx hb d_Bl_median_14 (by decide) ?_
    refine lv_icmp_ge (tgt := 76) hx hb d_Bl_median_16 (by decide) (fun cx => ?_) (fun cx => ?_)
    · have hf := ifpP cx hf
      refine lv_aload_n hx hb d_Bl_median_76 rfl (lv_at hl 0 rfl) ?_
      refine lv_iload_n hx hb d_Bl_median_77 rfl (lv_at hl 1 rfl) ?_
      refine lv_iconst (v := 2) hx hb d_Bl_median_78 (by decide) ?_
      refine lv_idiv hx hb d_Bl_median_79 (by decide) ?_
      refine lv_topi (fun v3 ev => ?_)
      have hf := bnQ ev hf
      clear ev
      obtain ⟨n_, f_, hm_, hin_, hf⟩ := hf
      obtain ⟨ix_, hi_⟩ := m_ix hm_
      refine va_lald hx hb hK hP ix_ 2 hi_ rfl (inb_in hin_) d_Bl_median_80 ?_
      obtain ⟨v4, ev⟩ : ∃ z, z = f_ v3.toNatClampNeg := ⟨_, rfl⟩
      first | rw [← ev] at hf ⊢ | rw [← ev]
      clear ev hi_ hm_ hin_
      refine W.widen (k := MC) (n := MS) hkc hks ?_
      exact m_rl hf hx hb hr hlocks hK hP hD hS d_Bl_median_81
    · have hf := ifnP cx hf
      refine lv_iload_n hx hb d_Bl_median_19 rfl (lv_at hl 1 rfl) ?_
      refine lv_istore (lv' := [(4, .int x2), (1, .ref x1), (2, .int x2), (3, .ref x3a)]) hx hb d_Bl_median_20 hl (by decide) rfl (fun ls hl => ?_)
      exact ww_mBl_median_22 F hk_9 fu _ _ _ _ _ _ _ hf hkc hks _ _ _ hP hD hS (lv_sub hl [1, 2, 3, 0] rfl)
theorem ww_mBl_median_9 {p : Program} {l : Launch} {e : Env} {s : State} {m : MethodId} {args : Array Value} {below : List Frame} {meth : Method} {c : Code} {D : va_G} {cy : Nat → ClassId} {A : Nat → Prop} {ad : Nat → Nat} {mi MC MS : Nat} {Φ : Int64 → Mm → Prop} {fu : Nat} (F : FxM p s m args meth c b_Bl_median 5 "CoinKeeper$Block" "median" (some .long) D cy ad mi A) : ∀ n : Nat, Iw_mBl_median_9 p l e s m args below meth c D cy A ad mi MC MS Φ (xw_mBl_median_9 fu MC MS cy ad mi Φ n)
  | 0 => fun _ _ _ _ _ _ hf => False.elim hf
  | n + 1 => wv_mBl_median_9 F (ww_mBl_median_9 F n)
set_option maxHeartbeats 8000000 in
set_option maxRecDepth 100000 in
theorem wew_mBl_median {p : Program} {l : Launch} {e : Env} {s : State} {m : MethodId} {args : Array Value} {below : List Frame} {meth : Method} {c : Code} {D : va_G} {cy : Nat → ClassId} {A : Nat → Prop} {ad : Nat → Nat} {mi MC MS : Nat} {Φ : Int64 → Mm → Prop} {fu : Nat} (F : FxM p s m args meth c b_Bl_median 5 "CoinKeeper$Block" "median" (some .long) D cy ad mi A) : Iw_mBl_median_e p l e s m args below meth c D cy A ad mi MC MS Φ (xw_mBl_median fu MC MS cy ad mi Φ) := by
  obtain ⟨⟨hx, hb, hr, hml, hown, hts, hlocks, hK, hA, hSt, hnm, hex⟩, hT, hMi⟩ := id F
  intro κ σ M a0 hf hkc hks H locs ls hP hD hS hl
  unfold xw_mBl_median at hf
  refine lv_bipush (v := 11) hx hb d_Bl_median_0 (by decide) ?_
  obtain ⟨⟨hn_, hby_⟩, hf⟩ := hf
  obtain ⟨⟨hkc, hks⟩, hf⟩ := hf
  refine q_newa (ty := .long) (a0 := ((11 : Int32).toNatClampNeg, .inr (.inl (fun _ => 0)))) hx hb hts gw_98 rfl hK hP hD hS hA 2 rfl (fun _ h => h) (fun _ => rfl) hn_ rfl hby_ hkc hks d_Bl_median_2 (fun w1 H hP hD hS => ?_)
  have hE_ := m_push (x := .inl (cy 2, ((11 : Int32).toNatClampNeg, .inr (.inl (fun _ => 0))))) hD
  have hf := hf w1 (va_pl_fresh2 (X := []) (L := M.1) (f := M.2) hD) (ad_ne hSt hD)
  obtain ⟨M2, eM_⟩ : ∃ z, z = mp M w1 (.inl (cy 2, ((11 : Int32).toNatClampNeg, .inr (.inl (fun _ => 0))))) := ⟨_, rfl⟩
  rw [← eM_] at hf hE_
  rw [hE_] at hP hD
  clear hE_ eM_
  refine lv_astore_n (lv' := [(1, .ref w1), (0, .ref a0)]) hx hb d_Bl_median_4 rfl hl (by decide) rfl (fun ls hl => ?_)
  refine lv_iconst (v := 0) hx hb d_Bl_median_5 (by decide) ?_
  refine lv_istore_n (lv' := [(2, .int (0 : Int32)), (1, .ref w1), (0, .ref a0)]) hx hb d_Bl_median_6 rfl hl (by decide) rfl (fun ls hl => ?_)
  refine lv_aload_n hx hb d_Bl_median_7 rfl (lv_at hl 2 rfl) ?_
  refine lv_astore_n (lv' := [(3, .ref a0), (2, .int (0 : Int32)), (1, .ref w1), (0, .ref a0)]) hx hb d_Bl_median_8 rfl hl (by decide) rfl (fun ls hl => ?_)
  have hl : lv_has ls 5 [(1, .ref w1), (2, .int (0 : Int32)), (3, va_rf (some a0))] := lv_sub hl [2, 1, 0] rfl
  exact ww_mBl_median_9 F fu _ _ _ _ _ _ hf hkc hks _ _ _ hP hD hS hl
theorem cw_mBl_median (l : Launch) (D : va_G) (cy : Nat → ClassId) (ad : Nat → Nat) (mi fu MC MS : Nat) (a0 : Nat) (M : Mm) (Φ : Int64 → Mm → Prop) (hf : xw_mBl_median fu MC MS cy ad mi Φ 0 0 M a0) (sz : Nat) : Met l ({ cls := "CoinKeeper$Block", name := "median", desc := "()J" } : Jvm.MethodName) (.code ({ cls := "CoinKeeper$Block", name := "median", desc := "()J" } : Jvm.MethodName) b_Bl_median 5 (some .long) :: gw) (rmw_mBl_median MC MS) (va_Pc [.ref a0] (PrM D cy ad mi (mw M) sz)) (va_Ql Φ (fun u t => Po D cy (va_A (mw M) sz) (mw u) t) (va_A (mw M) sz)) MC MS (va_A (mw M) sz) :=
  q_metM (Qc := fun A => va_Ql Φ (fun u t => Po D cy A (mw u) t) A) (by decide) rfl rfl (Nat.le_of_ble_eq_true rfl) (fun p e s m below meth c ls F hP hD hS hl => wew_mBl_median (fu := fu) F 0 0 M a0 hf (Nat.zero_le _) (Nat.zero_le _) _ _ _ hP hD hS hl) sz
abbrev b_Bl_wantedBits : ByteArray := prog_2_method_6_code
theorem d_Bl_wantedBits_0 : decode b_Bl_wantedBits 0 = .ok (.aload_n 0, 1) := by decide +kernel
theorem d_Bl_wantedBits_1 : decode b_Bl_wantedBits 1 = .ok (.getfield 23, 3) := by decide +kernel
theorem d_Bl_wantedBits_4 : decode b_Bl_wantedBits 4 = .ok (.iconst 1, 1) := by decide +kernel
theorem d_Bl_wantedBits_5 : decode b_Bl_wantedBits 5 = .ok (.iadd, 1) := by decide +kernel
theorem d_Bl_wantedBits_6 : decode b_Bl_wantedBits 6 = .ok (.bipush 8, 2) := by decide +kernel
theorem d_Bl_wantedBits_8 : decode b_Bl_wantedBits 8 = .ok (.irem, 1) := by decide +kernel
theorem d_Bl_wantedBits_9 : decode b_Bl_wantedBits 9 = .ok (.ifCond .eq 8, 3) := by decide +kernel
theorem d_Bl_wantedBits_12 : decode b_Bl_wantedBits 12 = .ok (.aload_n 0, 1) := by decide +kernel
theorem d_Bl_wantedBits_13 : decode b_Bl_wantedBits 13 = .ok (.getfield 42, 3) := by decide +kernel
theorem d_Bl_wantedBits_16 : decode b_Bl_wantedBits 16 = .ok (.ireturn, 1) := by decide +kernel
theorem d_Bl_wantedBits_17 : decode b_Bl_wantedBits 17 = .ok (.aload_n 0, 1) := by decide +kernel
theorem d_Bl_wantedBits_18 : decode b_Bl_wantedBits 18 = .ok (.getfield 37, 3) := by decide +kernel
theorem d_Bl_wantedBits_21 : decode b_Bl_wantedBits 21 = .ok (.aload_n 0, 1) := by decide +kernel
theorem d_Bl_wantedBits_22 : decode b_Bl_wantedBits 22 = .ok (.aload_n 0, 1) := by decide +kernel
theorem d_Bl_wantedBits_23 : decode b_Bl_wantedBits 23 = .ok (.getfield 23, 3) := by decide +kernel
theorem d_Bl_wantedBits_26 : decode b_Bl_wantedBits 26 = .ok (.iconst 1, 1) := by decide +kernel
theorem d_Bl_wantedBits_27 : decode b_Bl_wantedBits 27 = .ok (.iadd, 1) := by decide +kernel
theorem d_Bl_wantedBits_28 : decode b_Bl_wantedBits 28 = .ok (.bipush 8, 2) := by decide +kernel
theorem d_Bl_wantedBits_30 : decode b_Bl_wantedBits 30 = .ok (.isub, 1) := by decide +kernel
theorem d_Bl_wantedBits_31 : decode b_Bl_wantedBits 31 = .ok (.invokevirtual 58, 3) := by decide +kernel
theorem d_Bl_wantedBits_34 : decode b_Bl_wantedBits 34 = .ok (.getfield 37, 3) := by decide +kernel
theorem d_Bl_wantedBits_37 : decode b_Bl_wantedBits 37 = .ok (.lsub, 1) := by decide +kernel
theorem d_Bl_wantedBits_38 : decode b_Bl_wantedBits 38 = .ok (.lstore_n 1, 1) := by decide +kernel
theorem d_Bl_wantedBits_39 : decode b_Bl_wantedBits 39 = .ok (.aload_n 0, 1) := by decide +kernel
theorem d_Bl_wantedBits_40 : decode b_Bl_wantedBits 40 = .ok (.getfield 42, 3) := by decide +kernel
theorem d_Bl_wantedBits_43 : decode b_Bl_wantedBits 43 = .ok (.ldc2_w 64, 3) := by decide +kernel
theorem d_Bl_wantedBits_46 : decode b_Bl_wantedBits 46 = .ok (.ldc2_w 66, 3) := by decide +kernel
theorem d_Bl_wantedBits_49 : decode b_Bl_wantedBits 49 = .ok (.lload_n 1, 1) := by decide +kernel
theorem d_Bl_wantedBits_50 : decode b_Bl_wantedBits 50 = .ok (.invokestatic 68, 3) := by decide +kernel
theorem d_Bl_wantedBits_53 : decode b_Bl_wantedBits 53 = .ok (.invokestatic 71, 3) := by decide +kernel
theorem d_Bl_wantedBits_56 : decode b_Bl_wantedBits 56 = .ok (.invokestatic 74, 3) := by decide +kernel
theorem d_Bl_wantedBits_59 : decode b_Bl_wantedBits 59 = .ok (.ireturn, 1) := by decide +kernel
abbrev rmw_mBl_wantedBits (MC MS : Nat) : Room := { frames := 1, cells := MC, slots := MS, locals := 26 }
def Iw_mBl_wantedBits_e (p : Program) (l : Launch) (e : Env) (s : State) (m : MethodId) (args : Array Value) (below : List Frame) (meth : Method) (c : Code) (D : va_G) (cy : Nat → ClassId) (A : Nat → Prop) (ad : Nat → Nat) (mi MC MS : Nat) (Φ : Int32 → Mm → Prop) (k : Nat → Nat → Mm → Nat → Prop) : Prop :=
  ∀ (κ σ : Nat) (M : Mm) (a0 : Nat), k κ σ M a0 → κ ≤ MC → σ ≤ MS → ∀ (H : Heap) (locs : List Loc) (ls : Array Slot), va_P D classes (mw M) H → va_D A (mw M) → va_S A s.heap H locs → lv_has ls 3 [(0, .ref a0)] → W p l e (rmw_mBl_wantedBits MC MS) s m args below meth c H locs κ σ (MQ below (va_Qi Φ (fun u t => Po D cy A (mw u) t) A) args s MC MS A) (F0 m 0 ls [])
theorem hdq_1 : ({ cls := "CoinKeeper$Block", name := "scaledBits", desc := "(IJ)I" } : Jvm.MethodName).cls ≠ "java/lang/invoke/MethodHandle" ∧ ({ cls := "CoinKeeper$Block", name := "scaledBits", desc := "(IJ)I" } : Jvm.MethodName).cls ≠ "java/lang/invoke/VarHandle" ∧ (parseMethodDescriptor ({ cls := "CoinKeeper$Block", name := "scaledBits", desc := "(IJ)I" } : Jvm.MethodName).desc).map (fun d => d.parameters.length) = some 2 := by decide +kernel
set_option maxHeartbeats 8000000 in
set_option maxRecDepth 100000 in
theorem wew_mBl_wantedBits {p : Program} {l : Launch} {e : Env} {s : State} {m : MethodId} {args : Array Value} {below : List Frame} {meth : Method} {c : Code} {D : va_G} {cy : Nat → ClassId} {A : Nat → Prop} {ad : Nat → Nat} {mi MC MS : Nat} {Φ : Int32 → Mm → Prop} {fu : Nat} (F : FxM p s m args meth c b_Bl_wantedBits 3 "CoinKeeper$Block" "wantedBits" (some .int) D cy ad mi A) : Iw_mBl_wantedBits_e p l e s m args below meth c D cy A ad mi MC MS Φ (xw_mBl_wantedBits fu MC MS cy ad mi Φ) := by
  obtain ⟨⟨hx, hb, hr, hml, hown, hts, hlocks, hK, hA, hSt, hnm, hex⟩, hT, hMi⟩ := id F
  intro κ σ M a0 hf hkc hks H locs ls hP hD hS hl
  unfold xw_mBl_wantedBits at hf
  refine lv_aload_n hx hb d_Bl_wantedBits_0 rfl (lv_at hl 0 rfl) ?_
  obtain ⟨fs_, hm_, v1, hv_, hf⟩ := hf
  obtain ⟨ix_, hi_⟩ := m_ix hm_
  refine va_get (D := D) (ci := 1) (v := .int v1) (C := "CoinKeeper$Block") (T := F_1) (N := 12) hx hb hts i_1 hown hK hP ix_ hi_ rfl 4 (by decide) (hts _ gw_400) (fun _ h9 => h9) hv_ d_Bl_wantedBits_1 ?_
  clear hv_ hi_ hm_
  refine lv_iconst (v := 1) hx hb d_Bl_wantedBits_4 (by decide) ?_
  refine lv_iadd hx hb d_Bl_wantedBits_5 ?_
  refine lv_topi (fun v2 ev => ?_)
  have hf := bnQ ev hf
  clear ev
  refine lv_bipush (v := 8) hx hb d_Bl_wantedBits_6 (by decide) ?_
  refine lv_irem hx hb d_Bl_wantedBits_8 (by decide) ?_
  refine lv_if_eq (tgt := 17) hx hb d_Bl_wantedBits_9 (by decide) (fun cx => ?_) (fun cx => ?_)
  · have hf := ifpP cx hf
    refine lv_aload_n hx hb d_Bl_wantedBits_17 rfl (lv_at hl 0 rfl) ?_
    obtain ⟨fs_, hm_, v3, hv_, hf⟩ := hf
    obtain ⟨ix_, hi_⟩ := m_ix hm_
    refine va_get (D := D) (ci := 1) (v := .long v3) (C := "CoinKeeper$Block") (T := F_1) (N := 12) hx hb hts i_1 hown hK hP ix_ hi_ rfl 5 (by decide) (hts _ gw_402) (fun _ h9 => h9) hv_ d_Bl_wantedBits_18 ?_
    clear hv_ hi_ hm_
    refine lv_aload_n hx hb d_Bl_wantedBits_21 rfl (lv_at hl 0 rfl) ?_
    refine lv_aload_n hx hb d_Bl_wantedBits_22 rfl (lv_at hl 0 rfl) ?_
    obtain ⟨fs_, hm_, v4, hv_, hf⟩ := hf
    obtain ⟨ix_, hi_⟩ := m_ix hm_
    refine va_get (D := D) (ci := 1) (v := .int v4) (C := "CoinKeeper$Block") (T := F_1) (N := 12) hx hb hts i_1 hown hK hP ix_ hi_ rfl 4 (by decide) (hts _ gw_400) (fun _ h9 => h9) hv_ d_Bl_wantedBits_23 ?_
    clear hv_ hi_ hm_
    refine lv_iconst (v := 1) hx hb d_Bl_wantedBits_26 (by decide) ?_
    refine lv_iadd hx hb d_Bl_wantedBits_27 ?_
    refine lv_topi (fun v5 ev => ?_)
    have hf := bnQ ev hf
    clear ev
    refine lv_bipush (v := 8) hx hb d_Bl_wantedBits_28 (by decide) ?_
    refine lv_isub hx hb d_Bl_wantedBits_30 ?_
    refine lv_topi (fun v6 ev => ?_)
    have hf := bnQ ev hf
    clear ev
    obtain ⟨fs_, hm_, hf⟩ := hf
    obtain ⟨ix_, hi_⟩ := m_ix hm_
    obtain ⟨mc7, ms8, ⟨hc_, hd_⟩, hf⟩ := hf
    refine m_aq (va_runV (C := "CoinKeeper$Block") (As := [.int v6]) (rest := [.long v3]) ⟨hx, hb, hml, hown, hts⟩ (cw_mBl_ancestor l D cy ad mi fu mc7 ms8 a0 v6 M _ hf H.size) ⟨q_cB hts gw_755 gw_13 gw_752 hdq_0 ⟨Nat.le_of_ble_eq_true rfl, Nat.le_of_ble_eq_true rfl⟩, hts _ gw_753, hts _ gw_754⟩ (q_preVM (q_preM hP hD hK hSt hT hMi hS (m_free hD hS hA) _) (va_recv hK hP (ci := 1) (q0 := ix_) rfl hi_)) rfl rfl hl.1 rfl (lv_room (Nat.le_of_ble_eq_true rfl)) d_Bl_wantedBits_31 ⟨hc_, hd_⟩) hD hS hA (fun v10 M9 H locs hf hP hD hS => ?_)
    have hkc : κ + mc7 ≤ MC := hc_
    have hks : σ + ms8 ≤ MS := hd_
    clear hc_ hd_
    obtain ⟨q11, rfl, hf⟩ := hf
    refine W.eq (g2 := F0 m 34 ls [.ref q11, .long v3]) rfl ?_
    obtain ⟨fs_, hm_, v12, hv_, hf⟩ := hf
    obtain ⟨ix_, hi_⟩ := m_ix hm_
    refine va_get (D := D) (ci := 1) (v := .long v12) (C := "CoinKeeper$Block") (T := F_1) (N := 12) hx hb hts i_1 hown hK hP ix_ hi_ rfl 5 (by decide) (hts _ gw_402) (fun _ h9 => h9) hv_ d_Bl_wantedBits_34 ?_
    clear hv_ hi_ hm_
    refine lv_lsub hx hb d_Bl_wantedBits_37 ?_
    refine lv_topl (fun v13 ev => ?_)
    have hf := bnQ ev hf
    clear ev
    refine lv_lstore_n (lv' := [(1, .long v13), (0, .ref a0)]) hx hb d_Bl_wantedBits_38 rfl hl (by decide) rfl (fun ls hl => ?_)
    refine lv_aload_n hx hb d_Bl_wantedBits_39 rfl (lv_at hl 1 rfl) ?_
    obtain ⟨fs_, hm_, v14, hv_, hf⟩ := hf
    obtain ⟨ix_, hi_⟩ := m_ix hm_
    refine va_get (D := D) (ci := 1) (v := .int v14) (C := "CoinKeeper$Block") (T := F_1) (N := 12) hx hb hts i_1 hown hK hP ix_ hi_ rfl 6 (by decide) (hts _ gw_404) (fun _ h9 => h9) hv_ d_Bl_wantedBits_40 ?_
    clear hv_ hi_ hm_
    refine lv_ldc2 (v := 1200) hx hb hown (hts _ gw_756) d_Bl_wantedBits_43 ?_
    refine lv_ldc2 (v := 19200) hx hb hown (hts _ gw_757) d_Bl_wantedBits_46 ?_
    refine lv_lload_n hx hb d_Bl_wantedBits_49 rfl (lv_at hl 0 rfl) ?_
    refine va_mmin_long (R := rmw_mBl_wantedBits MC MS) (rest := [.long (1200 : Int64), .int v14]) hx hb (hml.trans hl.1.symm) hown (hts _ gw_758) (hts _ gw_759) (hts _ gw_15) (hts _ gw_760) (Nat.le_of_ble_eq_true rfl) (Nat.le_of_ble_eq_true rfl) hkc hks d_Bl_wantedBits_50 ?_
    refine lv_topl (fun v15 ev => ?_)
    have hf := bnQ ev hf
    clear ev
    refine va_mmax_long (R := rmw_mBl_wantedBits MC MS) (rest := [.int v14]) hx hb (hml.trans hl.1.symm) hown (hts _ gw_761) (hts _ gw_762) (hts _ gw_15) (hts _ gw_763) (Nat.le_of_ble_eq_true rfl) (Nat.le_of_ble_eq_true rfl) hkc hks d_Bl_wantedBits_53 ?_
    refine lv_topl (fun v16 ev => ?_)
    have hf := bnQ ev hf
    clear ev
    obtain ⟨hal_, hnd_, v17, hc, hf⟩ := hf
    refine m_li (va_runS (As := [.int v14, .long v16]) (rest := []) ⟨hx, hb, hml, hown, hts⟩ (c_Bl_scaledBits l D cy ad fu v14 v16 _ hc H.size) ⟨q_cB hts gw_766 gw_13 gw_764 hdq_1 ⟨Nat.le_of_ble_eq_true rfl, Nat.le_of_ble_eq_true rfl⟩, hts _ gw_765⟩ (q_pre (m_subP hP hal_) (m_subD hD hal_ hnd_) hK hSt hS (m_lF hD hS hA hal_) _) rfl rfl hl.1 rfl (lv_room (Nat.le_of_ble_eq_true rfl)) d_Bl_wantedBits_56 ⟨hkc, hks⟩) hP hD hS hA hal_ rfl (fun H locs hP hD hS => ?_)
    refine W.widen (k := κ + mc7) (n := σ + ms8) (Nat.le_refl _) (Nat.le_refl _) ?_
    obtain ⟨M18, eM_, hf⟩ := bnP hf
    have hP : va_P D classes (mw M18) H := by rw [eM_]; exact hP
    have hD : va_D A (mw M18) := by rw [eM_]; exact hD
    clear eM_ hal_ hnd_ hc
    refine W.widen (k := MC) (n := MS) hkc hks ?_
    exact m_ri hf hx hb hr hlocks hK hP hD hS d_Bl_wantedBits_59
  · have hf := ifnP cx hf
    refine lv_aload_n hx hb d_Bl_wantedBits_12 rfl (lv_at hl 0 rfl) ?_
    obtain ⟨fs_, hm_, v19, hv_, hf⟩ := hf
    obtain ⟨ix_, hi_⟩ := m_ix hm_
    refine va_get (D := D) (ci := 1) (v := .int v19) (C := "CoinKeeper$Block") (T := F_1) (N := 12) hx hb hts i_1 hown hK hP ix_ hi_ rfl 6 (by decide) (hts _ gw_404) (fun _ h9 => h9) hv_ d_Bl_wantedBits_13 ?_
    clear hv_ hi_ hm_
    refine W.widen (k := MC) (n := MS) hkc hks ?_
    exact m_ri hf hx hb hr hlocks hK hP hD hS d_Bl_wantedBits_16
theorem cw_mBl_wantedBits (l : Launch) (D : va_G) (cy : Nat → ClassId) (ad : Nat → Nat) (mi fu MC MS : Nat) (a0 : Nat) (M : Mm) (Φ : Int32 → Mm → Prop) (hf : xw_mBl_wantedBits fu MC MS cy ad mi Φ 0 0 M a0) (sz : Nat) : Met l ({ cls := "CoinKeeper$Block", name := "wantedBits", desc := "()I" } : Jvm.MethodName) (.code ({ cls := "CoinKeeper$Block", name := "wantedBits", desc := "()I" } : Jvm.MethodName) b_Bl_wantedBits 3 (some .int) :: gw) (rmw_mBl_wantedBits MC MS) (va_Pc [.ref a0] (PrM D cy ad mi (mw M) sz)) (va_Qi Φ (fun u t => Po D cy (va_A (mw M) sz) (mw u) t) (va_A (mw M) sz)) MC MS (va_A (mw M) sz) :=
  q_metM (Qc := fun A => va_Qi Φ (fun u t => Po D cy A (mw u) t) A) (by decide) rfl rfl (Nat.le_of_ble_eq_true rfl) (fun p e s m below meth c ls F hP hD hS hl => wew_mBl_wantedBits (fu := fu) F 0 0 M a0 hf (Nat.zero_le _) (Nat.zero_le _) _ _ _ hP hD hS hl) sz
abbrev b_Al_size : ByteArray := prog_28_method_8_code
theorem d_Al_size_0 : decode b_Al_size 0 = .ok (.aload_n 0, 1) := by decide +kernel
theorem d_Al_size_1 : decode b_Al_size 1 = .ok (.getfield 48, 3) := by decide +kernel
theorem d_Al_size_4 : decode b_Al_size 4 = .ok (.ireturn, 1) := by decide +kernel
abbrev rmw_mAl_size (MC MS : Nat) : Room := { frames := 0, cells := MC, slots := MS, locals := 0 }
def Iw_mAl_size_e (p : Program) (l : Launch) (e : Env) (s : State) (m : MethodId) (args : Array Value) (below : List Frame) (meth : Method) (c : Code) (D : va_G) (cy : Nat → ClassId) (A : Nat → Prop) (ad : Nat → Nat) (mi MC MS : Nat) (Φ : Int32 → Mm → Prop) (k : Nat → Nat → Mm → Nat → Prop) : Prop :=
  ∀ (κ σ : Nat) (M : Mm) (a0 : Nat), k κ σ M a0 → κ ≤ MC → σ ≤ MS → ∀ (H : Heap) (locs : List Loc) (ls : Array Slot), va_P D classes (mw M) H → va_D A (mw M) → va_S A s.heap H locs → lv_has ls 1 [(0, .ref a0)] → W p l e (rmw_mAl_size MC MS) s m args below meth c H locs κ σ (MQ below (va_Qi Φ (fun u t => Po D cy A (mw u) t) A) args s MC MS A) (F0 m 0 ls [])
set_option maxHeartbeats 8000000 in
set_option maxRecDepth 100000 in
theorem wew_mAl_size {p : Program} {l : Launch} {e : Env} {s : State} {m : MethodId} {args : Array Value} {below : List Frame} {meth : Method} {c : Code} {D : va_G} {cy : Nat → ClassId} {A : Nat → Prop} {ad : Nat → Nat} {mi MC MS : Nat} {Φ : Int32 → Mm → Prop} {fu : Nat} (F : FxM p s m args meth c b_Al_size 1 "java/util/ArrayList" "size" (some .int) D cy ad mi A) : Iw_mAl_size_e p l e s m args below meth c D cy A ad mi MC MS Φ (xw_mAl_size fu MC MS cy ad mi Φ) := by
  obtain ⟨⟨hx, hb, hr, hml, hown, hts, hlocks, hK, hA, hSt, hnm, hex⟩, hT, hMi⟩ := id F
  intro κ σ M a0 hf hkc hks H locs ls hP hD hS hl
  unfold xw_mAl_size at hf
  refine lv_aload_n hx hb d_Al_size_0 rfl (lv_at hl 0 rfl) ?_
  obtain ⟨fs_, hm_, v1, hv_, hf⟩ := hf
  obtain ⟨ix_, hi_⟩ := m_ix hm_
  refine va_get (D := D) (ci := 11) (v := .int v1) (C := "java/util/ArrayList") (T := F_11) (N := 3) hx hb hts i_11 hown hK hP ix_ hi_ rfl 1 (by decide) (hts _ gw_352) (fun _ h9 => h9) hv_ d_Al_size_1 ?_
  clear hv_ hi_ hm_
  refine W.widen (k := MC) (n := MS) hkc hks ?_
  exact m_ri hf hx hb hr hlocks hK hP hD hS d_Al_size_4
theorem cw_mAl_size (l : Launch) (D : va_G) (cy : Nat → ClassId) (ad : Nat → Nat) (mi fu MC MS : Nat) (a0 : Nat) (M : Mm) (Φ : Int32 → Mm → Prop) (hf : xw_mAl_size fu MC MS cy ad mi Φ 0 0 M a0) (sz : Nat) : Met l ({ cls := "java/util/ArrayList", name := "size", desc := "()I" } : Jvm.MethodName) (.code ({ cls := "java/util/ArrayList", name := "size", desc := "()I" } : Jvm.MethodName) b_Al_size 1 (some .int) :: gw) (rmw_mAl_size MC MS) (va_Pc [.ref a0] (PrM D cy ad mi (mw M) sz)) (va_Qi Φ (fun u t => Po D cy (va_A (mw M) sz) (mw u) t) (va_A (mw M) sz)) MC MS (va_A (mw M) sz) :=
  q_metM (Qc := fun A => va_Qi Φ (fun u t => Po D cy A (mw u) t) A) (by decide) rfl rfl (Nat.le_of_ble_eq_true rfl) (fun p e s m below meth c ls F hP hD hS hl => wew_mAl_size (fu := fu) F 0 0 M a0 hf (Nat.zero_le _) (Nat.zero_le _) _ _ _ hP hD hS hl) sz
abbrev b_Pq_checkIndex : ByteArray := prog_37_method_11_code
theorem d_Pq_checkIndex_0 : decode b_Pq_checkIndex 0 = .ok (.iload_n 0, 1) := by decide +kernel
theorem d_Pq_checkIndex_1 : decode b_Pq_checkIndex 1 = .ok (.ifCond .lt 8, 3) := by decide +kernel
theorem d_Pq_checkIndex_4 : decode b_Pq_checkIndex 4 = .ok (.iload_n 0, 1) := by decide +kernel
theorem d_Pq_checkIndex_5 : decode b_Pq_checkIndex 5 = .ok (.iload_n 1, 1) := by decide +kernel
theorem d_Pq_checkIndex_6 : decode b_Pq_checkIndex 6 = .ok (.if_icmp .lt 10, 3) := by decide +kernel
theorem d_Pq_checkIndex_9 : decode b_Pq_checkIndex 9 = .ok (.aload_n 2, 1) := by decide +kernel
theorem d_Pq_checkIndex_10 : decode b_Pq_checkIndex 10 = .ok (.iload_n 0, 1) := by decide +kernel
theorem d_Pq_checkIndex_11 : decode b_Pq_checkIndex 11 = .ok (.iload_n 1, 1) := by decide +kernel
theorem d_Pq_checkIndex_12 : decode b_Pq_checkIndex 12 = .ok (.invokestatic 95, 3) := by decide +kernel
theorem d_Pq_checkIndex_15 : decode b_Pq_checkIndex 15 = .ok (.athrow, 1) := by decide +kernel
theorem d_Pq_checkIndex_16 : decode b_Pq_checkIndex 16 = .ok (.iload_n 0, 1) := by decide +kernel
theorem d_Pq_checkIndex_17 : decode b_Pq_checkIndex 17 = .ok (.ireturn, 1) := by decide +kernel
abbrev rmw_mPq_checkIndex_z2 (MC MS : Nat) : Room := { frames := 0, cells := MC, slots := MS, locals := 0 }
def Iw_mPq_checkIndex_z2_9 (p : Program) (l : Launch) (e : Env) (s : State) (m : MethodId) (args : Array Value) (below : List Frame) (meth : Method) (c : Code) (D : va_G) (cy : Nat → ClassId) (A : Nat → Prop) (ad : Nat → Nat) (mi MC MS : Nat) (Φ : Int32 → Mm → Prop) (k : Nat → Nat → Mm → Int32 → Int32 → Prop) : Prop :=
  ∀ (κ σ : Nat) (M : Mm) (x0 : Int32) (x1 : Int32), k κ σ M x0 x1 → κ ≤ MC → σ ≤ MS → ∀ (H : Heap) (locs : List Loc) (ls : Array Slot), va_P D classes (mw M) H → va_D A (mw M) → va_S A s.heap H locs → lv_has ls 3 [(0, .int x0), (1, .int x1), (2, .null)] → W p l e (rmw_mPq_checkIndex_z2 MC MS) s m args below meth c H locs κ σ (MQ below (va_Qi Φ (fun u t => Po D cy A (mw u) t) A) args s MC MS A) (F0 m 9 ls [])
def Iw_mPq_checkIndex_z2_e (p : Program) (l : Launch) (e : Env) (s : State) (m : MethodId) (args : Array Value) (below : List Frame) (meth : Method) (c : Code) (D : va_G) (cy : Nat → ClassId) (A : Nat → Prop) (ad : Nat → Nat) (mi MC MS : Nat) (Φ : Int32 → Mm → Prop) (k : Nat → Nat → Mm → Int32 → Int32 → Prop) : Prop :=
  ∀ (κ σ : Nat) (M : Mm) (a0 : Int32) (a1 : Int32), k κ σ M a0 a1 → κ ≤ MC → σ ≤ MS → ∀ (H : Heap) (locs : List Loc) (ls : Array Slot), va_P D classes (mw M) H → va_D A (mw M) → va_S A s.heap H locs → lv_has ls 3 [(0, .int a0), (1, .int a1), (2, .null)] → W p l e (rmw_mPq_checkIndex_z2 MC MS) s m args below meth c H locs κ σ (MQ below (va_Qi Φ (fun u t => Po D cy A (mw u) t) A) args s MC MS A) (F0 m 0 ls [])
set_option maxHeartbeats 8000000 in
set_option maxRecDepth 100000 in
theorem wv_mPq_checkIndex_z2_9 {p : Program} {l : Launch} {e : Env} {s : State} {m : MethodId} {args : Array Value} {below : List Frame} {meth : Method} {c : Code} {D : va_G} {cy : Nat → ClassId} {A : Nat → Prop} {ad : Nat → Nat} {mi MC MS : Nat} {Φ : Int32 → Mm → Prop} {fu : Nat} (F : FxM p s m args meth c b_Pq_checkIndex 3 "jdk/internal/util/Preconditions" "checkIndex" (some .int) D cy ad mi A) : Iw_mPq_checkIndex_z2_9 p l e s m args below meth c D cy A ad mi MC MS Φ (xv_mPq_checkIndex_z2_9 fu MC MS cy ad mi Φ) := by
  obtain ⟨⟨hx, hb, hr, hml, hown, hts, hlocks, hK, hA, hSt, hnm, hex⟩, hT, hMi⟩ := id F
  intro κ σ M x0 x1 hf hkc hks H locs ls hP hD hS hl
  unfold xv_mPq_checkIndex_z2_9 at hf
  refine lv_aload_nN hx hb d_Pq_checkIndex_9 rfl (lv_at hl 2 rfl) ?_
  refine lv_iload_n hx hb d_Pq_checkIndex_10 rfl (lv_at hl 0 rfl) ?_
  refine lv_iload_n hx hb d_Pq_checkIndex_11 rfl (lv_at hl 1 rfl) ?_
  exact hf.elim
set_option maxHeartbeats 8000000 in
set_option maxRecDepth 100000 in
theorem wew_mPq_checkIndex_z2 {p : Program} {l : Launch} {e : Env} {s : State} {m : MethodId} {args : Array Value} {below : List Frame} {meth : Method} {c : Code} {D : va_G} {cy : Nat → ClassId} {A : Nat → Prop} {ad : Nat → Nat} {mi MC MS : Nat} {Φ : Int32 → Mm → Prop} {fu : Nat} (F : FxM p s m args meth c b_Pq_checkIndex 3 "jdk/internal/util/Preconditions" "checkIndex" (some .int) D cy ad mi A) : Iw_mPq_checkIndex_z2_e p l e s m args below meth c D cy A ad mi MC MS Φ (xw_mPq_checkIndex_z2 fu MC MS cy ad mi Φ) := by
  obtain ⟨⟨hx, hb, hr, hml, hown, hts, hlocks, hK, hA, hSt, hnm, hex⟩, hT, hMi⟩ := id F
  intro κ σ M a0 a1 hf hkc hks H locs ls hP hD hS hl
  unfold xw_mPq_checkIndex_z2 at hf
  refine lv_iload_n hx hb d_Pq_checkIndex_0 rfl (lv_at hl 0 rfl) ?_
  refine lv_if_lt (tgt := 9) hx hb d_Pq_checkIndex_1 (by decide) (fun cx => ?_) (fun cx => ?_)
  · have hf := ifpP cx hf
    exact wv_mPq_checkIndex_z2_9 (fu := fu) F _ _ _ _ _ hf hkc hks _ _ _ hP hD hS (lv_sub hl [0, 1, 2] rfl)
  · have hf := ifnP cx hf
    refine lv_iload_n hx hb d_Pq_checkIndex_4 rfl (lv_at hl 0 rfl) ?_
    refine lv_iload_n hx hb d_Pq_checkIndex_5 rfl (lv_at hl 1 rfl) ?_
    refine lv_icmp_lt (tgt := 16) hx hb d_Pq_checkIndex_6 (by decide) (fun cx => ?_) (fun cx => ?_)
    · have hf := ifpP cx hf
      refine lv_iload_n hx hb d_Pq_checkIndex_16 rfl (lv_at hl 0 rfl) ?_
      refine W.widen (k := MC) (n := MS) hkc hks ?_
      exact m_ri hf hx hb hr hlocks hK hP hD hS d_Pq_checkIndex_17
    · have hf := ifnP cx hf
      exact wv_mPq_checkIndex_z2_9 (fu := fu) F _ _ _ _ _ hf hkc hks _ _ _ hP hD hS (lv_sub hl [0, 1, 2] rfl)
theorem cw_mPq_checkIndex_z2 (l : Launch) (D : va_G) (cy : Nat → ClassId) (ad : Nat → Nat) (mi fu MC MS : Nat) (a0 : Int32) (a1 : Int32) (M : Mm) (Φ : Int32 → Mm → Prop) (hf : xw_mPq_checkIndex_z2 fu MC MS cy ad mi Φ 0 0 M a0 a1) (sz : Nat) : Met l ({ cls := "jdk/internal/util/Preconditions", name := "checkIndex", desc := "(IILjava/util/function/BiFunction;)I" } : Jvm.MethodName) (.code ({ cls := "jdk/internal/util/Preconditions", name := "checkIndex", desc := "(IILjava/util/function/BiFunction;)I" } : Jvm.MethodName) b_Pq_checkIndex 3 (some .int) :: gw) (rmw_mPq_checkIndex_z2 MC MS) (va_Pc [.int a0, .int a1, .null] (PrM D cy ad mi (mw M) sz)) (va_Qi Φ (fun u t => Po D cy (va_A (mw M) sz) (mw u) t) (va_A (mw M) sz)) MC MS (va_A (mw M) sz) :=
  q_metM (Qc := fun A => va_Qi Φ (fun u t => Po D cy A (mw u) t) A) (by decide) rfl rfl (Nat.le_of_ble_eq_true rfl) (fun p e s m below meth c ls F hP hD hS hl => wew_mPq_checkIndex_z2 (fu := fu) F 0 0 M a0 a1 hf (Nat.zero_le _) (Nat.zero_le _) _ _ _ hP hD hS hl) sz
abbrev b_Ob_checkIndex : ByteArray := prog_33_method_17_code
theorem d_Ob_checkIndex_0 : decode b_Ob_checkIndex 0 = .ok (.iload_n 0, 1) := by decide +kernel
theorem d_Ob_checkIndex_1 : decode b_Ob_checkIndex 1 = .ok (.iload_n 1, 1) := by decide +kernel
theorem d_Ob_checkIndex_2 : decode b_Ob_checkIndex 2 = .ok (.aconst_null, 1) := by decide +kernel
theorem d_Ob_checkIndex_3 : decode b_Ob_checkIndex 3 = .ok (.invokestatic 105, 3) := by decide +kernel
theorem d_Ob_checkIndex_6 : decode b_Ob_checkIndex 6 = .ok (.ireturn, 1) := by decide +kernel
abbrev rmw_mOb_checkIndex (MC MS : Nat) : Room := { frames := 1, cells := MC, slots := MS, locals := 22 }
def Iw_mOb_checkIndex_e (p : Program) (l : Launch) (e : Env) (s : State) (m : MethodId) (args : Array Value) (below : List Frame) (meth : Method) (c : Code) (D : va_G) (cy : Nat → ClassId) (A : Nat → Prop) (ad : Nat → Nat) (mi MC MS : Nat) (Φ : Int32 → Mm → Prop) (k : Nat → Nat → Mm → Int32 → Int32 → Prop) : Prop :=
  ∀ (κ σ : Nat) (M : Mm) (a0 : Int32) (a1 : Int32), k κ σ M a0 a1 → κ ≤ MC → σ ≤ MS → ∀ (H : Heap) (locs : List Loc) (ls : Array Slot), va_P D classes (mw M) H → va_D A (mw M) → va_S A s.heap H locs → lv_has ls 2 [(0, .int a0), (1, .int a1)] → W p l e (rmw_mOb_checkIndex MC MS) s m args below meth c H locs κ σ (MQ below (va_Qi Φ (fun u t => Po D cy A (mw u) t) A) args s MC MS A) (F0 m 0 ls [])
theorem hdq_2 : ({ cls := "jdk/internal/util/Preconditions", name := "checkIndex", desc := "(IILjava/util/function/BiFunction;)I" } : Jvm.MethodName).cls ≠ "java/lang/invoke/MethodHandle" ∧ ({ cls := "jdk/internal/util/Preconditions", name := "checkIndex", desc := "(IILjava/util/function/BiFunction;)I" } : Jvm.MethodName).cls ≠ "java/lang/invoke/VarHandle" ∧ (parseMethodDescriptor ({ cls := "jdk/internal/util/Preconditions", name := "checkIndex", desc := "(IILjava/util/function/BiFunction;)I" } : Jvm.MethodName).desc).map (fun d => d.parameters.length) = some 3 := by decide +kernel
set_option maxHeartbeats 8000000 in
set_option maxRecDepth 100000 in
theorem wew_mOb_checkIndex {p : Program} {l : Launch} {e : Env} {s : State} {m : MethodId} {args : Array Value} {below : List Frame} {meth : Method} {c : Code} {D : va_G} {cy : Nat → ClassId} {A : Nat → Prop} {ad : Nat → Nat} {mi MC MS : Nat} {Φ : Int32 → Mm → Prop} {fu : Nat} (F : FxM p s m args meth c b_Ob_checkIndex 2 "java/util/Objects" "checkIndex" (some .int) D cy ad mi A) : Iw_mOb_checkIndex_e p l e s m args below meth c D cy A ad mi MC MS Φ (xw_mOb_checkIndex fu MC MS cy ad mi Φ) := by
  obtain ⟨⟨hx, hb, hr, hml, hown, hts, hlocks, hK, hA, hSt, hnm, hex⟩, hT, hMi⟩ := id F
  intro κ σ M a0 a1 hf hkc hks H locs ls hP hD hS hl
  unfold xw_mOb_checkIndex at hf
  refine lv_iload_n hx hb d_Ob_checkIndex_0 rfl (lv_at hl 0 rfl) ?_
  refine lv_iload_n hx hb d_Ob_checkIndex_1 rfl (lv_at hl 1 rfl) ?_
  refine lv_null hx hb d_Ob_checkIndex_2 ?_
  obtain ⟨mc1, ms2, ⟨hc_, hd_⟩, hf⟩ := hf
  refine mm_ai (va_runS (As := [.int a0, .int a1, .null]) (rest := []) ⟨hx, hb, hml, hown, hts⟩ (cw_mPq_checkIndex_z2 l D cy ad mi fu mc1 ms2 a0 a1 M _ hf H.size) ⟨q_cB hts gw_561 gw_26 gw_559 hdq_2 ⟨Nat.le_of_ble_eq_true rfl, Nat.le_of_ble_eq_true rfl⟩, hts _ gw_560⟩ (q_preM hP hD hK hSt hT hMi hS (m_free hD hS hA) _) rfl rfl hl.1 rfl (lv_room (Nat.le_of_ble_eq_true rfl)) d_Ob_checkIndex_3 ⟨hc_, hd_⟩) hD hS hA (fun v4 M3 H locs hf hP hD hS => ?_)
  have hkc : κ + mc1 ≤ MC := hc_
  have hks : σ + ms2 ≤ MS := hd_
  clear hc_ hd_
  refine W.widen (k := MC) (n := MS) hkc hks ?_
  exact m_ri hf hx hb hr hlocks hK hP hD hS d_Ob_checkIndex_6
theorem cw_mOb_checkIndex (l : Launch) (D : va_G) (cy : Nat → ClassId) (ad : Nat → Nat) (mi fu MC MS : Nat) (a0 : Int32) (a1 : Int32) (M : Mm) (Φ : Int32 → Mm → Prop) (hf : xw_mOb_checkIndex fu MC MS cy ad mi Φ 0 0 M a0 a1) (sz : Nat) : Met l ({ cls := "java/util/Objects", name := "checkIndex", desc := "(II)I" } : Jvm.MethodName) (.code ({ cls := "java/util/Objects", name := "checkIndex", desc := "(II)I" } : Jvm.MethodName) b_Ob_checkIndex 2 (some .int) :: gw) (rmw_mOb_checkIndex MC MS) (va_Pc [.int a0, .int a1] (PrM D cy ad mi (mw M) sz)) (va_Qi Φ (fun u t => Po D cy (va_A (mw M) sz) (mw u) t) (va_A (mw M) sz)) MC MS (va_A (mw M) sz) :=
  q_metM (Qc := fun A => va_Qi Φ (fun u t => Po D cy A (mw u) t) A) (by decide) rfl rfl (Nat.le_of_ble_eq_true rfl) (fun p e s m below meth c ls F hP hD hS hl => wew_mOb_checkIndex (fu := fu) F 0 0 M a0 a1 hf (Nat.zero_le _) (Nat.zero_le _) _ _ _ hP hD hS hl) sz
abbrev b_Al_elementData : ByteArray := prog_28_method_18_code
theorem d_Al_elementData_0 : decode b_Al_elementData 0 = .ok (.aload_n 0, 1) := by decide +kernel
theorem d_Al_elementData_1 : decode b_Al_elementData 1 = .ok (.getfield 9, 3) := by decide +kernel
theorem d_Al_elementData_4 : decode b_Al_elementData 4 = .ok (.iload_n 1, 1) := by decide +kernel
theorem d_Al_elementData_5 : decode b_Al_elementData 5 = .ok (.aaload, 1) := by decide +kernel
theorem d_Al_elementData_6 : decode b_Al_elementData 6 = .ok (.areturn, 1) := by decide +kernel
abbrev rmw_mAl_elementData (MC MS : Nat) : Room := { frames := 0, cells := MC, slots := MS, locals := 0 }
def Iw_mAl_elementData_e (p : Program) (l : Launch) (e : Env) (s : State) (m : MethodId) (args : Array Value) (below : List Frame) (meth : Method) (c : Code) (D : va_G) (cy : Nat → ClassId) (A : Nat → Prop) (ad : Nat → Nat) (mi MC MS : Nat) (Φ : Option Nat → Mm → Prop) (k : Nat → Nat → Mm → Nat → Int32 → Prop) : Prop :=
  ∀ (κ σ : Nat) (M : Mm) (a0 : Nat) (a1 : Int32), k κ σ M a0 a1 → κ ≤ MC → σ ≤ MS → ∀ (H : Heap) (locs : List Loc) (ls : Array Slot), va_P D classes (mw M) H → va_D A (mw M) → va_S A s.heap H locs → lv_has ls 2 [(0, .ref a0), (1, .int a1)] → W p l e (rmw_mAl_elementData MC MS) s m args below meth c H locs κ σ (MQ below (va_Qq Φ (fun u t => Po D cy A (mw u) t) A) args s MC MS A) (F0 m 0 ls [])
set_option maxHeartbeats 8000000 in
set_option maxRecDepth 100000 in
theorem wew_mAl_elementData {p : Program} {l : Launch} {e : Env} {s : State} {m : MethodId} {args : Array Value} {below : List Frame} {meth : Method} {c : Code} {D : va_G} {cy : Nat → ClassId} {A : Nat → Prop} {ad : Nat → Nat} {mi MC MS : Nat} {Φ : Option Nat → Mm → Prop} {fu : Nat} (F : FxM p s m args meth c b_Al_elementData 2 "java/util/ArrayList" "elementData" (Option.some (Jvm.ClassFile.FieldType.object "java/lang/Object")) D cy ad mi A) : Iw_mAl_elementData_e p l e s m args below meth c D cy A ad mi MC MS Φ (xw_mAl_elementData fu MC MS cy ad mi Φ) := by
  obtain ⟨⟨hx, hb, hr, hml, hown, hts, hlocks, hK, hA, hSt, hnm, hex⟩, hT, hMi⟩ := id F
  intro κ σ M a0 a1 hf hkc hks H locs ls hP hD hS hl
  unfold xw_mAl_elementData at hf
  refine lv_aload_n hx hb d_Al_elementData_0 rfl (lv_at hl 0 rfl) ?_
  obtain ⟨fs_, hm_, r1, hv_, hf⟩ := hf
  obtain ⟨ix_, hi_⟩ := m_ix hm_
  refine va_get (D := D) (ci := 11) (v := va_rf r1) (C := "java/util/ArrayList") (T := F_11) (N := 3) hx hb hts i_11 hown hK hP ix_ hi_ rfl 0 (by decide) (hts _ gw_351) (fun _ h9 => h9) hv_ d_Al_elementData_1 ?_
  clear hv_ hi_ hm_
  obtain ⟨q2, rfl, hf⟩ := hf
  refine W.eq (g2 := F0 m 4 ls [.ref q2]) rfl ?_
  refine lv_iload_n hx hb d_Al_elementData_4 rfl (lv_at hl 1 rfl) ?_
  obtain ⟨n_, f_, hm_, hin_, hf⟩ := hf
  obtain ⟨ix_, hi_⟩ := m_ix hm_
  refine va_aldq hx hb hK hP ix_ 7 hi_ rfl (inb_in hin_) d_Al_elementData_5 ?_
  obtain ⟨r3, ev⟩ : ∃ z, z = f_ a1.toNatClampNeg := ⟨_, rfl⟩
  first | rw [← ev] at hf ⊢ | rw [← ev]
  clear ev hi_ hm_ hin_
  obtain ⟨q4, rfl, hf⟩ := hf
  refine W.eq (g2 := F0 m 6 ls [.ref q4]) rfl ?_
  refine W.widen (k := MC) (n := MS) hkc hks ?_
  exact m_ra hf rfl hx hb hr (Or.inl ⟨_, rfl⟩) hlocks hK hP hD hS d_Al_elementData_6
theorem cw_mAl_elementData (l : Launch) (D : va_G) (cy : Nat → ClassId) (ad : Nat → Nat) (mi fu MC MS : Nat) (a0 : Nat) (a1 : Int32) (M : Mm) (Φ : Option Nat → Mm → Prop) (hf : xw_mAl_elementData fu MC MS cy ad mi Φ 0 0 M a0 a1) (sz : Nat) : Met l ({ cls := "java/util/ArrayList", name := "elementData", desc := "(I)Ljava/lang/Object;" } : Jvm.MethodName) (.code ({ cls := "java/util/ArrayList", name := "elementData", desc := "(I)Ljava/lang/Object;" } : Jvm.MethodName) b_Al_elementData 2 (Option.some (Jvm.ClassFile.FieldType.object "java/lang/Object")) :: gw) (rmw_mAl_elementData MC MS) (va_Pc [.ref a0, .int a1] (PrM D cy ad mi (mw M) sz)) (va_Qq Φ (fun u t => Po D cy (va_A (mw M) sz) (mw u) t) (va_A (mw M) sz)) MC MS (va_A (mw M) sz) :=
  q_metM (Qc := fun A => va_Qq Φ (fun u t => Po D cy A (mw u) t) A) (by decide) rfl rfl (Nat.le_of_ble_eq_true rfl) (fun p e s m below meth c ls F hP hD hS hl => wew_mAl_elementData (fu := fu) F 0 0 M a0 a1 hf (Nat.zero_le _) (Nat.zero_le _) _ _ _ hP hD hS hl) sz
abbrev b_Al_get : ByteArray := prog_28_method_20_code
theorem d_Al_get_0 : decode b_Al_get 0 = .ok (.iload_n 1, 1) := by decide +kernel
theorem d_Al_get_1 : decode b_Al_get 1 = .ok (.aload_n 0, 1) := by decide +kernel
theorem d_Al_get_2 : decode b_Al_get 2 = .ok (.getfield 48, 3) := by decide +kernel
theorem d_Al_get_5 : decode b_Al_get 5 = .ok (.invokestatic 118, 3) := by decide +kernel
theorem d_Al_get_8 : decode b_Al_get 8 = .ok (.pop, 1) := by decide +kernel
theorem d_Al_get_9 : decode b_Al_get 9 = .ok (.aload_n 0, 1) := by decide +kernel
theorem d_Al_get_10 : decode b_Al_get 10 = .ok (.iload_n 1, 1) := by decide +kernel
theorem d_Al_get_11 : decode b_Al_get 11 = .ok (.invokevirtual 123, 3) := by decide +kernel
theorem d_Al_get_14 : decode b_Al_get 14 = .ok (.areturn, 1) := by decide +kernel
abbrev rmw_mAl_get (MC MS : Nat) : Room := { frames := 2, cells := MC, slots := MS, locals := 43 }
def Iw_mAl_get_e (p : Program) (l : Launch) (e : Env) (s : State) (m : MethodId) (args : Array Value) (below : List Frame) (meth : Method) (c : Code) (D : va_G) (cy : Nat → ClassId) (A : Nat → Prop) (ad : Nat → Nat) (mi MC MS : Nat) (Φ : Option Nat → Mm → Prop) (k : Nat → Nat → Mm → Nat → Int32 → Prop) : Prop :=
  ∀ (κ σ : Nat) (M : Mm) (a0 : Nat) (a1 : Int32), k κ σ M a0 a1 → κ ≤ MC → σ ≤ MS → ∀ (H : Heap) (locs : List Loc) (ls : Array Slot), va_P D classes (mw M) H → va_D A (mw M) → va_S A s.heap H locs → lv_has ls 2 [(0, .ref a0), (1, .int a1)] → W p l e (rmw_mAl_get MC MS) s m args below meth c H locs κ σ (MQ below (va_Qq Φ (fun u t => Po D cy A (mw u) t) A) args s MC MS A) (F0 m 0 ls [])
theorem hdq_3 : ({ cls := "java/util/Objects", name := "checkIndex", desc := "(II)I" } : Jvm.MethodName).cls ≠ "java/lang/invoke/MethodHandle" ∧ ({ cls := "java/util/Objects", name := "checkIndex", desc := "(II)I" } : Jvm.MethodName).cls ≠ "java/lang/invoke/VarHandle" ∧ (parseMethodDescriptor ({ cls := "java/util/Objects", name := "checkIndex", desc := "(II)I" } : Jvm.MethodName).desc).map (fun d => d.parameters.length) = some 2 := by decide +kernel
theorem hdq_4 : ({ cls := "java/util/ArrayList", name := "elementData", desc := "(I)Ljava/lang/Object;" } : Jvm.MethodName).cls ≠ "java/lang/invoke/MethodHandle" ∧ ({ cls := "java/util/ArrayList", name := "elementData", desc := "(I)Ljava/lang/Object;" } : Jvm.MethodName).cls ≠ "java/lang/invoke/VarHandle" ∧ (parseMethodDescriptor ({ cls := "java/util/ArrayList", name := "elementData", desc := "(I)Ljava/lang/Object;" } : Jvm.MethodName).desc).map (fun d => d.parameters.length) = some 1 := by decide +kernel
set_option maxHeartbeats 8000000 in
set_option maxRecDepth 100000 in
theorem wew_mAl_get {p : Program} {l : Launch} {e : Env} {s : State} {m : MethodId} {args : Array Value} {below : List Frame} {meth : Method} {c : Code} {D : va_G} {cy : Nat → ClassId} {A : Nat → Prop} {ad : Nat → Nat} {mi MC MS : Nat} {Φ : Option Nat → Mm → Prop} {fu : Nat} (F : FxM p s m args meth c b_Al_get 2 "java/util/ArrayList" "get" (Option.some (Jvm.ClassFile.FieldType.object "java/lang/Object")) D cy ad mi A) : Iw_mAl_get_e p l e s m args below meth c D cy A ad mi MC MS Φ (xw_mAl_get fu MC MS cy ad mi Φ) := by
  obtain ⟨⟨hx, hb, hr, hml, hown, hts, hlocks, hK, hA, hSt, hnm, hex⟩, hT, hMi⟩ := id F
  intro κ σ M a0 a1 hf hkc hks H locs ls hP hD hS hl
  unfold xw_mAl_get at hf
  refine lv_iload_n hx hb d_Al_get_0 rfl (lv_at hl 1 rfl) ?_
  refine lv_aload_n hx hb d_Al_get_1 rfl (lv_at hl 0 rfl) ?_
  obtain ⟨fs_, hm_, v1, hv_, hf⟩ := hf
  obtain ⟨ix_, hi_⟩ := m_ix hm_
  refine va_get (D := D) (ci := 11) (v := .int v1) (C := "java/util/ArrayList") (T := F_11) (N := 3) hx hb hts i_11 hown hK hP ix_ hi_ rfl 1 (by decide) (hts _ gw_352) (fun _ h9 => h9) hv_ d_Al_get_2 ?_
  clear hv_ hi_ hm_
  obtain ⟨mc2, ms3, ⟨hc_, hd_⟩, hf⟩ := hf
  refine mm_ai (va_runS (As := [.int a1, .int v1]) (rest := []) ⟨hx, hb, hml, hown, hts⟩ (cw_mOb_checkIndex l D cy ad mi fu mc2 ms3 a1 v1 M _ hf H.size) ⟨q_cB hts gw_558 gw_25 gw_556 hdq_3 ⟨Nat.le_of_ble_eq_true rfl, Nat.le_of_ble_eq_true rfl⟩, hts _ gw_557⟩ (q_preM hP hD hK hSt hT hMi hS (m_free hD hS hA) _) rfl rfl hl.1 rfl (lv_room (Nat.le_of_ble_eq_true rfl)) d_Al_get_5 ⟨hc_, hd_⟩) hD hS hA (fun v5 M4 H locs hf hP hD hS => ?_)
  have hkc : κ + mc2 ≤ MC := hc_
  have hks : σ + ms3 ≤ MS := hd_
  clear hc_ hd_
  refine lv_pop hx hb d_Al_get_8 rfl ?_
  refine lv_aload_n hx hb d_Al_get_9 rfl (lv_at hl 0 rfl) ?_
  refine lv_iload_n hx hb d_Al_get_10 rfl (lv_at hl 1 rfl) ?_
  obtain ⟨fs_, hm_, hf⟩ := hf
  obtain ⟨ix_, hi_⟩ := m_ix hm_
  obtain ⟨mc6, ms7, ⟨hc_, hd_⟩, hf⟩ := hf
  refine m_aq (va_runV (C := "java/util/ArrayList") (As := [.int a1]) (rest := []) ⟨hx, hb, hml, hown, hts⟩ (cw_mAl_elementData l D cy ad mi fu mc6 ms7 a0 a1 M4 _ hf H.size) ⟨q_cB hts gw_565 gw_12 gw_562 hdq_4 ⟨Nat.le_of_ble_eq_true rfl, Nat.le_of_ble_eq_true rfl⟩, hts _ gw_563, hts _ gw_564⟩ (q_preVM (q_preM hP hD hK hSt hT hMi hS (m_free hD hS hA) _) (va_recv hK hP (ci := 11) (q0 := ix_) rfl hi_)) rfl rfl hl.1 rfl (lv_room (Nat.le_of_ble_eq_true rfl)) d_Al_get_11 ⟨hc_, hd_⟩) hD hS hA (fun v9 M8 H locs hf hP hD hS => ?_)
  have hkc : κ + mc2 + mc6 ≤ MC := hc_
  have hks : σ + ms3 + ms7 ≤ MS := hd_
  clear hc_ hd_
  obtain ⟨q10, rfl, hf⟩ := hf
  refine W.eq (g2 := F0 m 14 ls [.ref q10]) rfl ?_
  refine W.widen (k := MC) (n := MS) hkc hks ?_
  exact m_ra hf rfl hx hb hr (Or.inl ⟨_, rfl⟩) hlocks hK hP hD hS d_Al_get_14
theorem cw_mAl_get (l : Launch) (D : va_G) (cy : Nat → ClassId) (ad : Nat → Nat) (mi fu MC MS : Nat) (a0 : Nat) (a1 : Int32) (M : Mm) (Φ : Option Nat → Mm → Prop) (hf : xw_mAl_get fu MC MS cy ad mi Φ 0 0 M a0 a1) (sz : Nat) : Met l ({ cls := "java/util/ArrayList", name := "get", desc := "(I)Ljava/lang/Object;" } : Jvm.MethodName) (.code ({ cls := "java/util/ArrayList", name := "get", desc := "(I)Ljava/lang/Object;" } : Jvm.MethodName) b_Al_get 2 (Option.some (Jvm.ClassFile.FieldType.object "java/lang/Object")) :: gw) (rmw_mAl_get MC MS) (va_Pc [.ref a0, .int a1] (PrM D cy ad mi (mw M) sz)) (va_Qq Φ (fun u t => Po D cy (va_A (mw M) sz) (mw u) t) (va_A (mw M) sz)) MC MS (va_A (mw M) sz) :=
  q_metM (Qc := fun A => va_Qq Φ (fun u t => Po D cy A (mw u) t) A) (by decide) rfl rfl (Nat.le_of_ble_eq_true rfl) (fun p e s m below meth c ls F hP hD hS hl => wew_mAl_get (fu := fu) F 0 0 M a0 a1 hf (Nat.zero_le _) (Nat.zero_le _) _ _ _ hP hD hS hl) sz
abbrev b_As_hugeLength : ByteArray := prog_36_method_28_code
theorem d_As_hugeLength_0 : decode b_As_hugeLength 0 = .ok (.iload_n 0, 1) := by decide +kernel
theorem d_As_hugeLength_1 : decode b_As_hugeLength 1 = .ok (.iload_n 1, 1) := by decide +kernel
theorem d_As_hugeLength_2 : decode b_As_hugeLength 2 = .ok (.iadd, 1) := by decide +kernel
theorem d_As_hugeLength_3 : decode b_As_hugeLength 3 = .ok (.istore_n 2, 1) := by decide +kernel
theorem d_As_hugeLength_4 : decode b_As_hugeLength 4 = .ok (.iload_n 2, 1) := by decide +kernel
theorem d_As_hugeLength_5 : decode b_As_hugeLength 5 = .ok (.ifCond .ge 44, 3) := by decide +kernel
theorem d_As_hugeLength_8 : decode b_As_hugeLength 8 = .ok (.new 204, 3) := by decide +kernel
theorem d_As_hugeLength_11 : decode b_As_hugeLength 11 = .ok (.dup, 1) := by decide +kernel
theorem d_As_hugeLength_12 : decode b_As_hugeLength 12 = .ok (.new 89, 3) := by decide +kernel
theorem d_As_hugeLength_15 : decode b_As_hugeLength 15 = .ok (.dup, 1) := by decide +kernel
theorem d_As_hugeLength_16 : decode b_As_hugeLength 16 = .ok (.invokespecial 91, 3) := by decide +kernel
theorem d_As_hugeLength_19 : decode b_As_hugeLength 19 = .ok (.ldc 206, 2) := by decide +kernel
theorem d_As_hugeLength_21 : decode b_As_hugeLength 21 = .ok (.invokevirtual 94, 3) := by decide +kernel
theorem d_As_hugeLength_24 : decode b_As_hugeLength 24 = .ok (.iload_n 0, 1) := by decide +kernel
theorem d_As_hugeLength_25 : decode b_As_hugeLength 25 = .ok (.invokevirtual 98, 3) := by decide +kernel
theorem d_As_hugeLength_28 : decode b_As_hugeLength 28 = .ok (.ldc 208, 2) := by decide +kernel
theorem d_As_hugeLength_30 : decode b_As_hugeLength 30 = .ok (.invokevirtual 94, 3) := by decide +kernel
theorem d_As_hugeLength_33 : decode b_As_hugeLength 33 = .ok (.iload_n 1, 1) := by decide +kernel
theorem d_As_hugeLength_34 : decode b_As_hugeLength 34 = .ok (.invokevirtual 98, 3) := by decide +kernel
theorem d_As_hugeLength_37 : decode b_As_hugeLength 37 = .ok (.ldc 210, 2) := by decide +kernel
theorem d_As_hugeLength_39 : decode b_As_hugeLength 39 = .ok (.invokevirtual 94, 3) := by decide +kernel
theorem d_As_hugeLength_42 : decode b_As_hugeLength 42 = .ok (.invokevirtual 101, 3) := by decide +kernel
theorem d_As_hugeLength_45 : decode b_As_hugeLength 45 = .ok (.invokespecial 212, 3) := by decide +kernel
theorem d_As_hugeLength_48 : decode b_As_hugeLength 48 = .ok (.athrow, 1) := by decide +kernel
theorem d_As_hugeLength_49 : decode b_As_hugeLength 49 = .ok (.iload_n 2, 1) := by decide +kernel
theorem d_As_hugeLength_50 : decode b_As_hugeLength 50 = .ok (.ldc 200, 2) := by decide +kernel
theorem d_As_hugeLength_52 : decode b_As_hugeLength 52 = .ok (.if_icmp .gt 6, 3) := by decide +kernel
theorem d_As_hugeLength_55 : decode b_As_hugeLength 55 = .ok (.ldc 200, 2) := by decide +kernel
theorem d_As_hugeLength_57 : decode b_As_hugeLength 57 = .ok (.ireturn, 1) := by decide +kernel
theorem d_As_hugeLength_58 : decode b_As_hugeLength 58 = .ok (.iload_n 2, 1) := by decide +kernel
theorem d_As_hugeLength_59 : decode b_As_hugeLength 59 = .ok (.ireturn, 1) := by decide +kernel
abbrev rmw_mAs_hugeLength (MC MS : Nat) : Room := { frames := 0, cells := MC, slots := MS, locals := 0 }
def Iw_mAs_hugeLength_e (p : Program) (l : Launch) (e : Env) (s : State) (m : MethodId) (args : Array Value) (below : List Frame) (meth : Method) (c : Code) (D : va_G) (cy : Nat → ClassId) (A : Nat → Prop) (ad : Nat → Nat) (mi MC MS : Nat) (Φ : Int32 → Mm → Prop) (k : Nat → Nat → Mm → Int32 → Int32 → Prop) : Prop :=
  ∀ (κ σ : Nat) (M : Mm) (a0 : Int32) (a1 : Int32), k κ σ M a0 a1 → κ ≤ MC → σ ≤ MS → ∀ (H : Heap) (locs : List Loc) (ls : Array Slot), va_P D classes (mw M) H → va_D A (mw M) → va_S A s.heap H locs → lv_has ls 3 [(0, .int a0), (1, .int a1)] → W p l e (rmw_mAs_hugeLength MC MS) s m args below meth c H locs κ σ (MQ below (va_Qi Φ (fun u t => Po D cy A (mw u) t) A) args s MC MS A) (F0 m 0 ls [])
set_option maxHeartbeats 8000000 in
set_option maxRecDepth 100000 in
theorem wew_mAs_hugeLength {p : Program} {l : Launch} {e : Env} {s : State} {m : MethodId} {args : Array Value} {below : List Frame} {meth : Method} {c : Code} {D : va_G} {cy : Nat → ClassId} {A : Nat → Prop} {ad : Nat → Nat} {mi MC MS : Nat} {Φ : Int32 → Mm → Prop} {fu : Nat} (F : FxM p s m args meth c b_As_hugeLength 3 "jdk/internal/util/ArraysSupport" "hugeLength" (some .int) D cy ad mi A) : Iw_mAs_hugeLength_e p l e s m args below meth c D cy A ad mi MC MS Φ (xw_mAs_hugeLength fu MC MS cy ad mi Φ) := by
  obtain ⟨⟨hx, hb, hr, hml, hown, hts, hlocks, hK, hA, hSt, hnm, hex⟩, hT, hMi⟩ := id F
  intro κ σ M a0 a1 hf hkc hks H locs ls hP hD hS hl
  unfold xw_mAs_hugeLength at hf
  refine lv_iload_n hx hb d_As_hugeLength_0 rfl (lv_at hl 0 rfl) ?_
  refine lv_iload_n hx hb d_As_hugeLength_1 rfl (lv_at hl 1 rfl) ?_
  refine lv_iadd hx hb d_As_hugeLength_2 ?_
  refine lv_topi (fun v1 ev => ?_)
  have hf := bnQ ev hf
  clear ev
  refine lv_istore_n (lv' := [(2, .int v1), (0, .int a0), (1, .int a1)]) hx hb d_As_hugeLength_3 rfl hl (by decide) rfl (fun ls hl => ?_)
  refine lv_iload_n hx hb d_As_hugeLength_4 rfl (lv_at hl 0 rfl) ?_
  refine lv_if_ge (tgt := 49) hx hb d_As_hugeLength_5 (by decide) (fun cx => ?_) (fun cx => ?_)
  · have hf := ifpP cx hf
    refine lv_iload_n hx hb d_As_hugeLength_49 rfl (lv_at hl 0 rfl) ?_
    refine lv_ldc (v := 2147483639) hx hb hown (hts _ gw_459) d_As_hugeLength_50 ?_
    refine lv_icmp_gt (tgt := 58) hx hb d_As_hugeLength_52 (by decide) (fun cx => ?_) (fun cx => ?_)
    · have hf := ifpP cx hf
      refine lv_iload_n hx hb d_As_hugeLength_58 rfl (lv_at hl 0 rfl) ?_
      refine W.widen (k := MC) (n := MS) hkc hks ?_
      exact m_ri hf hx hb hr hlocks hK hP hD hS d_As_hugeLength_59
    · have hf := ifnP cx hf
      refine lv_ldc (v := 2147483639) hx hb hown (hts _ gw_459) d_As_hugeLength_55 ?_
      refine W.widen (k := MC) (n := MS) hkc hks ?_
      exact m_ri hf hx hb hr hlocks hK hP hD hS d_As_hugeLength_57
  · have hf := ifnP cx hf
    exact hf.elim
theorem cw_mAs_hugeLength (l : Launch) (D : va_G) (cy : Nat → ClassId) (ad : Nat → Nat) (mi fu MC MS : Nat) (a0 : Int32) (a1 : Int32) (M : Mm) (Φ : Int32 → Mm → Prop) (hf : xw_mAs_hugeLength fu MC MS cy ad mi Φ 0 0 M a0 a1) (sz : Nat) : Met l ({ cls := "jdk/internal/util/ArraysSupport", name := "hugeLength", desc := "(II)I" } : Jvm.MethodName) (.code ({ cls := "jdk/internal/util/ArraysSupport", name := "hugeLength", desc := "(II)I" } : Jvm.MethodName) b_As_hugeLength 3 (some .int) :: gw) (rmw_mAs_hugeLength MC MS) (va_Pc [.int a0, .int a1] (PrM D cy ad mi (mw M) sz)) (va_Qi Φ (fun u t => Po D cy (va_A (mw M) sz) (mw u) t) (va_A (mw M) sz)) MC MS (va_A (mw M) sz) :=
  q_metM (Qc := fun A => va_Qi Φ (fun u t => Po D cy A (mw u) t) A) (by decide) rfl rfl (Nat.le_of_ble_eq_true rfl) (fun p e s m below meth c ls F hP hD hS hl => wew_mAs_hugeLength (fu := fu) F 0 0 M a0 a1 hf (Nat.zero_le _) (Nat.zero_le _) _ _ _ hP hD hS hl) sz
abbrev b_As_newLength : ByteArray := prog_36_method_27_code
theorem d_As_newLength_0 : decode b_As_newLength 0 = .ok (.iload_n 0, 1) := by decide +kernel
theorem d_As_newLength_1 : decode b_As_newLength 1 = .ok (.iload_n 1, 1) := by decide +kernel
theorem d_As_newLength_2 : decode b_As_newLength 2 = .ok (.iload_n 2, 1) := by decide +kernel
theorem d_As_newLength_3 : decode b_As_newLength 3 = .ok (.invokestatic 194, 3) := by decide +kernel
theorem d_As_newLength_6 : decode b_As_newLength 6 = .ok (.iadd, 1) := by decide +kernel
theorem d_As_newLength_7 : decode b_As_newLength 7 = .ok (.istore_n 3, 1) := by decide +kernel
theorem d_As_newLength_8 : decode b_As_newLength 8 = .ok (.iconst 0, 1) := by decide +kernel
theorem d_As_newLength_9 : decode b_As_newLength 9 = .ok (.iload_n 3, 1) := by decide +kernel
theorem d_As_newLength_10 : decode b_As_newLength 10 = .ok (.if_icmp .ge 11, 3) := by decide +kernel
theorem d_As_newLength_13 : decode b_As_newLength 13 = .ok (.iload_n 3, 1) := by decide +kernel
theorem d_As_newLength_14 : decode b_As_newLength 14 = .ok (.ldc 200, 2) := by decide +kernel
theorem d_As_newLength_16 : decode b_As_newLength 16 = .ok (.if_icmp .gt 5, 3) := by decide +kernel
theorem d_As_newLength_19 : decode b_As_newLength 19 = .ok (.iload_n 3, 1) := by decide +kernel
theorem d_As_newLength_20 : decode b_As_newLength 20 = .ok (.ireturn, 1) := by decide +kernel
theorem d_As_newLength_21 : decode b_As_newLength 21 = .ok (.iload_n 0, 1) := by decide +kernel
theorem d_As_newLength_22 : decode b_As_newLength 22 = .ok (.iload_n 1, 1) := by decide +kernel
theorem d_As_newLength_23 : decode b_As_newLength 23 = .ok (.invokestatic 201, 3) := by decide +kernel
theorem d_As_newLength_26 : decode b_As_newLength 26 = .ok (.ireturn, 1) := by decide +kernel
abbrev rmw_mAs_newLength (MC MS : Nat) : Room := { frames := 1, cells := MC, slots := MS, locals := 26 }
def Iw_mAs_newLength_21 (p : Program) (l : Launch) (e : Env) (s : State) (m : MethodId) (args : Array Value) (below : List Frame) (meth : Method) (c : Code) (D : va_G) (cy : Nat → ClassId) (A : Nat → Prop) (ad : Nat → Nat) (mi MC MS : Nat) (Φ : Int32 → Mm → Prop) (k : Nat → Nat → Mm → Int32 → Int32 → Prop) : Prop :=
  ∀ (κ σ : Nat) (M : Mm) (x0 : Int32) (x1 : Int32), k κ σ M x0 x1 → κ ≤ MC → σ ≤ MS → ∀ (H : Heap) (locs : List Loc) (ls : Array Slot), va_P D classes (mw M) H → va_D A (mw M) → va_S A s.heap H locs → lv_has ls 4 [(0, .int x0), (1, .int x1)] → W p l e (rmw_mAs_newLength MC MS) s m args below meth c H locs κ σ (MQ below (va_Qi Φ (fun u t => Po D cy A (mw u) t) A) args s MC MS A) (F0 m 21 ls [])
def Iw_mAs_newLength_e (p : Program) (l : Launch) (e : Env) (s : State) (m : MethodId) (args : Array Value) (below : List Frame) (meth : Method) (c : Code) (D : va_G) (cy : Nat → ClassId) (A : Nat → Prop) (ad : Nat → Nat) (mi MC MS : Nat) (Φ : Int32 → Mm → Prop) (k : Nat → Nat → Mm → Int32 → Int32 → Int32 → Prop) : Prop :=
  ∀ (κ σ : Nat) (M : Mm) (a0 : Int32) (a1 : Int32) (a2 : Int32), k κ σ M a0 a1 a2 → κ ≤ MC → σ ≤ MS → ∀ (H : Heap) (locs : List Loc) (ls : Array Slot), va_P D classes (mw M) H → va_D A (mw M) → va_S A s.heap H locs → lv_has ls 4 [(0, .int a0), (1, .int a1), (2, .int a2)] → W p l e (rmw_mAs_newLength MC MS) s m args below meth c H locs κ σ (MQ below (va_Qi Φ (fun u t => Po D cy A (mw u) t) A) args s MC MS A) (F0 m 0 ls [])
theorem hdq_5 : ({ cls := "jdk/internal/util/ArraysSupport", name := "hugeLength", desc := "(II)I" } : Jvm.MethodName).cls ≠ "java/lang/invoke/MethodHandle" ∧ ({ cls := "jdk/internal/util/ArraysSupport", name := "hugeLength", desc := "(II)I" } : Jvm.MethodName).cls ≠ "java/lang/invoke/VarHandle" ∧ (parseMethodDescriptor ({ cls := "jdk/internal/util/ArraysSupport", name := "hugeLength", desc := "(II)I" } : Jvm.MethodName).desc).map (fun d => d.parameters.length) = some 2 := by decide +kernel
set_option maxHeartbeats 8000000 in
set_option maxRecDepth 100000 in
theorem wv_mAs_newLength_21 {p : Program} {l : Launch} {e : Env} {s : State} {m : MethodId} {args : Array Value} {below : List Frame} {meth : Method} {c : Code} {D : va_G} {cy : Nat → ClassId} {A : Nat → Prop} {ad : Nat → Nat} {mi MC MS : Nat} {Φ : Int32 → Mm → Prop} {fu : Nat} (F : FxM p s m args meth c b_As_newLength 4 "jdk/internal/util/ArraysSupport" "newLength" (some .int) D cy ad mi A) : Iw_mAs_newLength_21 p l e s m args below meth c D cy A ad mi MC MS Φ (xv_mAs_newLength_21 fu MC MS cy ad mi Φ) := by
  obtain ⟨⟨hx, hb, hr, hml, hown, hts, hlocks, hK, hA, hSt, hnm, hex⟩, hT, hMi⟩ := id F
  intro κ σ M x0 x1 hf hkc hks H locs ls hP hD hS hl
  unfold xv_mAs_newLength_21 at hf
  refine lv_iload_n hx hb d_As_newLength_21 rfl (lv_at hl 0 rfl) ?_
  refine lv_iload_n hx hb d_As_newLength_22 rfl (lv_at hl 1 rfl) ?_
  obtain ⟨mc1, ms2, ⟨hc_, hd_⟩, hf⟩ := hf
  refine mm_ai (va_runS (As := [.int x0, .int x1]) (rest := []) ⟨hx, hb, hml, hown, hts⟩ (cw_mAs_hugeLength l D cy ad mi fu mc1 ms2 x0 x1 M _ hf H.size) ⟨q_cB hts gw_462 gw_14 gw_460 hdq_5 ⟨Nat.le_of_ble_eq_true rfl, Nat.le_of_ble_eq_true rfl⟩, hts _ gw_461⟩ (q_preM hP hD hK hSt hT hMi hS (m_free hD hS hA) _) rfl rfl hl.1 rfl (lv_room (Nat.le_of_ble_eq_true rfl)) d_As_newLength_23 ⟨hc_, hd_⟩) hD hS hA (fun v4 M3 H locs hf hP hD hS => ?_)
  have hkc : κ + mc1 ≤ MC := hc_
  have hks : σ + ms2 ≤ MS := hd_
  clear hc_ hd_
  refine W.widen (k := MC) (n := MS) hkc hks ?_
  exact m_ri hf hx hb hr hlocks hK hP hD hS d_As_newLength_26
set_option maxHeartbeats 8000000 in
set_option maxRecDepth 100000 in
theorem wew_mAs_newLength {p : Program} {l : Launch} {e : Env} {s : State} {m : MethodId} {args : Array Value} {below : List Frame} {meth : Method} {c : Code} {D : va_G} {cy : Nat → ClassId} {A : Nat → Prop} {ad : Nat → Nat} {mi MC MS : Nat} {Φ : Int32 → Mm → Prop} {fu : Nat} (F : FxM p s m args meth c b_As_newLength 4 "jdk/internal/util/ArraysSupport" "newLength" (some .int) D cy ad mi A) : Iw_mAs_newLength_e p l e s m args below meth c D cy A ad mi MC MS Φ (xw_mAs_newLength fu MC MS cy ad mi Φ) := by
  obtain ⟨⟨hx, hb, hr, hml, hown, hts, hlocks, hK, hA, hSt, hnm, hex⟩, hT, hMi⟩ := id F
  intro κ σ M a0 a1 a2 hf hkc hks H locs ls hP hD hS hl
  unfold xw_mAs_newLength at hf
  refine lv_iload_n hx hb d_As_newLength_0 rfl (lv_at hl 0 rfl) ?_
  refine lv_iload_n hx hb d_As_newLength_1 rfl (lv_at hl 1 rfl) ?_
  refine lv_iload_n hx hb d_As_newLength_2 rfl (lv_at hl 2 rfl) ?_
  refine va_mmax (R := rmw_mAs_newLength MC MS) (rest := [.int a0]) hx hb (hml.trans hl.1.symm) hown (hts _ gw_456) (hts _ gw_457) (hts _ gw_15) (hts _ gw_458) (Nat.le_of_ble_eq_true rfl) (Nat.le_of_ble_eq_true rfl) hkc hks d_As_newLength_3 ?_
  refine lv_topi (fun v1 ev => ?_)
  have hf := bnQ ev hf
  clear ev
  refine lv_iadd hx hb d_As_newLength_6 ?_
  refine lv_topi (fun v2 ev => ?_)
  have hf := bnQ ev hf
  clear ev
  refine lv_istore_n (lv' := [(3, .int v2), (0, .int a0), (1, .int a1), (2, .int a2)]) hx hb d_As_newLength_7 rfl hl (by decide) rfl (fun ls hl => ?_)
  refine lv_iconst (v := 0) hx hb d_As_newLength_8 (by decide) ?_
  refine lv_iload_n hx hb d_As_newLength_9 rfl (lv_at hl 0 rfl) ?_
  refine lv_icmp_ge (tgt := 21) hx hb d_As_newLength_10 (by decide) (fun cx => ?_) (fun cx => ?_)
  · have hf := ifpP cx hf
    exact wv_mAs_newLength_21 (fu := fu) F _ _ _ _ _ hf hkc hks _ _ _ hP hD hS (lv_sub hl [1, 2] rfl)
  · have hf := ifnP cx hf
    refine lv_iload_n hx hb d_As_newLength_13 rfl (lv_at hl 0 rfl) ?_
    refine lv_ldc (v := 2147483639) hx hb hown (hts _ gw_459) d_As_newLength_14 ?_
    refine lv_icmp_gt (tgt := 21) hx hb d_As_newLength_16 (by decide) (fun cx => ?_) (fun cx => ?_)
    · have hf := ifpP cx hf
      exact wv_mAs_newLength_21 (fu := fu) F _ _ _ _ _ hf hkc hks _ _ _ hP hD hS (lv_sub hl [1, 2] rfl)
    · have hf := ifnP cx hf
      refine lv_iload_n hx hb d_As_newLength_19 rfl (lv_at hl 0 rfl) ?_
      refine W.widen (k := MC) (n := MS) hkc hks ?_
      exact m_ri hf hx hb hr hlocks hK hP hD hS d_As_newLength_20
theorem cw_mAs_newLength (l : Launch) (D : va_G) (cy : Nat → ClassId) (ad : Nat → Nat) (mi fu MC MS : Nat) (a0 : Int32) (a1 : Int32) (a2 : Int32) (M : Mm) (Φ : Int32 → Mm → Prop) (hf : xw_mAs_newLength fu MC MS cy ad mi Φ 0 0 M a0 a1 a2) (sz : Nat) : Met l ({ cls := "jdk/internal/util/ArraysSupport", name := "newLength", desc := "(III)I" } : Jvm.MethodName) (.code ({ cls := "jdk/internal/util/ArraysSupport", name := "newLength", desc := "(III)I" } : Jvm.MethodName) b_As_newLength 4 (some .int) :: gw) (rmw_mAs_newLength MC MS) (va_Pc [.int a0, .int a1, .int a2] (PrM D cy ad mi (mw M) sz)) (va_Qi Φ (fun u t => Po D cy (va_A (mw M) sz) (mw u) t) (va_A (mw M) sz)) MC MS (va_A (mw M) sz) :=
  q_metM (Qc := fun A => va_Qi Φ (fun u t => Po D cy A (mw u) t) A) (by decide) rfl rfl (Nat.le_of_ble_eq_true rfl) (fun p e s m below meth c ls F hP hD hS hl => wew_mAs_newLength (fu := fu) F 0 0 M a0 a1 a2 hf (Nat.zero_le _) (Nat.zero_le _) _ _ _ hP hD hS hl) sz
abbrev b_Ar_copyOf1 : ByteArray := prog_29_method_120_code
theorem d_Ar_copyOf1_0 : decode b_Ar_copyOf1 0 = .ok (.aload_n 2, 1) := by decide +kernel
theorem d_Ar_copyOf1_1 : decode b_Ar_copyOf1 1 = .ok (.ldc 110, 2) := by decide +kernel
theorem d_Ar_copyOf1_3 : decode b_Ar_copyOf1 3 = .ok (.if_acmp .ne 10, 3) := by decide +kernel
theorem d_Ar_copyOf1_6 : decode b_Ar_copyOf1 6 = .ok (.iload_n 1, 1) := by decide +kernel
theorem d_Ar_copyOf1_7 : decode b_Ar_copyOf1 7 = .ok (.anewarray 2, 3) := by decide +kernel
theorem d_Ar_copyOf1_10 : decode b_Ar_copyOf1 10 = .ok (.goto 14, 3) := by decide +kernel
theorem d_Ar_copyOf1_13 : decode b_Ar_copyOf1 13 = .ok (.aload_n 2, 1) := by decide +kernel
theorem d_Ar_copyOf1_14 : decode b_Ar_copyOf1 14 = .ok (.invokevirtual 90, 3) := by decide +kernel
theorem d_Ar_copyOf1_17 : decode b_Ar_copyOf1 17 = .ok (.iload_n 1, 1) := by decide +kernel
theorem d_Ar_copyOf1_18 : decode b_Ar_copyOf1 18 = .ok (.invokestatic 95, 3) := by decide +kernel
theorem d_Ar_copyOf1_21 : decode b_Ar_copyOf1 21 = .ok (.checkcast 110, 3) := by decide +kernel
theorem d_Ar_copyOf1_24 : decode b_Ar_copyOf1 24 = .ok (.astore_n 3, 1) := by decide +kernel
theorem d_Ar_copyOf1_25 : decode b_Ar_copyOf1 25 = .ok (.aload_n 0, 1) := by decide +kernel
theorem d_Ar_copyOf1_26 : decode b_Ar_copyOf1 26 = .ok (.iconst 0, 1) := by decide +kernel
theorem d_Ar_copyOf1_27 : decode b_Ar_copyOf1 27 = .ok (.aload_n 3, 1) := by decide +kernel
theorem d_Ar_copyOf1_28 : decode b_Ar_copyOf1 28 = .ok (.iconst 0, 1) := by decide +kernel
theorem d_Ar_copyOf1_29 : decode b_Ar_copyOf1 29 = .ok (.aload_n 0, 1) := by decide +kernel
theorem d_Ar_copyOf1_30 : decode b_Ar_copyOf1 30 = .ok (.arraylength, 1) := by decide +kernel
theorem d_Ar_copyOf1_31 : decode b_Ar_copyOf1 31 = .ok (.iload_n 1, 1) := by decide +kernel
theorem d_Ar_copyOf1_32 : decode b_Ar_copyOf1 32 = .ok (.invokestatic 304, 3) := by decide +kernel
theorem d_Ar_copyOf1_35 : decode b_Ar_copyOf1 35 = .ok (.invokestatic 150, 3) := by decide +kernel
theorem d_Ar_copyOf1_38 : decode b_Ar_copyOf1 38 = .ok (.aload_n 3, 1) := by decide +kernel
theorem d_Ar_copyOf1_39 : decode b_Ar_copyOf1 39 = .ok (.areturn, 1) := by decide +kernel
abbrev rmw_mAr_copyOf1 (MC MS : Nat) : Room := { frames := 1, cells := MC, slots := MS, locals := 30 }
def Iw_mAr_copyOf1_24 (p : Program) (l : Launch) (e : Env) (s : State) (m : MethodId) (args : Array Value) (below : List Frame) (meth : Method) (c : Code) (D : va_G) (cy : Nat → ClassId) (A : Nat → Prop) (ad : Nat → Nat) (mi MC MS : Nat) (Φ : Option Nat → Mm → Prop) (k : Nat → Nat → Mm → Nat → Int32 → Nat → Prop) : Prop :=
  ∀ (κ σ : Nat) (M : Mm) (x0 : Nat) (x1 : Int32) (y0 : Nat), k κ σ M x0 x1 y0 → κ ≤ MC → σ ≤ MS → ∀ (H : Heap) (locs : List Loc) (ls : Array Slot), va_P D classes (mw M) H → va_D A (mw M) → va_S A s.heap H locs → lv_has ls 4 [(0, .ref x0), (1, .int x1)] → W p l e (rmw_mAr_copyOf1 MC MS) s m args below meth c H locs κ σ (MQ below (va_Qq Φ (fun u t => Po D cy A (mw u) t) A) args s MC MS A) (F0 m 24 ls [.ref y0])
def Iw_mAr_copyOf1_e (p : Program) (l : Launch) (e : Env) (s : State) (m : MethodId) (args : Array Value) (below : List Frame) (meth : Method) (c : Code) (D : va_G) (cy : Nat → ClassId) (A : Nat → Prop) (ad : Nat → Nat) (mi MC MS : Nat) (Φ : Option Nat → Mm → Prop) (k : Nat → Nat → Mm → Nat → Int32 → Nat → Prop) : Prop :=
  ∀ (κ σ : Nat) (M : Mm) (a0 : Nat) (a1 : Int32) (a2 : Nat), k κ σ M a0 a1 a2 → κ ≤ MC → σ ≤ MS → ∀ (H : Heap) (locs : List Loc) (ls : Array Slot), va_P D classes (mw M) H → va_D A (mw M) → va_S A s.heap H locs → lv_has ls 4 [(0, .ref a0), (1, .int a1), (2, .ref a2)] → W p l e (rmw_mAr_copyOf1 MC MS) s m args below meth c H locs κ σ (MQ below (va_Qq Φ (fun u t => Po D cy A (mw u) t) A) args s MC MS A) (F0 m 0 ls [])
set_option maxHeartbeats 8000000 in
set_option maxRecDepth 100000 in
theorem wv_mAr_copyOf1_24 {p : Program} {l : Launch} {e : Env} {s : State} {m : MethodId} {args : Array Value} {below : List Frame} {meth : Method} {c : Code} {D : va_G} {cy : Nat → ClassId} {A : Nat → Prop} {ad : Nat → Nat} {mi MC MS : Nat} {Φ : Option Nat → Mm → Prop} {fu : Nat} (F : FxM p s m args meth c b_Ar_copyOf1 4 "java/util/Arrays" "copyOf" (Option.some (Jvm.ClassFile.FieldType.array (Jvm.ClassFile.FieldType.object "java/lang/Object"))) D cy ad mi A) : Iw_mAr_copyOf1_24 p l e s m args below meth c D cy A ad mi MC MS Φ (xv_mAr_copyOf1_24 fu MC MS cy ad mi Φ) := by
  obtain ⟨⟨hx, hb, hr, hml, hown, hts, hlocks, hK, hA, hSt, hnm, hex⟩, hT, hMi⟩ := id F
  intro κ σ M x0 x1 y0 hf hkc hks H locs ls hP hD hS hl
  unfold xv_mAr_copyOf1_24 at hf
  refine lv_astore_n (lv' := [(3, .ref y0), (0, .ref x0), (1, .int x1)]) hx hb d_Ar_copyOf1_24 rfl hl (by decide) rfl (fun ls hl => ?_)
  refine lv_aload_n hx hb d_Ar_copyOf1_25 rfl (lv_at hl 1 rfl) ?_
  refine lv_iconst (v := 0) hx hb d_Ar_copyOf1_26 (by decide) ?_
  refine lv_aload_n hx hb d_Ar_copyOf1_27 rfl (lv_at hl 0 rfl) ?_
  refine lv_iconst (v := 0) hx hb d_Ar_copyOf1_28 (by decide) ?_
  refine lv_aload_n hx hb d_Ar_copyOf1_29 rfl (lv_at hl 1 rfl) ?_
  by_cases cx : x0 = ad 26
  · have hg_ := ifpP cx hf
    clear hf
    subst cx
    have hf := hg_
    clear hg_
    refine va_tlen (v := 0) hx hb (hSt.1 26 _ rfl).2 hS rfl d_Ar_copyOf1_30 ?_
    refine lv_iload_n hx hb d_Ar_copyOf1_31 rfl (lv_at hl 2 rfl) ?_
    refine va_mmin (R := rmw_mAr_copyOf1 MC MS) (rest := [.int (0 : Int32), .ref y0, .int (0 : Int32), .ref (ad 26)]) hx hb (hml.trans hl.1.symm) hown (hts _ gw_492) (hts _ gw_493) (hts _ gw_15) (hts _ gw_494) (Nat.le_of_ble_eq_true rfl) (Nat.le_of_ble_eq_true rfl) hkc hks d_Ar_copyOf1_32 ?_
    refine lv_topi (fun v1 ev => ?_)
    have hf := bnQ ev hf
    clear ev
    rcases hf with hf | hf
    · obtain ⟨n0_, f0_, n1_, f1_, hs_, hm_, hcp_, hfi_, hf⟩ := hf
      obtain ⟨jx_, hj_⟩ := m_ix hs_
      obtain ⟨ix_, hi_⟩ := m_ix hm_
      have hE_ := m_set (y := .inl (cy 7, n1_, .inr (.inr (.inr (.inr (va_cpy f0_ f1_ (0 : Int32).toNatClampNeg (0 : Int32).toNatClampNeg v1.toNatClampNeg)))))) hD hi_
      refine va_copyq (C := "CoinKeeper$Block") (R := rmw_mAr_copyOf1 MC MS) (rest := []) hx hb (hml.trans hl.1.symm) hown (hts _ gw_495) (hts _ gw_497) (hts _ gw_496) (hts _ gw_17) hK hP hD hS jx_ ix_ 7 7 hj_ hi_ rfl rfl (cpk_p hcp_).1 (cpk_p hcp_).2.1 (cpk_p hcp_).2.2.1 (cpk_p hcp_).2.2.2.1 (cpk_p hcp_).2.2.2.2 (m_elq hK hP (ci := 1) rfl hfi_) (m_asg (hSt.2.1 _ (List.mem_of_getElem? (i := 35) rfl))) (Nat.le_of_ble_eq_true rfl) (Nat.le_of_ble_eq_true rfl) d_Ar_copyOf1_35 (fun H locs hP hD hS => ?_)
      obtain ⟨M2, eM_⟩ : ∃ z, z = mu M y0 (.inl (cy 7, n1_, .inr (.inr (.inr (.inr (va_cpy f0_ f1_ (0 : Int32).toNatClampNeg (0 : Int32).toNatClampNeg v1.toNatClampNeg)))))) := ⟨_, rfl⟩
      rw [← eM_] at hf hE_
      rw [hE_] at hP hD
      clear hE_ eM_ hi_ hm_
      clear hj_ hs_ hcp_ hfi_
      refine lv_aload_n hx hb d_Ar_copyOf1_38 rfl (lv_at hl 0 rfl) ?_
      refine W.widen (k := MC) (n := MS) hkc hks ?_
      exact m_ra hf rfl hx hb hr (Or.inr ⟨_, rfl⟩) hlocks hK hP hD hS d_Ar_copyOf1_39
    · obtain ⟨n0_, f0_, n1_, f1_, hs_, hm_, hcp_, hfi_, hf⟩ := hf
      obtain ⟨jx_, hj_⟩ := m_ix hs_
      obtain ⟨ix_, hi_⟩ := m_ix hm_
      have hE_ := m_set (y := .inl (cy 7, n1_, .inr (.inr (.inr (.inr (va_cpy f0_ f1_ (0 : Int32).toNatClampNeg (0 : Int32).toNatClampNeg v1.toNatClampNeg)))))) hD hi_
      refine va_copyq (C := "CoinKeeper$Coin") (R := rmw_mAr_copyOf1 MC MS) (rest := []) hx hb (hml.trans hl.1.symm) hown (hts _ gw_495) (hts _ gw_497) (hts _ gw_496) (hts _ gw_17) hK hP hD hS jx_ ix_ 7 7 hj_ hi_ rfl rfl (cpk_p hcp_).1 (cpk_p hcp_).2.1 (cpk_p hcp_).2.2.1 (cpk_p hcp_).2.2.2.1 (cpk_p hcp_).2.2.2.2 (m_elq hK hP (ci := 2) rfl hfi_) (m_asg (hSt.2.1 _ (List.mem_of_getElem? (i := 37) rfl))) (Nat.le_of_ble_eq_true rfl) (Nat.le_of_ble_eq_true rfl) d_Ar_copyOf1_35 (fun H locs hP hD hS => ?_)
      obtain ⟨M3, eM_⟩ : ∃ z, z = mu M y0 (.inl (cy 7, n1_, .inr (.inr (.inr (.inr (va_cpy f0_ f1_ (0 : Int32).toNatClampNeg (0 : Int32).toNatClampNeg v1.toNatClampNeg)))))) := ⟨_, rfl⟩
      rw [← eM_] at hf hE_
      rw [hE_] at hP hD
      clear hE_ eM_ hi_ hm_
      clear hj_ hs_ hcp_ hfi_
      refine lv_aload_n hx hb d_Ar_copyOf1_38 rfl (lv_at hl 0 rfl) ?_
      refine W.widen (k := MC) (n := MS) hkc hks ?_
      exact m_ra hf rfl hx hb hr (Or.inr ⟨_, rfl⟩) hlocks hK hP hD hS d_Ar_copyOf1_39
  · have hf := ifnP cx hf
    obtain ⟨x_, hm_, hf⟩ := hf
    obtain ⟨ix_, hi_⟩ := m_ix hm_
    refine va_alen hx hb hK hP ix_ 7 hi_ rfl rfl d_Ar_copyOf1_30 ?_
    obtain ⟨v4, ev⟩ : ∃ z, z = Int32.ofNat x_.1 := ⟨_, rfl⟩
    first | rw [← ev] at hf ⊢ | rw [← ev]
    clear ev hi_ hm_
    refine lv_iload_n hx hb d_Ar_copyOf1_31 rfl (lv_at hl 2 rfl) ?_
    refine va_mmin (R := rmw_mAr_copyOf1 MC MS) (rest := [.int (0 : Int32), .ref y0, .int (0 : Int32), .ref x0]) hx hb (hml.trans hl.1.symm) hown (hts _ gw_492) (hts _ gw_493) (hts _ gw_15) (hts _ gw_494) (Nat.le_of_ble_eq_true rfl) (Nat.le_of_ble_eq_true rfl) hkc hks d_Ar_copyOf1_32 ?_
    refine lv_topi (fun v5 ev => ?_)
    have hf := bnQ ev hf
    clear ev
    rcases hf with hf | hf
    · obtain ⟨n0_, f0_, n1_, f1_, hs_, hm_, hcp_, hfi_, hf⟩ := hf
      obtain ⟨jx_, hj_⟩ := m_ix hs_
      obtain ⟨ix_, hi_⟩ := m_ix hm_
      have hE_ := m_set (y := .inl (cy 7, n1_, .inr (.inr (.inr (.inr (va_cpy f0_ f1_ (0 : Int32).toNatClampNeg (0 : Int32).toNatClampNeg v5.toNatClampNeg)))))) hD hi_
      refine va_copyq (C := "CoinKeeper$Block") (R := rmw_mAr_copyOf1 MC MS) (rest := []) hx hb (hml.trans hl.1.symm) hown (hts _ gw_495) (hts _ gw_497) (hts _ gw_496) (hts _ gw_17) hK hP hD hS jx_ ix_ 7 7 hj_ hi_ rfl rfl (cpk_p hcp_).1 (cpk_p hcp_).2.1 (cpk_p hcp_).2.2.1 (cpk_p hcp_).2.2.2.1 (cpk_p hcp_).2.2.2.2 (m_elq hK hP (ci := 1) rfl hfi_) (m_asg (hSt.2.1 _ (List.mem_of_getElem? (i := 35) rfl))) (Nat.le_of_ble_eq_true rfl) (Nat.le_of_ble_eq_true rfl) d_Ar_copyOf1_35 (fun H locs hP hD hS => ?_)
      obtain ⟨M6, eM_⟩ : ∃ z, z = mu M y0 (.inl (cy 7, n1_, .inr (.inr (.inr (.inr (va_cpy f0_ f1_ (0 : Int32).toNatClampNeg (0 : Int32).toNatClampNeg v5.toNatClampNeg)))))) := ⟨_, rfl⟩
      rw [← eM_] at hf hE_
      rw [hE_] at hP hD
      clear hE_ eM_ hi_ hm_
      clear hj_ hs_ hcp_ hfi_
      refine lv_aload_n hx hb d_Ar_copyOf1_38 rfl (lv_at hl 0 rfl) ?_
      refine W.widen (k := MC) (n := MS) hkc hks ?_
      exact m_ra hf rfl hx hb hr (Or.inr ⟨_, rfl⟩) hlocks hK hP hD hS d_Ar_copyOf1_39
    · obtain ⟨n0_, f0_, n1_, f1_, hs_, hm_, hcp_, hfi_, hf⟩ := hf
      obtain ⟨jx_, hj_⟩ := m_ix hs_
      obtain ⟨ix_, hi_⟩ := m_ix hm_
      have hE_ := m_set (y := .inl (cy 7, n1_, .inr (.inr (.inr (.inr (va_cpy f0_ f1_ (0 : Int32).toNatClampNeg (0 : Int32).toNatClampNeg v5.toNatClampNeg)))))) hD hi_
      refine va_copyq (C := "CoinKeeper$Coin") (R := rmw_mAr_copyOf1 MC MS) (rest := []) hx hb (hml.trans hl.1.symm) hown (hts _ gw_495) (hts _ gw_497) (hts _ gw_496) (hts _ gw_17) hK hP hD hS jx_ ix_ 7 7 hj_ hi_ rfl rfl (cpk_p hcp_).1 (cpk_p hcp_).2.1 (cpk_p hcp_).2.2.1 (cpk_p hcp_).2.2.2.1 (cpk_p hcp_).2.2.2.2 (m_elq hK hP (ci := 2) rfl hfi_) (m_asg (hSt.2.1 _ (List.mem_of_getElem? (i := 37) rfl))) (Nat.le_of_ble_eq_true rfl) (Nat.le_of_ble_eq_true rfl) d_Ar_copyOf1_35 (fun H locs hP hD hS => ?_)
      obtain ⟨M7, eM_⟩ : ∃ z, z = mu M y0 (.inl (cy 7, n1_, .inr (.inr (.inr (.inr (va_cpy f0_ f1_ (0 : Int32).toNatClampNeg (0 : Int32).toNatClampNeg v5.toNatClampNeg)))))) := ⟨_, rfl⟩
      rw [← eM_] at hf hE_
      rw [hE_] at hP hD
      clear hE_ eM_ hi_ hm_
      clear hj_ hs_ hcp_ hfi_
      refine lv_aload_n hx hb d_Ar_copyOf1_38 rfl (lv_at hl 0 rfl) ?_
      refine W.widen (k := MC) (n := MS) hkc hks ?_
      exact m_ra hf rfl hx hb hr (Or.inr ⟨_, rfl⟩) hlocks hK hP hD hS d_Ar_copyOf1_39
set_option maxHeartbeats 8000000 in
set_option maxRecDepth 100000 in
theorem wew_mAr_copyOf1 {p : Program} {l : Launch} {e : Env} {s : State} {m : MethodId} {args : Array Value} {below : List Frame} {meth : Method} {c : Code} {D : va_G} {cy : Nat → ClassId} {A : Nat → Prop} {ad : Nat → Nat} {mi MC MS : Nat} {Φ : Option Nat → Mm → Prop} {fu : Nat} (F : FxM p s m args meth c b_Ar_copyOf1 4 "java/util/Arrays" "copyOf" (Option.some (Jvm.ClassFile.FieldType.array (Jvm.ClassFile.FieldType.object "java/lang/Object"))) D cy ad mi A) : Iw_mAr_copyOf1_e p l e s m args below meth c D cy A ad mi MC MS Φ (xw_mAr_copyOf1 fu MC MS cy ad mi Φ) := by
  obtain ⟨⟨hx, hb, hr, hml, hown, hts, hlocks, hK, hA, hSt, hnm, hex⟩, hT, hMi⟩ := id F
  intro κ σ M a0 a1 a2 hf hkc hks H locs ls hP hD hS hl
  unfold xw_mAr_copyOf1 at hf
  refine lv_aload_n hx hb d_Ar_copyOf1_0 rfl (lv_at hl 2 rfl) ?_
  refine va_ldcM hx hb hown (hts _ gw_489) hMi d_Ar_copyOf1_1 ?_
  refine lv_acmp_ne (rx := (some a2)) (ry := (some mi)) (tgt := 13) hx hb d_Ar_copyOf1_3 (by decide) (fun cx => ?_) (fun cx => ?_)
  · have hf := ifnP cx hf
    refine lv_aload_n hx hb d_Ar_copyOf1_13 rfl (lv_at hl 2 rfl) ?_
    exact hf.elim
  · have hf := ifpP cx hf
    refine lv_iload_n hx hb d_Ar_copyOf1_6 rfl (lv_at hl 1 rfl) ?_
    obtain ⟨⟨hn_, hby_⟩, hf⟩ := hf
    obtain ⟨⟨hkc, hks⟩, hf⟩ := hf
    refine q_newq hx hb hown (hts _ gw_491) (hSt.2.2.2.2 _ (List.mem_of_getElem? (i := 3) rfl)) hK hP hD hS hA 7 rfl hn_ rfl hby_ hkc hks d_Ar_copyOf1_7 (fun w1 H hP hD hS => ?_)
    have hE_ := m_push (x := .inl (cy 7, a1.toNatClampNeg, .inr (.inr (.inr (.inr (fun _ => Option.none)))))) hD
    have hf := hf w1 (va_pl_fresh2 (X := []) (L := M.1) (f := M.2) hD) (ad_ne hSt hD)
    obtain ⟨M2, eM_⟩ : ∃ z, z = mp M w1 (.inl (cy 7, a1.toNatClampNeg, .inr (.inr (.inr (.inr (fun _ => Option.none)))))) := ⟨_, rfl⟩
    rw [← eM_] at hf hE_
    rw [hE_] at hP hD
    clear hE_ eM_
    refine lv_goto (tgt := 24) hx hb d_Ar_copyOf1_10 (by decide) ?_
    exact wv_mAr_copyOf1_24 (fu := fu) F _ _ _ _ _ _ hf hkc hks _ _ _ hP hD hS (lv_sub hl [0, 1] rfl)
theorem cw_mAr_copyOf1 (l : Launch) (D : va_G) (cy : Nat → ClassId) (ad : Nat → Nat) (mi fu MC MS : Nat) (a0 : Nat) (a1 : Int32) (a2 : Nat) (M : Mm) (Φ : Option Nat → Mm → Prop) (hf : xw_mAr_copyOf1 fu MC MS cy ad mi Φ 0 0 M a0 a1 a2) (sz : Nat) : Met l ({ cls := "java/util/Arrays", name := "copyOf", desc := "([Ljava/lang/Object;ILjava/lang/Class;)[Ljava/lang/Object;" } : Jvm.MethodName) (.code ({ cls := "java/util/Arrays", name := "copyOf", desc := "([Ljava/lang/Object;ILjava/lang/Class;)[Ljava/lang/Object;" } : Jvm.MethodName) b_Ar_copyOf1 4 (Option.some (Jvm.ClassFile.FieldType.array (Jvm.ClassFile.FieldType.object "java/lang/Object"))) :: gw) (rmw_mAr_copyOf1 MC MS) (va_Pc [.ref a0, .int a1, .ref a2] (PrM D cy ad mi (mw M) sz)) (va_Qq Φ (fun u t => Po D cy (va_A (mw M) sz) (mw u) t) (va_A (mw M) sz)) MC MS (va_A (mw M) sz) :=
  q_metM (Qc := fun A => va_Qq Φ (fun u t => Po D cy A (mw u) t) A) (by decide) rfl rfl (Nat.le_of_ble_eq_true rfl) (fun p e s m below meth c ls F hP hD hS hl => wew_mAr_copyOf1 (fu := fu) F 0 0 M a0 a1 a2 hf (Nat.zero_le _) (Nat.zero_le _) _ _ _ hP hD hS hl) sz
abbrev b_Ar_copyOf0 : ByteArray := prog_29_method_119_code
theorem d_Ar_copyOf0_0 : decode b_Ar_copyOf0 0 = .ok (.aload_n 0, 1) := by decide +kernel
theorem d_Ar_copyOf0_1 : decode b_Ar_copyOf0 1 = .ok (.iload_n 1, 1) := by decide +kernel
theorem d_Ar_copyOf0_2 : decode b_Ar_copyOf0 2 = .ok (.aload_n 0, 1) := by decide +kernel
theorem d_Ar_copyOf0_3 : decode b_Ar_copyOf0 3 = .ok (.invokevirtual 86, 3) := by decide +kernel
theorem d_Ar_copyOf0_6 : decode b_Ar_copyOf0 6 = .ok (.invokestatic 300, 3) := by decide +kernel
theorem d_Ar_copyOf0_9 : decode b_Ar_copyOf0 9 = .ok (.areturn, 1) := by decide +kernel
abbrev rmw_mAr_copyOf0 (MC MS : Nat) : Room := { frames := 2, cells := MC, slots := MS, locals := 53 }
def Iw_mAr_copyOf0_e (p : Program) (l : Launch) (e : Env) (s : State) (m : MethodId) (args : Array Value) (below : List Frame) (meth : Method) (c : Code) (D : va_G) (cy : Nat → ClassId) (A : Nat → Prop) (ad : Nat → Nat) (mi MC MS : Nat) (Φ : Option Nat → Mm → Prop) (k : Nat → Nat → Mm → Nat → Int32 → Prop) : Prop :=
  ∀ (κ σ : Nat) (M : Mm) (a0 : Nat) (a1 : Int32), k κ σ M a0 a1 → κ ≤ MC → σ ≤ MS → ∀ (H : Heap) (locs : List Loc) (ls : Array Slot), va_P D classes (mw M) H → va_D A (mw M) → va_S A s.heap H locs → lv_has ls 2 [(0, .ref a0), (1, .int a1)] → W p l e (rmw_mAr_copyOf0 MC MS) s m args below meth c H locs κ σ (MQ below (va_Qq Φ (fun u t => Po D cy A (mw u) t) A) args s MC MS A) (F0 m 0 ls [])
theorem hdq_6 : ({ cls := "java/util/Arrays", name := "copyOf", desc := "([Ljava/lang/Object;ILjava/lang/Class;)[Ljava/lang/Object;" } : Jvm.MethodName).cls ≠ "java/lang/invoke/MethodHandle" ∧ ({ cls := "java/util/Arrays", name := "copyOf", desc := "([Ljava/lang/Object;ILjava/lang/Class;)[Ljava/lang/Object;" } : Jvm.MethodName).cls ≠ "java/lang/invoke/VarHandle" ∧ (parseMethodDescriptor ({ cls := "java/util/Arrays", name := "copyOf", desc := "([Ljava/lang/Object;ILjava/lang/Class;)[Ljava/lang/Object;" } : Jvm.MethodName).desc).map (fun d => d.parameters.length) = some 3 := by decide +kernel
set_option maxHeartbeats 8000000 in
set_option maxRecDepth 100000 in
theorem wew_mAr_copyOf0 {p : Program} {l : Launch} {e : Env} {s : State} {m : MethodId} {args : Array Value} {below : List Frame} {meth : Method} {c : Code} {D : va_G} {cy : Nat → ClassId} {A : Nat → Prop} {ad : Nat → Nat} {mi MC MS : Nat} {Φ : Option Nat → Mm → Prop} {fu : Nat} (F : FxM p s m args meth c b_Ar_copyOf0 2 "java/util/Arrays" "copyOf" (Option.some (Jvm.ClassFile.FieldType.array (Jvm.ClassFile.FieldType.object "java/lang/Object"))) D cy ad mi A) : Iw_mAr_copyOf0_e p l e s m args below meth c D cy A ad mi MC MS Φ (xw_mAr_copyOf0 fu MC MS cy ad mi Φ) := by
  obtain ⟨⟨hx, hb, hr, hml, hown, hts, hlocks, hK, hA, hSt, hnm, hex⟩, hT, hMi⟩ := id F
  intro κ σ M a0 a1 hf hkc hks H locs ls hP hD hS hl
  unfold xw_mAr_copyOf0 at hf
  refine lv_aload_n hx hb d_Ar_copyOf0_0 rfl (lv_at hl 0 rfl) ?_
  refine lv_iload_n hx hb d_Ar_copyOf0_1 rfl (lv_at hl 1 rfl) ?_
  refine lv_aload_n hx hb d_Ar_copyOf0_2 rfl (lv_at hl 0 rfl) ?_
  obtain ⟨x_, hm_, hf⟩ := hf
  refine va_getC (R := rmw_mAr_copyOf0 MC MS) (rest := [.int a1, .ref a0]) hx hb (hml.trans hl.1.symm) hown (hts _ gw_466) (va_Nw.use (A := args) rfl (hSt.2.1 _ (List.mem_of_getElem? (i := 25) rfl))) (hts _ gw_2070) (hts _ gw_467) (hts _ gw_485) hMi (m_clsO hK hP hm_) (Nat.le_of_ble_eq_true rfl) (Nat.le_of_ble_eq_true rfl) d_Ar_copyOf0_3 ?_
  clear hm_
  obtain ⟨mc1, ms2, ⟨hc_, hd_⟩, hf⟩ := hf
  refine m_aq (va_runS (As := [.ref a0, .int a1, .ref mi]) (rest := []) ⟨hx, hb, hml, hown, hts⟩ (cw_mAr_copyOf1 l D cy ad mi fu mc1 ms2 a0 a1 mi M _ hf H.size) ⟨q_cB hts gw_488 gw_16 gw_486 hdq_6 ⟨Nat.le_of_ble_eq_true rfl, Nat.le_of_ble_eq_true rfl⟩, hts _ gw_487⟩ (q_preM hP hD hK hSt hT hMi hS (m_free hD hS hA) _) rfl rfl hl.1 rfl (lv_room (Nat.le_of_ble_eq_true rfl)) d_Ar_copyOf0_6 ⟨hc_, hd_⟩) hD hS hA (fun v4 M3 H locs hf hP hD hS => ?_)
  have hkc : κ + mc1 ≤ MC := hc_
  have hks : σ + ms2 ≤ MS := hd_
  clear hc_ hd_
  obtain ⟨q5, rfl, hf⟩ := hf
  refine W.eq (g2 := F0 m 9 ls [.ref q5]) rfl ?_
  refine W.widen (k := MC) (n := MS) hkc hks ?_
  exact m_ra hf rfl hx hb hr (Or.inr ⟨_, rfl⟩) hlocks hK hP hD hS d_Ar_copyOf0_9
theorem cw_mAr_copyOf0 (l : Launch) (D : va_G) (cy : Nat → ClassId) (ad : Nat → Nat) (mi fu MC MS : Nat) (a0 : Nat) (a1 : Int32) (M : Mm) (Φ : Option Nat → Mm → Prop) (hf : xw_mAr_copyOf0 fu MC MS cy ad mi Φ 0 0 M a0 a1) (sz : Nat) : Met l ({ cls := "java/util/Arrays", name := "copyOf", desc := "([Ljava/lang/Object;I)[Ljava/lang/Object;" } : Jvm.MethodName) (.code ({ cls := "java/util/Arrays", name := "copyOf", desc := "([Ljava/lang/Object;I)[Ljava/lang/Object;" } : Jvm.MethodName) b_Ar_copyOf0 2 (Option.some (Jvm.ClassFile.FieldType.array (Jvm.ClassFile.FieldType.object "java/lang/Object"))) :: gw) (rmw_mAr_copyOf0 MC MS) (va_Pc [.ref a0, .int a1] (PrM D cy ad mi (mw M) sz)) (va_Qq Φ (fun u t => Po D cy (va_A (mw M) sz) (mw u) t) (va_A (mw M) sz)) MC MS (va_A (mw M) sz) :=
  q_metM (Qc := fun A => va_Qq Φ (fun u t => Po D cy A (mw u) t) A) (by decide) rfl rfl (Nat.le_of_ble_eq_true rfl) (fun p e s m below meth c ls F hP hD hS hl => wew_mAr_copyOf0 (fu := fu) F 0 0 M a0 a1 hf (Nat.zero_le _) (Nat.zero_le _) _ _ _ hP hD hS hl) sz
abbrev rmw_mAl_grow1 (MC MS : Nat) : Room := { frames := 3, cells := MC, slots := MS, locals := 74 }
def Iw_mAl_grow1_20 (p : Program) (l : Launch) (e : Env) (s : State) (m : MethodId) (args : Array Value) (below : List Frame) (meth : Method) (c : Code) (D : va_G) (cy : Nat → ClassId) (A : Nat → Prop) (ad : Nat → Nat) (mi MC MS : Nat) (Φ : Option Nat → Mm → Prop) (k : Nat → Nat → Mm → Nat → Int32 → Int32 → Prop) : Prop :=
  ∀ (κ σ : Nat) (M : Mm) (x0 : Nat) (x1 : Int32) (x2 : Int32), k κ σ M x0 x1 x2 → κ ≤ MC → σ ≤ MS → ∀ (H : Heap) (locs : List Loc) (ls : Array Slot), va_P D classes (mw M) H → va_D A (mw M) → va_S A s.heap H locs → lv_has ls 4 [(0, .ref x0), (1, .int x1), (2, .int x2)] → W p l e (rmw_mAl_grow1 MC MS) s m args below meth c H locs κ σ (MQ below (va_Qq Φ (fun u t => Po D cy A (mw u) t) A) args s MC MS A) (F0 m 20 ls [])
def Iw_mAl_grow1_e (p : Program) (l : Launch) (e : Env) (s : State) (m : MethodId) (args : Array Value) (below : List Frame) (meth : Method) (c : Code) (D : va_G) (cy : Nat → ClassId) (A : Nat → Prop) (ad : Nat → Nat) (mi MC MS : Nat) (Φ : Option Nat → Mm → Prop) (k : Nat → Nat → Mm → Nat → Int32 → Prop) : Prop :=
  ∀ (κ σ : Nat) (M : Mm) (a0 : Nat) (a1 : Int32), k κ σ M a0 a1 → κ ≤ MC → σ ≤ MS → ∀ (H : Heap) (locs : List Loc) (ls : Array Slot), va_P D classes (mw M) H → va_D A (mw M) → va_S A s.heap H locs → lv_has ls 4 [(0, .ref a0), (1, .int a1)] → W p l e (rmw_mAl_grow1 MC MS) s m args below meth c H locs κ σ (MQ below (va_Qq Φ (fun u t => Po D cy A (mw u) t) A) args s MC MS A) (F0 m 0 ls [])
theorem hdq_7 : ({ cls := "jdk/internal/util/ArraysSupport", name := "newLength", desc := "(III)I" } : Jvm.MethodName).cls ≠ "java/lang/invoke/MethodHandle" ∧ ({ cls := "jdk/internal/util/ArraysSupport", name := "newLength", desc := "(III)I" } : Jvm.MethodName).cls ≠ "java/lang/invoke/VarHandle" ∧ (parseMethodDescriptor ({ cls := "jdk/internal/util/ArraysSupport", name := "newLength", desc := "(III)I" } : Jvm.MethodName).desc).map (fun d => d.parameters.length) = some 3 := by decide +kernel
theorem hdq_8 : ({ cls := "java/util/Arrays", name := "copyOf", desc := "([Ljava/lang/Object;I)[Ljava/lang/Object;" } : Jvm.MethodName).cls ≠ "java/lang/invoke/MethodHandle" ∧ ({ cls := "java/util/Arrays", name := "copyOf", desc := "([Ljava/lang/Object;I)[Ljava/lang/Object;" } : Jvm.MethodName).cls ≠ "java/lang/invoke/VarHandle" ∧ (parseMethodDescriptor ({ cls := "java/util/Arrays", name := "copyOf", desc := "([Ljava/lang/Object;I)[Ljava/lang/Object;" } : Jvm.MethodName).desc).map (fun d => d.parameters.length) = some 2 := by decide +kernel
set_option maxHeartbeats 8000000 in
set_option maxRecDepth 100000 in
theorem wv_mAl_grow1_20 {p : Program} {l : Launch} {e : Env} {s : State} {m : MethodId} {args : Array Value} {below : List Frame} {meth : Method} {c : Code} {D : va_G} {cy : Nat → ClassId} {A : Nat → Prop} {ad : Nat → Nat} {mi MC MS : Nat} {Φ : Option Nat → Mm → Prop} {fu : Nat} (F : FxM p s m args meth c b_Al_grow1 4 "java/util/ArrayList" "grow" (Option.some (Jvm.ClassFile.FieldType.array (Jvm.ClassFile.FieldType.object "java/lang/Object"))) D cy ad mi A) : Iw_mAl_grow1_20 p l e s m args below meth c D cy A ad mi MC MS Φ (xv_mAl_grow1_20 fu MC MS cy ad mi Φ) := by
  obtain ⟨⟨hx, hb, hr, hml, hown, hts, hlocks, hK, hA, hSt, hnm, hex⟩, hT, hMi⟩ := id F
  intro κ σ M x0 x1 x2 hf hkc hks H locs ls hP hD hS hl
  unfold xv_mAl_grow1_20 at hf
  refine lv_iload_n hx hb d_Al_grow1_20 rfl (lv_at hl 2 rfl) ?_
  refine lv_iload_n hx hb d_Al_grow1_21 rfl (lv_at hl 1 rfl) ?_
  refine lv_iload_n hx hb d_Al_grow1_22 rfl (lv_at hl 2 rfl) ?_
  refine lv_isub hx hb d_Al_grow1_23 ?_
  refine lv_topi (fun v1 ev => ?_)
  have hf := bnQ ev hf
  clear ev
  refine lv_iload_n hx hb d_Al_grow1_24 rfl (lv_at hl 2 rfl) ?_
  refine lv_iconst (v := 1) hx hb d_Al_grow1_25 (by decide) ?_
  refine lv_ishr hx hb d_Al_grow1_26 ?_
  refine lv_topi (fun v2 ev => ?_)
  have hf := bnQ ev hf
  clear ev
  obtain ⟨mc3, ms4, ⟨hc_, hd_⟩, hf⟩ := hf
  refine mm_ai (va_runS (As := [.int x2, .int v1, .int v2]) (rest := []) ⟨hx, hb, hml, hown, hts⟩ (cw_mAs_newLength l D cy ad mi fu mc3 ms4 x2 v1 v2 M _ hf H.size) ⟨q_cB hts gw_455 gw_14 gw_453 hdq_7 ⟨Nat.le_of_ble_eq_true rfl, Nat.le_of_ble_eq_true rfl⟩, hts _ gw_454⟩ (q_preM hP hD hK hSt hT hMi hS (m_free hD hS hA) _) rfl rfl hl.1 rfl (lv_room (Nat.le_of_ble_eq_true rfl)) d_Al_grow1_27 ⟨hc_, hd_⟩) hD hS hA (fun v6 M5 H locs hf hP hD hS => ?_)
  have hkc : κ + mc3 ≤ MC := hc_
  have hks : σ + ms4 ≤ MS := hd_
  clear hc_ hd_
  refine lv_istore_n (lv' := [(3, .int v6), (0, .ref x0), (1, .int x1), (2, .int x2)]) hx hb d_Al_grow1_30 rfl hl (by decide) rfl (fun ls hl => ?_)
  refine lv_aload_n hx hb d_Al_grow1_31 rfl (lv_at hl 1 rfl) ?_
  refine lv_aload_n hx hb d_Al_grow1_32 rfl (lv_at hl 1 rfl) ?_
  obtain ⟨fs_, hm_, r7, hv_, hf⟩ := hf
  obtain ⟨ix_, hi_⟩ := m_ix hm_
  refine va_get (D := D) (ci := 11) (v := va_rf r7) (C := "java/util/ArrayList") (T := F_11) (N := 3) hx hb hts i_11 hown hK hP ix_ hi_ rfl 0 (by decide) (hts _ gw_351) (fun _ h9 => h9) hv_ d_Al_grow1_33 ?_
  clear hv_ hi_ hm_
  obtain ⟨q8, rfl, hf⟩ := hf
  refine W.eq (g2 := F0 m 36 ls [.ref q8, .ref x0]) rfl ?_
  refine lv_iload_n hx hb d_Al_grow1_36 rfl (lv_at hl 0 rfl) ?_
  obtain ⟨mc9, ms10, ⟨hc_, hd_⟩, hf⟩ := hf
  refine m_aq (va_runS (As := [.ref q8, .int v6]) (rest := [.ref x0]) ⟨hx, hb, hml, hown, hts⟩ (cw_mAr_copyOf0 l D cy ad mi fu mc9 ms10 q8 v6 M5 _ hf H.size) ⟨q_cB hts gw_465 gw_16 gw_463 hdq_8 ⟨Nat.le_of_ble_eq_true rfl, Nat.le_of_ble_eq_true rfl⟩, hts _ gw_464⟩ (q_preM hP hD hK hSt hT hMi hS (m_free hD hS hA) _) rfl rfl hl.1 rfl (lv_room (Nat.le_of_ble_eq_true rfl)) d_Al_grow1_37 ⟨hc_, hd_⟩) hD hS hA (fun v12 M11 H locs hf hP hD hS => ?_)
  have hkc : κ + mc3 + mc9 ≤ MC := hc_
  have hks : σ + ms4 + ms10 ≤ MS := hd_
  clear hc_ hd_
  obtain ⟨q13, rfl, hf⟩ := hf
  refine W.eq (g2 := F0 m 40 ls [.ref q13, .ref x0]) rfl ?_
  refine lv_dup_x1 hx hb d_Al_grow1_40 rfl rfl ?_
  obtain ⟨fs_, hm_, hlen_, hf⟩ := hf
  obtain ⟨ix_, hi_⟩ := m_ix hm_
  have hE_ := m_set (y := .inr (11, fs_.set 0 (.ref q13))) hD hi_
  refine va_put (D := D) (ci := 11) (v := .ref q13) (ty := .array (.object "java/lang/Object")) (C := "java/util/ArrayList") (T := F_11) (N := 3) hx hb hts i_11 t_11 t_11_ok n_11 hown hK hP hD hS ix_ hi_ rfl 0 (by decide) (hts _ gw_351) (fun _ h9 => h9) rfl (by decide +kernel) rfl rfl hlen_ d_Al_grow1_41 (fun H locs hP hD hS => ?_)
  obtain ⟨M14, eM_⟩ : ∃ z, z = mu M11 x0 (.inr (11, fs_.set 0 (.ref q13))) := ⟨_, rfl⟩
  rw [← eM_] at hf hE_
  rw [hE_] at hP hD
  clear hE_ eM_ hi_ hm_
  refine W.widen (k := MC) (n := MS) hkc hks ?_
  exact m_ra hf rfl hx hb hr (Or.inr ⟨_, rfl⟩) hlocks hK hP hD hS d_Al_grow1_44
set_option maxHeartbeats 8000000 in
set_option maxRecDepth 100000 in
theorem wew_mAl_grow1 {p : Program} {l : Launch} {e : Env} {s : State} {m : MethodId} {args : Array Value} {below : List Frame} {meth : Method} {c : Code} {D : va_G} {cy : Nat → ClassId} {A : Nat → Prop} {ad : Nat → Nat} {mi MC MS : Nat} {Φ : Option Nat → Mm → Prop} {fu : Nat} (F : FxM p s m args meth c b_Al_grow1 4 "java/util/ArrayList" "grow" (Option.some (Jvm.ClassFile.FieldType.array (Jvm.ClassFile.FieldType.object "java/lang/Object"))) D cy ad mi A) : Iw_mAl_grow1_e p l e s m args below meth c D cy A ad mi MC MS Φ (xw_mAl_grow1 fu MC MS cy ad mi Φ) := by
  obtain ⟨⟨hx, hb, hr, hml, hown, hts, hlocks, hK, hA, hSt, hnm, hex⟩, hT, hMi⟩ := id F
  intro κ σ M a0 a1 hf hkc hks H locs ls hP hD hS hl
  unfold xw_mAl_grow1 at hf
  refine lv_aload_n hx hb d_Al_grow1_0 rfl (lv_at hl 0 rfl) ?_
  obtain ⟨fs_, hm_, r1, hv_, hf⟩ := hf
  obtain ⟨ix_, hi_⟩ := m_ix hm_
  refine va_get (D := D) (ci := 11) (v := va_rf r1) (C := "java/util/ArrayList") (T := F_11) (N := 3) hx hb hts i_11 hown hK hP ix_ hi_ rfl 0 (by decide) (hts _ gw_351) (fun _ h9 => h9) hv_ d_Al_grow1_1 ?_
  clear hv_ hi_ hm_
  obtain ⟨q2, rfl, hf⟩ := hf
  refine W.eq (g2 := F0 m 4 ls [.ref q2]) rfl ?_
  by_cases cx : q2 = ad 26
  · have hg_ := ifpP cx hf
    clear hf
    subst cx
    have hf := hg_
    clear hg_
    refine va_tlen (v := 0) hx hb (hSt.1 26 _ rfl).2 hS rfl d_Al_grow1_4 ?_
    refine lv_istore_n (lv' := [(2, .int (0 : Int32)), (0, .ref a0), (1, .int a1)]) hx hb d_Al_grow1_5 rfl hl (by decide) rfl (fun ls hl => ?_)
    refine lv_iload_n hx hb d_Al_grow1_6 rfl (lv_at hl 0 rfl) ?_
    refine lv_if_gt (tgt := 20) hx hb d_Al_grow1_7 (by decide) (fun cx => ?_) (fun cx => ?_)
    · have hf := ifpP cx hf
      exact wv_mAl_grow1_20 (fu := fu) F _ _ _ _ _ _ hf hkc hks _ _ _ hP hD hS (lv_sub hl [1, 2, 0] rfl)
    · have hf := ifnP cx hf
      refine lv_aload_n hx hb d_Al_grow1_10 rfl (lv_at hl 1 rfl) ?_
      obtain ⟨fs_, hm_, r3, hv_, hf⟩ := hf
      obtain ⟨ix_, hi_⟩ := m_ix hm_
      refine va_get (D := D) (ci := 11) (v := va_rf r3) (C := "java/util/ArrayList") (T := F_11) (N := 3) hx hb hts i_11 hown hK hP ix_ hi_ rfl 0 (by decide) (hts _ gw_351) (fun _ h9 => h9) hv_ d_Al_grow1_11 ?_
      clear hv_ hi_ hm_
      obtain ⟨q4, rfl, hf⟩ := hf
      refine W.eq (g2 := F0 m 14 ls [.ref q4]) rfl ?_
      refine va_gets hx hb (hSt.1 26 _ rfl).1 hS hown (hts _ gw_349) (fun _ h9 => h9) d_Al_grow1_14 ?_
      refine lv_acmp_eq (rx := (some q4)) (ry := (some (ad 26))) (tgt := 45) hx hb d_Al_grow1_17 (by decide) (fun cx => ?_) (fun cx => ?_)
      · have hf := ifpP cx hf
        refine lv_aload_n hx hb d_Al_grow1_45 rfl (lv_at hl 1 rfl) ?_
        refine lv_bipush (v := 10) hx hb d_Al_grow1_46 (by decide) ?_
        refine lv_iload_n hx hb d_Al_grow1_48 rfl (lv_at hl 2 rfl) ?_
        refine va_mmax (R := rmw_mAl_grow1 MC MS) (rest := [.ref a0]) hx hb (hml.trans hl.1.symm) hown (hts _ gw_498) (hts _ gw_457) (hts _ gw_15) (hts _ gw_458) (Nat.le_of_ble_eq_true rfl) (Nat.le_of_ble_eq_true rfl) hkc hks d_Al_grow1_49 ?_
        refine lv_topi (fun v5 ev => ?_)
        have hf := bnQ ev hf
        clear ev
        obtain ⟨⟨hn_, hby_⟩, hf⟩ := hf
        obtain ⟨⟨hkc, hks⟩, hf⟩ := hf
        refine q_newq hx hb hown (hts _ gw_499) (hSt.2.2.2.2 _ (List.mem_of_getElem? (i := 3) rfl)) hK hP hD hS hA 7 rfl hn_ rfl hby_ hkc hks d_Al_grow1_52 (fun w6 H hP hD hS => ?_)
        have hE_ := m_push (x := .inl (cy 7, v5.toNatClampNeg, .inr (.inr (.inr (.inr (fun _ => Option.none)))))) hD
        have hf := hf w6 (va_pl_fresh2 (X := []) (L := M.1) (f := M.2) hD) (ad_ne hSt hD)
        obtain ⟨M7, eM_⟩ : ∃ z, z = mp M w6 (.inl (cy 7, v5.toNatClampNeg, .inr (.inr (.inr (.inr (fun _ => Option.none)))))) := ⟨_, rfl⟩
        rw [← eM_] at hf hE_
        rw [hE_] at hP hD
        clear hE_ eM_
        refine lv_dup_x1 hx hb d_Al_grow1_55 rfl rfl ?_
        obtain ⟨fs_, hm_, hlen_, hf⟩ := hf
        obtain ⟨ix_, hi_⟩ := m_ix hm_
        have hE_ := m_set (y := .inr (11, fs_.set 0 (.ref w6))) hD hi_
        refine va_put (D := D) (ci := 11) (v := .ref w6) (ty := .array (.object "java/lang/Object")) (C := "java/util/ArrayList") (T := F_11) (N := 3) hx hb hts i_11 t_11 t_11_ok n_11 hown hK hP hD hS ix_ hi_ rfl 0 (by decide) (hts _ gw_351) (fun _ h9 => h9) rfl (by decide +kernel) rfl rfl hlen_ d_Al_grow1_56 (fun H locs hP hD hS => ?_)
        obtain ⟨M8, eM_⟩ : ∃ z, z = mu M7 a0 (.inr (11, fs_.set 0 (.ref w6))) := ⟨_, rfl⟩
        rw [← eM_] at hf hE_
        rw [hE_] at hP hD
        clear hE_ eM_ hi_ hm_
        refine W.widen (k := MC) (n := MS) hkc hks ?_
        exact m_ra hf rfl hx hb hr (Or.inr ⟨_, rfl⟩) hlocks hK hP hD hS d_Al_grow1_59
      · have hf := ifnP cx hf
        exact wv_mAl_grow1_20 (fu := fu) F _ _ _ _ _ _ hf hkc hks _ _ _ hP hD hS (lv_sub hl [1, 2, 0] rfl)
  · have hf := ifnP cx hf
    obtain ⟨x_, hm_, hf⟩ := hf
    obtain ⟨ix_, hi_⟩ := m_ix hm_
    refine va_alen hx hb hK hP ix_ 7 hi_ rfl rfl d_Al_grow1_4 ?_
    obtain ⟨v9, ev⟩ : ∃ z, z = Int32.ofNat x_.1 := ⟨_, rfl⟩
    first | rw [← ev] at hf ⊢ | rw [← ev]
    clear ev hi_ hm_
    refine lv_istore_n (lv' := [(2, .int v9), (0, .ref a0), (1, .int a1)]) hx hb d_Al_grow1_5 rfl hl (by decide) rfl (fun ls hl => ?_)
    refine lv_iload_n hx hb d_Al_grow1_6 rfl (lv_at hl 0 rfl) ?_
    refine lv_if_gt (tgt := 20) hx hb d_Al_grow1_7 (by decide) (fun cx => ?_) (fun cx => ?_)
    · have hf := ifpP cx hf
      exact wv_mAl_grow1_20 (fu := fu) F _ _ _ _ _ _ hf hkc hks _ _ _ hP hD hS (lv_sub hl [1, 2, 0] rfl)
    · have hf := ifnP cx hf
      refine lv_aload_n hx hb d_Al_grow1_10 rfl (lv_at hl 1 rfl) ?_
      obtain ⟨fs_, hm_, r10, hv_, hf⟩ := hf
      obtain ⟨ix_, hi_⟩ := m_ix hm_
      refine va_get (D := D) (ci := 11) (v := va_rf r10) (C := "java/util/ArrayList") (T := F_11) (N := 3) hx hb hts i_11 hown hK hP ix_ hi_ rfl 0 (by decide) (hts _ gw_351) (fun _ h9 => h9) hv_ d_Al_grow1_11 ?_
      clear hv_ hi_ hm_
      obtain ⟨q11, rfl, hf⟩ := hf
      refine W.eq (g2 := F0 m 14 ls [.ref q11]) rfl ?_
      refine va_gets hx hb (hSt.1 26 _ rfl).1 hS hown (hts _ gw_349) (fun _ h9 => h9) d_Al_grow1_14 ?_
      refine lv_acmp_eq (rx := (some q11)) (ry := (some (ad 26))) (tgt := 45) hx hb d_Al_grow1_17 (by decide) (fun cx => ?_) (fun cx => ?_)
      · have hf := ifpP cx hf
        refine lv_aload_n hx hb d_Al_grow1_45 rfl (lv_at hl 1 rfl) ?_
        refine lv_bipush (v := 10) hx hb d_Al_grow1_46 (by decide) ?_
        refine lv_iload_n hx hb d_Al_grow1_48 rfl (lv_at hl 2 rfl) ?_
        refine va_mmax (R := rmw_mAl_grow1 MC MS) (rest := [.ref a0]) hx hb (hml.trans hl.1.symm) hown (hts _ gw_498) (hts _ gw_457) (hts _ gw_15) (hts _ gw_458) (Nat.le_of_ble_eq_true rfl) (Nat.le_of_ble_eq_true rfl) hkc hks d_Al_grow1_49 ?_
        refine lv_topi (fun v12 ev => ?_)
        have hf := bnQ ev hf
        clear ev
        obtain ⟨⟨hn_, hby_⟩, hf⟩ := hf
        obtain ⟨⟨hkc, hks⟩, hf⟩ := hf
        refine q_newq hx hb hown (hts _ gw_499) (hSt.2.2.2.2 _ (List.mem_of_getElem? (i := 3) rfl)) hK hP hD hS hA 7 rfl hn_ rfl hby_ hkc hks d_Al_grow1_52 (fun w13 H hP hD hS => ?_)
        have hE_ := m_push (x := .inl (cy 7, v12.toNatClampNeg, .inr (.inr (.inr (.inr (fun _ => Option.none)))))) hD
        have hf := hf w13 (va_pl_fresh2 (X := []) (L := M.1) (f := M.2) hD) (ad_ne hSt hD)
        obtain ⟨M14, eM_⟩ : ∃ z, z = mp M w13 (.inl (cy 7, v12.toNatClampNeg, .inr (.inr (.inr (.inr (fun _ => Option.none)))))) := ⟨_, rfl⟩
        rw [← eM_] at hf hE_
        rw [hE_] at hP hD
        clear hE_ eM_
        refine lv_dup_x1 hx hb d_Al_grow1_55 rfl rfl ?_
        obtain ⟨fs_, hm_, hlen_, hf⟩ := hf
        obtain ⟨ix_, hi_⟩ := m_ix hm_
        have hE_ := m_set (y := .inr (11, fs_.set 0 (.ref w13))) hD hi_
        refine va_put (D := D) (ci := 11) (v := .ref w13) (ty := .array (.object "java/lang/Object")) (C := "java/util/ArrayList") (T := F_11) (N := 3) hx hb hts i_11 t_11 t_11_ok n_11 hown hK hP hD hS ix_ hi_ rfl 0 (by decide) (hts _ gw_351) (fun _ h9 => h9) rfl (by decide +kernel) rfl rfl hlen_ d_Al_grow1_56 (fun H locs hP hD hS => ?_)
        obtain ⟨M15, eM_⟩ : ∃ z, z = mu M14 a0 (.inr (11, fs_.set 0 (.ref w13))) := ⟨_, rfl⟩
        rw [← eM_] at hf hE_
        rw [hE_] at hP hD
        clear hE_ eM_ hi_ hm_
        refine W.widen (k := MC) (n := MS) hkc hks ?_
        exact m_ra hf rfl hx hb hr (Or.inr ⟨_, rfl⟩) hlocks hK hP hD hS d_Al_grow1_59
      · have hf := ifnP cx hf
        exact wv_mAl_grow1_20 (fu := fu) F _ _ _ _ _ _ hf hkc hks _ _ _ hP hD hS (lv_sub hl [1, 2, 0] rfl)
theorem cw_mAl_grow1 (l : Launch) (D : va_G) (cy : Nat → ClassId) (ad : Nat → Nat) (mi fu MC MS : Nat) (a0 : Nat) (a1 : Int32) (M : Mm) (Φ : Option Nat → Mm → Prop) (hf : xw_mAl_grow1 fu MC MS cy ad mi Φ 0 0 M a0 a1) (sz : Nat) : Met l ({ cls := "java/util/ArrayList", name := "grow", desc := "(I)[Ljava/lang/Object;" } : Jvm.MethodName) (.code ({ cls := "java/util/ArrayList", name := "grow", desc := "(I)[Ljava/lang/Object;" } : Jvm.MethodName) b_Al_grow1 4 (Option.some (Jvm.ClassFile.FieldType.array (Jvm.ClassFile.FieldType.object "java/lang/Object"))) :: gw) (rmw_mAl_grow1 MC MS) (va_Pc [.ref a0, .int a1] (PrM D cy ad mi (mw M) sz)) (va_Qq Φ (fun u t => Po D cy (va_A (mw M) sz) (mw u) t) (va_A (mw M) sz)) MC MS (va_A (mw M) sz) :=
  q_metM (Qc := fun A => va_Qq Φ (fun u t => Po D cy A (mw u) t) A) (by decide) rfl rfl (Nat.le_of_ble_eq_true rfl) (fun p e s m below meth c ls F hP hD hS hl => wew_mAl_grow1 (fu := fu) F 0 0 M a0 a1 hf (Nat.zero_le _) (Nat.zero_le _) _ _ _ hP hD hS hl) sz
abbrev rmw_mAl_grow0 (MC MS : Nat) : Room := { frames := 4, cells := MC, slots := MS, locals := 97 }
def Iw_mAl_grow0_e (p : Program) (l : Launch) (e : Env) (s : State) (m : MethodId) (args : Array Value) (below : List Frame) (meth : Method) (c : Code) (D : va_G) (cy : Nat → ClassId) (A : Nat → Prop) (ad : Nat → Nat) (mi MC MS : Nat) (Φ : Option Nat → Mm → Prop) (k : Nat → Nat → Mm → Nat → Prop) : Prop :=
  ∀ (κ σ : Nat) (M : Mm) (a0 : Nat), k κ σ M a0 → κ ≤ MC → σ ≤ MS → ∀ (H : Heap) (locs : List Loc) (ls : Array Slot), va_P D classes (mw M) H → va_D A (mw M) → va_S A s.heap H locs → lv_has ls 1 [(0, .ref a0)] → W p l e (rmw_mAl_grow0 MC MS) s m args below meth c H locs κ σ (MQ below (va_Qq Φ (fun u t => Po D cy A (mw u) t) A) args s MC MS A) (F0 m 0 ls [])
theorem hdq_9 : ({ cls := "java/util/ArrayList", name := "grow", desc := "(I)[Ljava/lang/Object;" } : Jvm.MethodName).cls ≠ "java/lang/invoke/MethodHandle" ∧ ({ cls := "java/util/ArrayList", name := "grow", desc := "(I)[Ljava/lang/Object;" } : Jvm.MethodName).cls ≠ "java/lang/invoke/VarHandle" ∧ (parseMethodDescriptor ({ cls := "java/util/ArrayList", name := "grow", desc := "(I)[Ljava/lang/Object;" } : Jvm.MethodName).desc).map (fun d => d.parameters.length) = some 1 := by decide +kernel
set_option maxHeartbeats 8000000 in
set_option maxRecDepth 100000 in
theorem wew_mAl_grow0 {p : Program} {l : Launch} {e : Env} {s : State} {m : MethodId} {args : Array Value} {below : List Frame} {meth : Method} {c : Code} {D : va_G} {cy : Nat → ClassId} {A : Nat → Prop} {ad : Nat → Nat} {mi MC MS : Nat} {Φ : Option Nat → Mm → Prop} {fu : Nat} (F : FxM p s m args meth c b_Al_grow0 1 "java/util/ArrayList" "grow" (Option.some (Jvm.ClassFile.FieldType.array (Jvm.ClassFile.FieldType.object "java/lang/Object"))) D cy ad mi A) : Iw_mAl_grow0_e p l e s m args below meth c D cy A ad mi MC MS Φ (xw_mAl_grow0 fu MC MS cy ad mi Φ) := by
  obtain ⟨⟨hx, hb, hr, hml, hown, hts, hlocks, hK, hA, hSt, hnm, hex⟩, hT, hMi⟩ := id F
  intro κ σ M a0 hf hkc hks H locs ls hP hD hS hl
  unfold xw_mAl_grow0 at hf
  refine lv_aload_n hx hb d_Al_grow0_0 rfl (lv_at hl 0 rfl) ?_
  refine lv_aload_n hx hb d_Al_grow0_1 rfl (lv_at hl 0 rfl) ?_
  obtain ⟨fs_, hm_, v1, hv_, hf⟩ := hf
  obtain ⟨ix_, hi_⟩ := m_ix hm_
  refine va_get (D := D) (ci := 11) (v := .int v1) (C := "java/util/ArrayList") (T := F_11) (N := 3) hx hb hts i_11 hown hK hP ix_ hi_ rfl 1 (by decide) (hts _ gw_352) (fun _ h9 => h9) hv_ d_Al_grow0_2 ?_
  clear hv_ hi_ hm_
  refine lv_iconst (v := 1) hx hb d_Al_grow0_5 (by decide) ?_
  refine lv_iadd hx hb d_Al_grow0_6 ?_
  refine lv_topi (fun v2 ev => ?_)
  have hf := bnQ ev hf
  clear ev
  obtain ⟨fs_, hm_, hf⟩ := hf
  obtain ⟨ix_, hi_⟩ := m_ix hm_
  obtain ⟨mc3, ms4, ⟨hc_, hd_⟩, hf⟩ := hf
  refine m_aq (va_runV (C := "java/util/ArrayList") (As := [.int v2]) (rest := []) ⟨hx, hb, hml, hown, hts⟩ (cw_mAl_grow1 l D cy ad mi fu mc3 ms4 a0 v2 M _ hf H.size) ⟨q_cB hts gw_452 gw_12 gw_449 hdq_9 ⟨Nat.le_of_ble_eq_true rfl, Nat.le_of_ble_eq_true rfl⟩, hts _ gw_451, hts _ gs_2⟩ (q_preVM (q_preM hP hD hK hSt hT hMi hS (m_free hD hS hA) _) (va_recv hK hP (ci := 11) (q0 := ix_) rfl hi_)) rfl rfl hl.1 rfl (lv_room (Nat.le_of_ble_eq_true rfl)) d_Al_grow0_7 ⟨hc_, hd_⟩) hD hS hA (fun v6 M5 H locs hf hP hD hS => ?_)
  have hkc : κ + mc3 ≤ MC := hc_
  have hks : σ + ms4 ≤ MS := hd_
  clear hc_ hd_
  obtain ⟨q7, rfl, hf⟩ := hf
  refine W.eq (g2 := F0 m 10 ls [.ref q7]) rfl ?_
  refine W.widen (k := MC) (n := MS) hkc hks ?_
  exact m_ra hf rfl hx hb hr (Or.inr ⟨_, rfl⟩) hlocks hK hP hD hS d_Al_grow0_10
theorem cw_mAl_grow0 (l : Launch) (D : va_G) (cy : Nat → ClassId) (ad : Nat → Nat) (mi fu MC MS : Nat) (a0 : Nat) (M : Mm) (Φ : Option Nat → Mm → Prop) (hf : xw_mAl_grow0 fu MC MS cy ad mi Φ 0 0 M a0) (sz : Nat) : Met l ({ cls := "java/util/ArrayList", name := "grow", desc := "()[Ljava/lang/Object;" } : Jvm.MethodName) (.code ({ cls := "java/util/ArrayList", name := "grow", desc := "()[Ljava/lang/Object;" } : Jvm.MethodName) b_Al_grow0 1 (Option.some (Jvm.ClassFile.FieldType.array (Jvm.ClassFile.FieldType.object "java/lang/Object"))) :: gw) (rmw_mAl_grow0 MC MS) (va_Pc [.ref a0] (PrM D cy ad mi (mw M) sz)) (va_Qq Φ (fun u t => Po D cy (va_A (mw M) sz) (mw u) t) (va_A (mw M) sz)) MC MS (va_A (mw M) sz) :=
  q_metM (Qc := fun A => va_Qq Φ (fun u t => Po D cy A (mw u) t) A) (by decide) rfl rfl (Nat.le_of_ble_eq_true rfl) (fun p e s m below meth c ls F hP hD hS hl => wew_mAl_grow0 (fu := fu) F 0 0 M a0 hf (Nat.zero_le _) (Nat.zero_le _) _ _ _ hP hD hS hl) sz
abbrev rmw_mAl_add1 (MC MS : Nat) : Room := { frames := 5, cells := MC, slots := MS, locals := 117 }
def Iw_mAl_add1_11 (p : Program) (l : Launch) (e : Env) (s : State) (m : MethodId) (args : Array Value) (below : List Frame) (meth : Method) (c : Code) (D : va_G) (cy : Nat → ClassId) (A : Nat → Prop) (ad : Nat → Nat) (mi MC MS : Nat) (Φ : Mm → Prop) (k : Nat → Nat → Mm → Nat → Nat → Nat → Int32 → Prop) : Prop :=
  ∀ (κ σ : Nat) (M : Mm) (x0 : Nat) (x1 : Nat) (x2 : Nat) (x3 : Int32), k κ σ M x0 x1 x2 x3 → κ ≤ MC → σ ≤ MS → ∀ (H : Heap) (locs : List Loc) (ls : Array Slot), va_P D classes (mw M) H → va_D A (mw M) → va_S A s.heap H locs → lv_has ls 4 [(0, .ref x0), (1, .ref x1), (2, .ref x2), (3, .int x3)] → W p l e (rmw_mAl_add1 MC MS) s m args below meth c H locs κ σ (MQ below (va_Qv Φ (fun u t => Po D cy A (mw u) t) A) args s MC MS A) (F0 m 11 ls [])
def Iw_mAl_add1_e (p : Program) (l : Launch) (e : Env) (s : State) (m : MethodId) (args : Array Value) (below : List Frame) (meth : Method) (c : Code) (D : va_G) (cy : Nat → ClassId) (A : Nat → Prop) (ad : Nat → Nat) (mi MC MS : Nat) (Φ : Mm → Prop) (k : Nat → Nat → Mm → Nat → Nat → Nat → Int32 → Prop) : Prop :=
  ∀ (κ σ : Nat) (M : Mm) (a0 : Nat) (a1 : Nat) (a2 : Nat) (a3 : Int32), k κ σ M a0 a1 a2 a3 → κ ≤ MC → σ ≤ MS → ∀ (H : Heap) (locs : List Loc) (ls : Array Slot), va_P D classes (mw M) H → va_D A (mw M) → va_S A s.heap H locs → lv_has ls 4 [(0, .ref a0), (1, .ref a1), (2, .ref a2), (3, .int a3)] → W p l e (rmw_mAl_add1 MC MS) s m args below meth c H locs κ σ (MQ below (va_Qv Φ (fun u t => Po D cy A (mw u) t) A) args s MC MS A) (F0 m 0 ls [])
set_option maxHeartbeats 8000000 in
set_option maxRecDepth 100000 in
theorem wv_mAl_add1_11 {p : Program} {l : Launch} {e : Env} {s : State} {m : MethodId} {args : Array Value} {below : List Frame} {meth : Method} {c : Code} {D : va_G} {cy : Nat → ClassId} {A : Nat → Prop} {ad : Nat → Nat} {mi MC MS : Nat} {Φ : Mm → Prop} {fu : Nat} (F : FxM p s m args meth c b_Al_add1 4 "java/util/ArrayList" "add" none D cy ad mi A) : Iw_mAl_add1_11 p l e s m args below meth c D cy A ad mi MC MS Φ (xv_mAl_add1_11 fu MC MS cy ad mi Φ) := by
  obtain ⟨⟨hx, hb, hr, hml, hown, hts, hlocks, hK, hA, hSt, hnm, hex⟩, hT, hMi⟩ := id F
  intro κ σ M x0 x1 x2 x3 hf hkc hks H locs ls hP hD hS hl
  unfold xv_mAl_add1_11 at hf
  refine lv_aload_n hx hb d_Al_add1_11 rfl (lv_at hl 2 rfl) ?_
  refine lv_iload_n hx hb d_Al_add1_12 rfl (lv_at hl 3 rfl) ?_
  refine lv_aload_n hx hb d_Al_add1_13 rfl (lv_at hl 1 rfl) ?_
  rcases hf with hf | hf
  · obtain ⟨gs_, hq_, hf⟩ := hf
    obtain ⟨jx_, hj_⟩ := m_ix hq_
    obtain ⟨n_, f_, hm_, hin_, hf⟩ := hf
    obtain ⟨ix_, hi_⟩ := m_ix hm_
    have hE_ := m_set (y := .inl (cy 7, n_, .inr (.inr (.inr (.inr (va_up f_ x3.toNatClampNeg (some x1))))))) hD hi_
    refine va_astqO hx hb hK hP hD hS ix_ 7 jx_ 1 hi_ rfl (hSt.2.1 _ (List.mem_of_getElem? (i := 35) rfl)) hj_ rfl (inb_in hin_) d_Al_add1_14 (fun H locs hP hD hS => ?_)
    obtain ⟨M2, eM_⟩ : ∃ z, z = mu M x2 (.inl (cy 7, n_, .inr (.inr (.inr (.inr (va_up f_ x3.toNatClampNeg (some x1))))))) := ⟨_, rfl⟩
    rw [← eM_] at hf hE_
    rw [hE_] at hP hD
    clear hE_ eM_ hi_ hm_
    clear hj_ hq_
    refine lv_aload_n hx hb d_Al_add1_15 rfl (lv_at hl 0 rfl) ?_
    refine lv_iload_n hx hb d_Al_add1_16 rfl (lv_at hl 3 rfl) ?_
    refine lv_iconst (v := 1) hx hb d_Al_add1_17 (by decide) ?_
    refine lv_iadd hx hb d_Al_add1_18 ?_
    refine lv_topi (fun v3 ev => ?_)
    have hf := bnQ ev hf
    clear ev
    obtain ⟨fs_, hm_, hlen_, hf⟩ := hf
    obtain ⟨ix_, hi_⟩ := m_ix hm_
    have hE_ := m_set (y := .inr (11, fs_.set 1 (.int v3))) hD hi_
    refine va_put (D := D) (ci := 11) (v := .int v3) (ty := .int) (C := "java/util/ArrayList") (T := F_11) (N := 3) hx hb hts i_11 t_11 t_11_ok n_11 hown hK hP hD hS ix_ hi_ rfl 1 (by decide) (hts _ gw_352) (fun _ h9 => h9) rfl (by decide +kernel) rfl rfl hlen_ d_Al_add1_19 (fun H locs hP hD hS => ?_)
    obtain ⟨M4, eM_⟩ : ∃ z, z = mu M2 x0 (.inr (11, fs_.set 1 (.int v3))) := ⟨_, rfl⟩
    rw [← eM_] at hf hE_
    rw [hE_] at hP hD
    clear hE_ eM_ hi_ hm_
    refine W.widen (k := MC) (n := MS) hkc hks ?_
    exact m_rv hf hx hb hr hlocks hK hP hD hS d_Al_add1_22
  · obtain ⟨gs_, hq_, hf⟩ := hf
    obtain ⟨jx_, hj_⟩ := m_ix hq_
    obtain ⟨n_, f_, hm_, hin_, hf⟩ := hf
    obtain ⟨ix_, hi_⟩ := m_ix hm_
    have hE_ := m_set (y := .inl (cy 7, n_, .inr (.inr (.inr (.inr (va_up f_ x3.toNatClampNeg (some x1))))))) hD hi_
    refine va_astqO hx hb hK hP hD hS ix_ 7 jx_ 2 hi_ rfl (hSt.2.1 _ (List.mem_of_getElem? (i := 37) rfl)) hj_ rfl (inb_in hin_) d_Al_add1_14 (fun H locs hP hD hS => ?_)
    obtain ⟨M5, eM_⟩ : ∃ z, z = mu M x2 (.inl (cy 7, n_, .inr (.inr (.inr (.inr (va_up f_ x3.toNatClampNeg (some x1))))))) := ⟨_, rfl⟩
    rw [← eM_] at hf hE_
    rw [hE_] at hP hD
    clear hE_ eM_ hi_ hm_
    clear hj_ hq_
    refine lv_aload_n hx hb d_Al_add1_15 rfl (lv_at hl 0 rfl) ?_
    refine lv_iload_n hx hb d_Al_add1_16 rfl (lv_at hl 3 rfl) ?_
    refine lv_iconst (v := 1) hx hb d_Al_add1_17 (by decide) ?_
    refine lv_iadd hx hb d_Al_add1_18 ?_
    refine lv_topi (fun v6 ev => ?_)
    have hf := bnQ ev hf
    clear ev
    obtain ⟨fs_, hm_, hlen_, hf⟩ := hf
    obtain ⟨ix_, hi_⟩ := m_ix hm_
    have hE_ := m_set (y := .inr (11, fs_.set 1 (.int v6))) hD hi_
    refine va_put (D := D) (ci := 11) (v := .int v6) (ty := .int) (C := "java/util/ArrayList") (T := F_11) (N := 3) hx hb hts i_11 t_11 t_11_ok n_11 hown hK hP hD hS ix_ hi_ rfl 1 (by decide) (hts _ gw_352) (fun _ h9 => h9) rfl (by decide +kernel) rfl rfl hlen_ d_Al_add1_19 (fun H locs hP hD hS => ?_)
    obtain ⟨M7, eM_⟩ : ∃ z, z = mu M5 x0 (.inr (11, fs_.set 1 (.int v6))) := ⟨_, rfl⟩
    rw [← eM_] at hf hE_
    rw [hE_] at hP hD
    clear hE_ eM_ hi_ hm_
    refine W.widen (k := MC) (n := MS) hkc hks ?_
    exact m_rv hf hx hb hr hlocks hK hP hD hS d_Al_add1_22
theorem hdq_10 : ({ cls := "java/util/ArrayList", name := "grow", desc := "()[Ljava/lang/Object;" } : Jvm.MethodName).cls ≠ "java/lang/invoke/MethodHandle" ∧ ({ cls := "java/util/ArrayList", name := "grow", desc := "()[Ljava/lang/Object;" } : Jvm.MethodName).cls ≠ "java/lang/invoke/VarHandle" ∧ (parseMethodDescriptor ({ cls := "java/util/ArrayList", name := "grow", desc := "()[Ljava/lang/Object;" } : Jvm.MethodName).desc).map (fun d => d.parameters.length) = some 0 := by decide +kernel
set_option maxHeartbeats 8000000 in
set_option maxRecDepth 100000 in
theorem wew_mAl_add1 {p : Program} {l : Launch} {e : Env} {s : State} {m : MethodId} {args : Array Value} {below : List Frame} {meth : Method} {c : Code} {D : va_G} {cy : Nat → ClassId} {A : Nat → Prop} {ad : Nat → Nat} {mi MC MS : Nat} {Φ : Mm → Prop} {fu : Nat} (F : FxM p s m args meth c b_Al_add1 4 "java/util/ArrayList" "add" none D cy ad mi A) : Iw_mAl_add1_e p l e s m args below meth c D cy A ad mi MC MS Φ (xw_mAl_add1 fu MC MS cy ad mi Φ) := by
  obtain ⟨⟨hx, hb, hr, hml, hown, hts, hlocks, hK, hA, hSt, hnm, hex⟩, hT, hMi⟩ := id F
  intro κ σ M a0 a1 a2 a3 hf hkc hks H locs ls hP hD hS hl
  unfold xw_mAl_add1 at hf
  refine lv_iload_n hx hb d_Al_add1_0 rfl (lv_at hl 3 rfl) ?_
  refine lv_aload_n hx hb d_Al_add1_1 rfl (lv_at hl 2 rfl) ?_
  by_cases cx : a2 = ad 26
  · have hg_ := ifpP cx hf
    clear hf
    subst cx
    have hf := hg_
    clear hg_
    refine va_tlen (v := 0) hx hb (hSt.1 26 _ rfl).2 hS rfl d_Al_add1_2 ?_
    refine lv_icmp_ne (tgt := 11) hx hb d_Al_add1_3 (by decide) (fun cx => ?_) (fun cx => ?_)
    · have hf := ifnP cx hf
      exact wv_mAl_add1_11 (fu := fu) F _ _ _ _ _ _ _ hf hkc hks _ _ _ hP hD hS (lv_sub hl [0, 1, 2, 3] rfl)
    · have hf := ifpP cx hf
      refine lv_aload_n hx hb d_Al_add1_6 rfl (lv_at hl 0 rfl) ?_
      obtain ⟨fs_, hm_, hf⟩ := hf
      obtain ⟨ix_, hi_⟩ := m_ix hm_
      obtain ⟨mc1, ms2, ⟨hc_, hd_⟩, hf⟩ := hf
      refine m_aq (va_runV (C := "java/util/ArrayList") (As := []) (rest := []) ⟨hx, hb, hml, hown, hts⟩ (cw_mAl_grow0 l D cy ad mi fu mc1 ms2 a0 M _ hf H.size) ⟨q_cB hts gw_448 gw_12 gw_445 hdq_10 ⟨Nat.le_of_ble_eq_true rfl, Nat.le_of_ble_eq_true rfl⟩, hts _ gw_447, hts _ gs_1⟩ (q_preVM (q_preM hP hD hK hSt hT hMi hS (m_free hD hS hA) _) (va_recv hK hP (ci := 11) (q0 := ix_) rfl hi_)) rfl rfl hl.1 rfl (lv_room (Nat.le_of_ble_eq_true rfl)) d_Al_add1_7 ⟨hc_, hd_⟩) hD hS hA (fun v4 M3 H locs hf hP hD hS => ?_)
      have hkc : κ + mc1 ≤ MC := hc_
      have hks : σ + ms2 ≤ MS := hd_
      clear hc_ hd_
      obtain ⟨q5, rfl, hf⟩ := hf
      refine W.eq (g2 := F0 m 10 ls [.ref q5]) rfl ?_
      refine lv_astore_n (lv' := [(2, .ref q5), (0, .ref a0), (1, .ref a1), (3, .int a3)]) hx hb d_Al_add1_10 rfl hl (by decide) rfl (fun ls hl => ?_)
      exact wv_mAl_add1_11 (fu := fu) F _ _ _ _ _ _ _ hf hkc hks _ _ _ hP hD hS (lv_sub hl [1, 2, 0, 3] rfl)
  · have hf := ifnP cx hf
    obtain ⟨x_, hm_, hf⟩ := hf
    obtain ⟨ix_, hi_⟩ := m_ix hm_
    refine va_alen hx hb hK hP ix_ 7 hi_ rfl rfl d_Al_add1_2 ?_
    obtain ⟨v6, ev⟩ : ∃ z, z = Int32.ofNat x_.1 := ⟨_, rfl⟩
    first | rw [← ev] at hf ⊢ | rw [← ev]
    clear ev hi_ hm_
    refine lv_icmp_ne (tgt := 11) hx hb d_Al_add1_3 (by decide) (fun cx => ?_) (fun cx => ?_)
    · have hf := ifnP cx hf
      exact wv_mAl_add1_11 (fu := fu) F _ _ _ _ _ _ _ hf hkc hks _ _ _ hP hD hS (lv_sub hl [0, 1, 2, 3] rfl)
    · have hf := ifpP cx hf
      refine lv_aload_n hx hb d_Al_add1_6 rfl (lv_at hl 0 rfl) ?_
      obtain ⟨fs_, hm_, hf⟩ := hf
      obtain ⟨ix_, hi_⟩ := m_ix hm_
      obtain ⟨mc7, ms8, ⟨hc_, hd_⟩, hf⟩ := hf
      refine m_aq (va_runV (C := "java/util/ArrayList") (As := []) (rest := []) ⟨hx, hb, hml, hown, hts⟩ (cw_mAl_grow0 l D cy ad mi fu mc7 ms8 a0 M _ hf H.size) ⟨q_cB hts gw_448 gw_12 gw_445 hdq_10 ⟨Nat.le_of_ble_eq_true rfl, Nat.le_of_ble_eq_true rfl⟩, hts _ gw_447, hts _ gs_1⟩ (q_preVM (q_preM hP hD hK hSt hT hMi hS (m_free hD hS hA) _) (va_recv hK hP (ci := 11) (q0 := ix_) rfl hi_)) rfl rfl hl.1 rfl (lv_room (Nat.le_of_ble_eq_true rfl)) d_Al_add1_7 ⟨hc_, hd_⟩) hD hS hA (fun v10 M9 H locs hf hP hD hS => ?_)
      have hkc : κ + mc7 ≤ MC := hc_
      have hks : σ + ms8 ≤ MS := hd_
      clear hc_ hd_
      obtain ⟨q11, rfl, hf⟩ := hf
      refine W.eq (g2 := F0 m 10 ls [.ref q11]) rfl ?_
      refine lv_astore_n (lv' := [(2, .ref q11), (0, .ref a0), (1, .ref a1), (3, .int a3)]) hx hb d_Al_add1_10 rfl hl (by decide) rfl (fun ls hl => ?_)
      exact wv_mAl_add1_11 (fu := fu) F _ _ _ _ _ _ _ hf hkc hks _ _ _ hP hD hS (lv_sub hl [1, 2, 0, 3] rfl)
theorem cw_mAl_add1 (l : Launch) (D : va_G) (cy : Nat → ClassId) (ad : Nat → Nat) (mi fu MC MS : Nat) (a0 : Nat) (a1 : Nat) (a2 : Nat) (a3 : Int32) (M : Mm) (Φ : Mm → Prop) (hf : xw_mAl_add1 fu MC MS cy ad mi Φ 0 0 M a0 a1 a2 a3) (sz : Nat) : Met l ({ cls := "java/util/ArrayList", name := "add", desc := "(Ljava/lang/Object;[Ljava/lang/Object;I)V" } : Jvm.MethodName) (.code ({ cls := "java/util/ArrayList", name := "add", desc := "(Ljava/lang/Object;[Ljava/lang/Object;I)V" } : Jvm.MethodName) b_Al_add1 4 none :: gw) (rmw_mAl_add1 MC MS) (va_Pc [.ref a0, .ref a1, .ref a2, .int a3] (PrM D cy ad mi (mw M) sz)) (va_Qv Φ (fun u t => Po D cy (va_A (mw M) sz) (mw u) t) (va_A (mw M) sz)) MC MS (va_A (mw M) sz) :=
  q_metM (Qc := fun A => va_Qv Φ (fun u t => Po D cy A (mw u) t) A) (by decide) rfl rfl (Nat.le_of_ble_eq_true rfl) (fun p e s m below meth c ls F hP hD hS hl => wew_mAl_add1 (fu := fu) F 0 0 M a0 a1 a2 a3 hf (Nat.zero_le _) (Nat.zero_le _) _ _ _ hP hD hS hl) sz
abbrev rmw_mAl_add0 (MC MS : Nat) : Room := { frames := 6, cells := MC, slots := MS, locals := 140 }
def Iw_mAl_add0_e (p : Program) (l : Launch) (e : Env) (s : State) (m : MethodId) (args : Array Value) (below : List Frame) (meth : Method) (c : Code) (D : va_G) (cy : Nat → ClassId) (A : Nat → Prop) (ad : Nat → Nat) (mi MC MS : Nat) (Φ : Int32 → Mm → Prop) (k : Nat → Nat → Mm → Nat → Nat → Prop) : Prop :=
  ∀ (κ σ : Nat) (M : Mm) (a0 : Nat) (a1 : Nat), k κ σ M a0 a1 → κ ≤ MC → σ ≤ MS → ∀ (H : Heap) (locs : List Loc) (ls : Array Slot), va_P D classes (mw M) H → va_D A (mw M) → va_S A s.heap H locs → lv_has ls 2 [(0, .ref a0), (1, .ref a1)] → W p l e (rmw_mAl_add0 MC MS) s m args below meth c H locs κ σ (MQ below (va_Qi Φ (fun u t => Po D cy A (mw u) t) A) args s MC MS A) (F0 m 0 ls [])
theorem hdq_11 : ({ cls := "java/util/ArrayList", name := "add", desc := "(Ljava/lang/Object;[Ljava/lang/Object;I)V" } : Jvm.MethodName).cls ≠ "java/lang/invoke/MethodHandle" ∧ ({ cls := "java/util/ArrayList", name := "add", desc := "(Ljava/lang/Object;[Ljava/lang/Object;I)V" } : Jvm.MethodName).cls ≠ "java/lang/invoke/VarHandle" ∧ (parseMethodDescriptor ({ cls := "java/util/ArrayList", name := "add", desc := "(Ljava/lang/Object;[Ljava/lang/Object;I)V" } : Jvm.MethodName).desc).map (fun d => d.parameters.length) = some 3 := by decide +kernel
set_option maxHeartbeats 8000000 in
set_option maxRecDepth 100000 in
theorem wew_mAl_add0 {p : Program} {l : Launch} {e : Env} {s : State} {m : MethodId} {args : Array Value} {below : List Frame} {meth : Method} {c : Code} {D : va_G} {cy : Nat → ClassId} {A : Nat → Prop} {ad : Nat → Nat} {mi MC MS : Nat} {Φ : Int32 → Mm → Prop} {fu : Nat} (F : FxM p s m args meth c b_Al_add0 2 "java/util/ArrayList" "add" (some .boolean) D cy ad mi A) : Iw_mAl_add0_e p l e s m args below meth c D cy A ad mi MC MS Φ (xw_mAl_add0 fu MC MS cy ad mi Φ) := by
  obtain ⟨⟨hx, hb, hr, hml, hown, hts, hlocks, hK, hA, hSt, hnm, hex⟩, hT, hMi⟩ := id F
  intro κ σ M a0 a1 hf hkc hks H locs ls hP hD hS hl
  unfold xw_mAl_add0 at hf
  refine lv_aload_n hx hb d_Al_add0_0 rfl (lv_at hl 0 rfl) ?_
  refine lv_dup hx hb d_Al_add0_1 rfl ?_
  obtain ⟨fs_, hm_, v1, hv_, hf⟩ := hf
  obtain ⟨ix_, hi_⟩ := m_ix hm_
  refine va_get (D := D) (ci := 11) (v := .int v1) (C := "java/util/ArrayList") (T := F_11) (N := 3) hx hb hts i_11 hown hK hP ix_ hi_ rfl 2 (by decide) (hts _ gw_354) (u_same (hts _ gw_355)) hv_ d_Al_add0_2 ?_
  clear hv_ hi_ hm_
  refine lv_iconst (v := 1) hx hb d_Al_add0_5 (by decide) ?_
  refine lv_iadd hx hb d_Al_add0_6 ?_
  refine lv_topi (fun v2 ev => ?_)
  have hf := bnQ ev hf
  clear ev
  obtain ⟨fs_, hm_, hlen_, hf⟩ := hf
  obtain ⟨ix_, hi_⟩ := m_ix hm_
  have hE_ := m_set (y := .inr (11, fs_.set 2 (.int v2))) hD hi_
  refine va_put (D := D) (ci := 11) (v := .int v2) (ty := .int) (C := "java/util/ArrayList") (T := F_11) (N := 3) hx hb hts i_11 t_11 t_11_ok n_11 hown hK hP hD hS ix_ hi_ rfl 2 (by decide) (hts _ gw_354) (u_same (hts _ gw_355)) rfl (by decide +kernel) rfl rfl hlen_ d_Al_add0_7 (fun H locs hP hD hS => ?_)
  obtain ⟨M3, eM_⟩ : ∃ z, z = mu M a0 (.inr (11, fs_.set 2 (.int v2))) := ⟨_, rfl⟩
  rw [← eM_] at hf hE_
  rw [hE_] at hP hD
  clear hE_ eM_ hi_ hm_
  refine lv_aload_n hx hb d_Al_add0_10 rfl (lv_at hl 0 rfl) ?_
  refine lv_aload_n hx hb d_Al_add0_11 rfl (lv_at hl 1 rfl) ?_
  refine lv_aload_n hx hb d_Al_add0_12 rfl (lv_at hl 0 rfl) ?_
  obtain ⟨fs_, hm_, r4, hv_, hf⟩ := hf
  obtain ⟨ix_, hi_⟩ := m_ix hm_
  refine va_get (D := D) (ci := 11) (v := va_rf r4) (C := "java/util/ArrayList") (T := F_11) (N := 3) hx hb hts i_11 hown hK hP ix_ hi_ rfl 0 (by decide) (hts _ gw_351) (fun _ h9 => h9) hv_ d_Al_add0_13 ?_
  clear hv_ hi_ hm_
  obtain ⟨q5, rfl, hf⟩ := hf
  refine W.eq (g2 := F0 m 16 ls [.ref q5, .ref a1, .ref a0]) rfl ?_
  refine lv_aload_n hx hb d_Al_add0_16 rfl (lv_at hl 0 rfl) ?_
  obtain ⟨fs_, hm_, v6, hv_, hf⟩ := hf
  obtain ⟨ix_, hi_⟩ := m_ix hm_
  refine va_get (D := D) (ci := 11) (v := .int v6) (C := "java/util/ArrayList") (T := F_11) (N := 3) hx hb hts i_11 hown hK hP ix_ hi_ rfl 1 (by decide) (hts _ gw_352) (fun _ h9 => h9) hv_ d_Al_add0_17 ?_
  clear hv_ hi_ hm_
  obtain ⟨fs_, hm_, hf⟩ := hf
  obtain ⟨ix_, hi_⟩ := m_ix hm_
  obtain ⟨mc7, ms8, ⟨hc_, hd_⟩, hf⟩ := hf
  refine m_av (va_runV (C := "java/util/ArrayList") (As := [.ref a1, .ref q5, .int v6]) (rest := []) ⟨hx, hb, hml, hown, hts⟩ (cw_mAl_add1 l D cy ad mi fu mc7 ms8 a0 a1 q5 v6 M3 _ hf H.size) ⟨q_cB hts gw_444 gw_12 gw_441 hdq_11 ⟨Nat.le_of_ble_eq_true rfl, Nat.le_of_ble_eq_true rfl⟩, hts _ gw_443, hts _ gs_0⟩ (q_preVM (q_preM hP hD hK hSt hT hMi hS (m_free hD hS hA) _) (va_recv hK hP (ci := 11) (q0 := ix_) rfl hi_)) rfl rfl hl.1 rfl (lv_room (Nat.le_of_ble_eq_true rfl)) d_Al_add0_20 ⟨hc_, hd_⟩) hD hS hA (fun M9 H locs hf hP hD hS => ?_)
  have hkc : κ + mc7 ≤ MC := hc_
  have hks : σ + ms8 ≤ MS := hd_
  clear hc_ hd_
  refine lv_iconst (v := 1) hx hb d_Al_add0_23 (by decide) ?_
  refine W.widen (k := MC) (n := MS) hkc hks ?_
  exact m_rz hf hx hb hr hlocks hK hP hD hS (isb_n (v := 1) (by decide)) d_Al_add0_24
theorem cw_mAl_add0 (l : Launch) (D : va_G) (cy : Nat → ClassId) (ad : Nat → Nat) (mi fu MC MS : Nat) (a0 : Nat) (a1 : Nat) (M : Mm) (Φ : Int32 → Mm → Prop) (hf : xw_mAl_add0 fu MC MS cy ad mi Φ 0 0 M a0 a1) (sz : Nat) : Met l ({ cls := "java/util/ArrayList", name := "add", desc := "(Ljava/lang/Object;)Z" } : Jvm.MethodName) (.code ({ cls := "java/util/ArrayList", name := "add", desc := "(Ljava/lang/Object;)Z" } : Jvm.MethodName) b_Al_add0 2 (some .boolean) :: gw) (rmw_mAl_add0 MC MS) (va_Pc [.ref a0, .ref a1] (PrM D cy ad mi (mw M) sz)) (va_Qi Φ (fun u t => Po D cy (va_A (mw M) sz) (mw u) t) (va_A (mw M) sz)) MC MS (va_A (mw M) sz) :=
  q_metM (Qc := fun A => va_Qi Φ (fun u t => Po D cy A (mw u) t) A) (by decide) rfl rfl (Nat.le_of_ble_eq_true rfl) (fun p e s m below meth c ls F hP hD hS hl => wew_mAl_add0 (fu := fu) F 0 0 M a0 a1 hf (Nat.zero_le _) (Nat.zero_le _) _ _ _ hP hD hS hl) sz
abbrev b_Al_set : ByteArray := prog_28_method_23_code
theorem d_Al_set_0 : decode b_Al_set 0 = .ok (.iload_n 1, 1) := by decide +kernel
theorem d_Al_set_1 : decode b_Al_set 1 = .ok (.aload_n 0, 1) := by decide +kernel
theorem d_Al_set_2 : decode b_Al_set 2 = .ok (.getfield 48, 3) := by decide +kernel
theorem d_Al_set_5 : decode b_Al_set 5 = .ok (.invokestatic 118, 3) := by decide +kernel
theorem d_Al_set_8 : decode b_Al_set 8 = .ok (.pop, 1) := by decide +kernel
theorem d_Al_set_9 : decode b_Al_set 9 = .ok (.aload_n 0, 1) := by decide +kernel
theorem d_Al_set_10 : decode b_Al_set 10 = .ok (.iload_n 1, 1) := by decide +kernel
theorem d_Al_set_11 : decode b_Al_set 11 = .ok (.invokevirtual 123, 3) := by decide +kernel
theorem d_Al_set_14 : decode b_Al_set 14 = .ok (.astore_n 3, 1) := by decide +kernel
theorem d_Al_set_15 : decode b_Al_set 15 = .ok (.aload_n 0, 1) := by decide +kernel
theorem d_Al_set_16 : decode b_Al_set 16 = .ok (.getfield 9, 3) := by decide +kernel
theorem d_Al_set_19 : decode b_Al_set 19 = .ok (.iload_n 1, 1) := by decide +kernel
theorem d_Al_set_20 : decode b_Al_set 20 = .ok (.aload_n 2, 1) := by decide +kernel
theorem d_Al_set_21 : decode b_Al_set 21 = .ok (.aastore, 1) := by decide +kernel
theorem d_Al_set_22 : decode b_Al_set 22 = .ok (.aload_n 3, 1) := by decide +kernel
theorem d_Al_set_23 : decode b_Al_set 23 = .ok (.areturn, 1) := by decide +kernel
abbrev rmw_mAl_set (MC MS : Nat) : Room := { frames := 2, cells := MC, slots := MS, locals := 43 }
def Iw_mAl_set_e (p : Program) (l : Launch) (e : Env) (s : State) (m : MethodId) (args : Array Value) (below : List Frame) (meth : Method) (c : Code) (D : va_G) (cy : Nat → ClassId) (A : Nat → Prop) (ad : Nat → Nat) (mi MC MS : Nat) (Φ : Option Nat → Mm → Prop) (k : Nat → Nat → Mm → Nat → Int32 → Nat → Prop) : Prop :=
  ∀ (κ σ : Nat) (M : Mm) (a0 : Nat) (a1 : Int32) (a2 : Nat), k κ σ M a0 a1 a2 → κ ≤ MC → σ ≤ MS → ∀ (H : Heap) (locs : List Loc) (ls : Array Slot), va_P D classes (mw M) H → va_D A (mw M) → va_S A s.heap H locs → lv_has ls 4 [(0, .ref a0), (1, .int a1), (2, .ref a2)] → W p l e (rmw_mAl_set MC MS) s m args below meth c H locs κ σ (MQ below (va_Qq Φ (fun u t => Po D cy A (mw u) t) A) args s MC MS A) (F0 m 0 ls [])
set_option maxHeartbeats 8000000 in
set_option maxRecDepth 100000 in
theorem wew_mAl_set {p : Program} {l : Launch} {e : Env} {s : State} {m : MethodId} {args : Array Value} {below : List Frame} {meth : Method} {c : Code} {D : va_G} {cy : Nat → ClassId} {A : Nat → Prop} {ad : Nat → Nat} {mi MC MS : Nat} {Φ : Option Nat → Mm → Prop} {fu : Nat} (F : FxM p s m args meth c b_Al_set 4 "java/util/ArrayList" "set" (Option.some (Jvm.ClassFile.FieldType.object "java/lang/Object")) D cy ad mi A) : Iw_mAl_set_e p l e s m args below meth c D cy A ad mi MC MS Φ (xw_mAl_set fu MC MS cy ad mi Φ) := by
  obtain ⟨⟨hx, hb, hr, hml, hown, hts, hlocks, hK, hA, hSt, hnm, hex⟩, hT, hMi⟩ := id F
  intro κ σ M a0 a1 a2 hf hkc hks H locs ls hP hD hS hl
  unfold xw_mAl_set at hf
  refine lv_iload_n hx hb d_Al_set_0 rfl (lv_at hl 1 rfl) ?_
  refine lv_aload_n hx hb d_Al_set_1 rfl (lv_at hl 0 rfl) ?_
  obtain ⟨fs_, hm_, v1, hv_, hf⟩ := hf
  obtain ⟨ix_, hi_⟩ := m_ix hm_
  refine va_get (D := D) (ci := 11) (v := .int v1) (C := "java/util/ArrayList") (T := F_11) (N := 3) hx hb hts i_11 hown hK hP ix_ hi_ rfl 1 (by decide) (hts _ gw_352) (fun _ h9 => h9) hv_ d_Al_set_2 ?_
  clear hv_ hi_ hm_
  obtain ⟨mc2, ms3, ⟨hc_, hd_⟩, hf⟩ := hf
  refine mm_ai (va_runS (As := [.int a1, .int v1]) (rest := []) ⟨hx, hb, hml, hown, hts⟩ (cw_mOb_checkIndex l D cy ad mi fu mc2 ms3 a1 v1 M _ hf H.size) ⟨q_cB hts gw_558 gw_25 gw_556 hdq_3 ⟨Nat.le_of_ble_eq_true rfl, Nat.le_of_ble_eq_true rfl⟩, hts _ gw_557⟩ (q_preM hP hD hK hSt hT hMi hS (m_free hD hS hA) _) rfl rfl hl.1 rfl (lv_room (Nat.le_of_ble_eq_true rfl)) d_Al_set_5 ⟨hc_, hd_⟩) hD hS hA (fun v5 M4 H locs hf hP hD hS => ?_)
  have hkc : κ + mc2 ≤ MC := hc_
  have hks : σ + ms3 ≤ MS := hd_
  clear hc_ hd_
  refine lv_pop hx hb d_Al_set_8 rfl ?_
  refine lv_aload_n hx hb d_Al_set_9 rfl (lv_at hl 0 rfl) ?_
  refine lv_iload_n hx hb d_Al_set_10 rfl (lv_at hl 1 rfl) ?_
  obtain ⟨fs_, hm_, hf⟩ := hf
  obtain ⟨ix_, hi_⟩ := m_ix hm_
  obtain ⟨mc6, ms7, ⟨hc_, hd_⟩, hf⟩ := hf
  refine m_aq (va_runV (C := "java/util/ArrayList") (As := [.int a1]) (rest := []) ⟨hx, hb, hml, hown, hts⟩ (cw_mAl_elementData l D cy ad mi fu mc6 ms7 a0 a1 M4 _ hf H.size) ⟨q_cB hts gw_565 gw_12 gw_562 hdq_4 ⟨Nat.le_of_ble_eq_true rfl, Nat.le_of_ble_eq_true rfl⟩, hts _ gw_563, hts _ gw_564⟩ (q_preVM (q_preM hP hD hK hSt hT hMi hS (m_free hD hS hA) _) (va_recv hK hP (ci := 11) (q0 := ix_) rfl hi_)) rfl rfl hl.1 rfl (lv_room (Nat.le_of_ble_eq_true rfl)) d_Al_set_11 ⟨hc_, hd_⟩) hD hS hA (fun v9 M8 H locs hf hP hD hS => ?_)
  have hkc : κ + mc2 + mc6 ≤ MC := hc_
  have hks : σ + ms3 + ms7 ≤ MS := hd_
  clear hc_ hd_
  obtain ⟨q10, rfl, hf⟩ := hf
  refine W.eq (g2 := F0 m 14 ls [.ref q10]) rfl ?_
  refine lv_astore_n (lv' := [(3, .ref q10), (0, .ref a0), (1, .int a1), (2, .ref a2)]) hx hb d_Al_set_14 rfl hl (by decide) rfl (fun ls hl => ?_)
  refine lv_aload_n hx hb d_Al_set_15 rfl (lv_at hl 1 rfl) ?_
  obtain ⟨fs_, hm_, r11, hv_, hf⟩ := hf
  obtain ⟨ix_, hi_⟩ := m_ix hm_
  refine va_get (D := D) (ci := 11) (v := va_rf r11) (C := "java/util/ArrayList") (T := F_11) (N := 3) hx hb hts i_11 hown hK hP ix_ hi_ rfl 0 (by decide) (hts _ gw_351) (fun _ h9 => h9) hv_ d_Al_set_16 ?_
  clear hv_ hi_ hm_
  obtain ⟨q12, rfl, hf⟩ := hf
  refine W.eq (g2 := F0 m 19 ls [.ref q12]) rfl ?_
  refine lv_iload_n hx hb d_Al_set_19 rfl (lv_at hl 2 rfl) ?_
  refine lv_aload_n hx hb d_Al_set_20 rfl (lv_at hl 3 rfl) ?_
  rcases hf with hf | hf
  · obtain ⟨gs_, hq_, hf⟩ := hf
    obtain ⟨jx_, hj_⟩ := m_ix hq_
    obtain ⟨n_, f_, hm_, hin_, hf⟩ := hf
    obtain ⟨ix_, hi_⟩ := m_ix hm_
    have hE_ := m_set (y := .inl (cy 7, n_, .inr (.inr (.inr (.inr (va_up f_ a1.toNatClampNeg (some a2))))))) hD hi_
    refine va_astqO hx hb hK hP hD hS ix_ 7 jx_ 1 hi_ rfl (hSt.2.1 _ (List.mem_of_getElem? (i := 35) rfl)) hj_ rfl (inb_in hin_) d_Al_set_21 (fun H locs hP hD hS => ?_)
    obtain ⟨M14, eM_⟩ : ∃ z, z = mu M8 q12 (.inl (cy 7, n_, .inr (.inr (.inr (.inr (va_up f_ a1.toNatClampNeg (some a2))))))) := ⟨_, rfl⟩
    rw [← eM_] at hf hE_
    rw [hE_] at hP hD
    clear hE_ eM_ hi_ hm_
    clear hj_ hq_
    refine lv_aload_n hx hb d_Al_set_22 rfl (lv_at hl 0 rfl) ?_
    refine W.widen (k := MC) (n := MS) hkc hks ?_
    exact m_ra hf rfl hx hb hr (Or.inl ⟨_, rfl⟩) hlocks hK hP hD hS d_Al_set_23
  · obtain ⟨gs_, hq_, hf⟩ := hf
    obtain ⟨jx_, hj_⟩ := m_ix hq_
    obtain ⟨n_, f_, hm_, hin_, hf⟩ := hf
    obtain ⟨ix_, hi_⟩ := m_ix hm_
    have hE_ := m_set (y := .inl (cy 7, n_, .inr (.inr (.inr (.inr (va_up f_ a1.toNatClampNeg (some a2))))))) hD hi_
    refine va_astqO hx hb hK hP hD hS ix_ 7 jx_ 2 hi_ rfl (hSt.2.1 _ (List.mem_of_getElem? (i := 37) rfl)) hj_ rfl (inb_in hin_) d_Al_set_21 (fun H locs hP hD hS => ?_)
    obtain ⟨M15, eM_⟩ : ∃ z, z = mu M8 q12 (.inl (cy 7, n_, .inr (.inr (.inr (.inr (va_up f_ a1.toNatClampNeg (some a2))))))) := ⟨_, rfl⟩
    rw [← eM_] at hf hE_
    rw [hE_] at hP hD
    clear hE_ eM_ hi_ hm_
    clear hj_ hq_
    refine lv_aload_n hx hb d_Al_set_22 rfl (lv_at hl 0 rfl) ?_
    refine W.widen (k := MC) (n := MS) hkc hks ?_
    exact m_ra hf rfl hx hb hr (Or.inl ⟨_, rfl⟩) hlocks hK hP hD hS d_Al_set_23
theorem cw_mAl_set (l : Launch) (D : va_G) (cy : Nat → ClassId) (ad : Nat → Nat) (mi fu MC MS : Nat) (a0 : Nat) (a1 : Int32) (a2 : Nat) (M : Mm) (Φ : Option Nat → Mm → Prop) (hf : xw_mAl_set fu MC MS cy ad mi Φ 0 0 M a0 a1 a2) (sz : Nat) : Met l ({ cls := "java/util/ArrayList", name := "set", desc := "(ILjava/lang/Object;)Ljava/lang/Object;" } : Jvm.MethodName) (.code ({ cls := "java/util/ArrayList", name := "set", desc := "(ILjava/lang/Object;)Ljava/lang/Object;" } : Jvm.MethodName) b_Al_set 4 (Option.some (Jvm.ClassFile.FieldType.object "java/lang/Object")) :: gw) (rmw_mAl_set MC MS) (va_Pc [.ref a0, .int a1, .ref a2] (PrM D cy ad mi (mw M) sz)) (va_Qq Φ (fun u t => Po D cy (va_A (mw M) sz) (mw u) t) (va_A (mw M) sz)) MC MS (va_A (mw M) sz) :=
  q_metM (Qc := fun A => va_Qq Φ (fun u t => Po D cy A (mw u) t) A) (by decide) rfl rfl (Nat.le_of_ble_eq_true rfl) (fun p e s m below meth c ls F hP hD hS hl => wew_mAl_set (fu := fu) F 0 0 M a0 a1 a2 hf (Nat.zero_le _) (Nat.zero_le _) _ _ _ hP hD hS hl) sz
abbrev b_Al_fastRemove : ByteArray := prog_28_method_39_code
theorem d_Al_fastRemove_0 : decode b_Al_fastRemove 0 = .ok (.aload_n 0, 1) := by decide +kernel
theorem d_Al_fastRemove_1 : decode b_Al_fastRemove 1 = .ok (.dup, 1) := by decide +kernel
theorem d_Al_fastRemove_2 : decode b_Al_fastRemove 2 = .ok (.getfield 63, 3) := by decide +kernel
theorem d_Al_fastRemove_5 : decode b_Al_fastRemove 5 = .ok (.iconst 1, 1) := by decide +kernel
theorem d_Al_fastRemove_6 : decode b_Al_fastRemove 6 = .ok (.iadd, 1) := by decide +kernel
theorem d_Al_fastRemove_7 : decode b_Al_fastRemove 7 = .ok (.putfield 63, 3) := by decide +kernel
theorem d_Al_fastRemove_10 : decode b_Al_fastRemove 10 = .ok (.aload_n 0, 1) := by decide +kernel
theorem d_Al_fastRemove_11 : decode b_Al_fastRemove 11 = .ok (.getfield 48, 3) := by decide +kernel
theorem d_Al_fastRemove_14 : decode b_Al_fastRemove 14 = .ok (.iconst 1, 1) := by decide +kernel
theorem d_Al_fastRemove_15 : decode b_Al_fastRemove 15 = .ok (.isub, 1) := by decide +kernel
theorem d_Al_fastRemove_16 : decode b_Al_fastRemove 16 = .ok (.dup, 1) := by decide +kernel
theorem d_Al_fastRemove_17 : decode b_Al_fastRemove 17 = .ok (.istore_n 3, 1) := by decide +kernel
theorem d_Al_fastRemove_18 : decode b_Al_fastRemove 18 = .ok (.iload_n 2, 1) := by decide +kernel
theorem d_Al_fastRemove_19 : decode b_Al_fastRemove 19 = .ok (.if_icmp .le 15, 3) := by decide +kernel
theorem d_Al_fastRemove_22 : decode b_Al_fastRemove 22 = .ok (.aload_n 1, 1) := by decide +kernel
theorem d_Al_fastRemove_23 : decode b_Al_fastRemove 23 = .ok (.iload_n 2, 1) := by decide +kernel
theorem d_Al_fastRemove_24 : decode b_Al_fastRemove 24 = .ok (.iconst 1, 1) := by decide +kernel
theorem d_Al_fastRemove_25 : decode b_Al_fastRemove 25 = .ok (.iadd, 1) := by decide +kernel
theorem d_Al_fastRemove_26 : decode b_Al_fastRemove 26 = .ok (.aload_n 1, 1) := by decide +kernel
theorem d_Al_fastRemove_27 : decode b_Al_fastRemove 27 = .ok (.iload_n 2, 1) := by decide +kernel
theorem d_Al_fastRemove_28 : decode b_Al_fastRemove 28 = .ok (.iload_n 3, 1) := by decide +kernel
theorem d_Al_fastRemove_29 : decode b_Al_fastRemove 29 = .ok (.iload_n 2, 1) := by decide +kernel
theorem d_Al_fastRemove_30 : decode b_Al_fastRemove 30 = .ok (.isub, 1) := by decide +kernel
theorem d_Al_fastRemove_31 : decode b_Al_fastRemove 31 = .ok (.invokestatic 112, 3) := by decide +kernel
theorem d_Al_fastRemove_34 : decode b_Al_fastRemove 34 = .ok (.aload_n 1, 1) := by decide +kernel
theorem d_Al_fastRemove_35 : decode b_Al_fastRemove 35 = .ok (.aload_n 0, 1) := by decide +kernel
theorem d_Al_fastRemove_36 : decode b_Al_fastRemove 36 = .ok (.iload_n 3, 1) := by decide +kernel
theorem d_Al_fastRemove_37 : decode b_Al_fastRemove 37 = .ok (.dup_x1, 1) := by decide +kernel
theorem d_Al_fastRemove_38 : decode b_Al_fastRemove 38 = .ok (.putfield 48, 3) := by decide +kernel
theorem d_Al_fastRemove_41 : decode b_Al_fastRemove 41 = .ok (.aconst_null, 1) := by decide +kernel
theorem d_Al_fastRemove_42 : decode b_Al_fastRemove 42 = .ok (.aastore, 1) := by decide +kernel
theorem d_Al_fastRemove_43 : decode b_Al_fastRemove 43 = .ok (.return_, 1) := by decide +kernel
abbrev rmw_mAl_fastRemove (MC MS : Nat) : Room := { frames := 1, cells := MC, slots := MS, locals := 30 }
def Iw_mAl_fastRemove_34 (p : Program) (l : Launch) (e : Env) (s : State) (m : MethodId) (args : Array Value) (below : List Frame) (meth : Method) (c : Code) (D : va_G) (cy : Nat → ClassId) (A : Nat → Prop) (ad : Nat → Nat) (mi MC MS : Nat) (Φ : Mm → Prop) (k : Nat → Nat → Mm → Nat → Nat → Int32 → Prop) : Prop :=
  ∀ (κ σ : Nat) (M : Mm) (x0 : Nat) (x1 : Nat) (x3 : Int32), k κ σ M x0 x1 x3 → κ ≤ MC → σ ≤ MS → ∀ (H : Heap) (locs : List Loc) (ls : Array Slot), va_P D classes (mw M) H → va_D A (mw M) → va_S A s.heap H locs → lv_has ls 4 [(0, .ref x0), (1, .ref x1), (3, .int x3)] → W p l e (rmw_mAl_fastRemove MC MS) s m args below meth c H locs κ σ (MQ below (va_Qv Φ (fun u t => Po D cy A (mw u) t) A) args s MC MS A) (F0 m 34 ls [])
def Iw_mAl_fastRemove_e (p : Program) (l : Launch) (e : Env) (s : State) (m : MethodId) (args : Array Value) (below : List Frame) (meth : Method) (c : Code) (D : va_G) (cy : Nat → ClassId) (A : Nat → Prop) (ad : Nat → Nat) (mi MC MS : Nat) (Φ : Mm → Prop) (k : Nat → Nat → Mm → Nat → Nat → Int32 → Prop) : Prop :=
  ∀ (κ σ : Nat) (M : Mm) (a0 : Nat) (a1 : Nat) (a2 : Int32), k κ σ M a0 a1 a2 → κ ≤ MC → σ ≤ MS → ∀ (H : Heap) (locs : List Loc) (ls : Array Slot), va_P D classes (mw M) H → va_D A (mw M) → va_S A s.heap H locs → lv_has ls 4 [(0, .ref a0), (1, .ref a1), (2, .int a2)] → W p l e (rmw_mAl_fastRemove MC MS) s m args below meth c H locs κ σ (MQ below (va_Qv Φ (fun u t => Po D cy A (mw u) t) A) args s MC MS A) (F0 m 0 ls [])
set_option maxHeartbeats 8000000 in
set_option maxRecDepth 100000 in
theorem wv_mAl_fastRemove_34 {p : Program} {l : Launch} {e : Env} {s : State} {m : MethodId} {args : Array Value} {below : List Frame} {meth : Method} {c : Code} {D : va_G} {cy : Nat → ClassId} {A : Nat → Prop} {ad : Nat → Nat} {mi MC MS : Nat} {Φ : Mm → Prop} {fu : Nat} (F : FxM p s m args meth c b_Al_fastRemove 4 "java/util/ArrayList" "fastRemove" none D cy ad mi A) : Iw_mAl_fastRemove_34 p l e s m args below meth c D cy A ad mi MC MS Φ (xv_mAl_fastRemove_34 fu MC MS cy ad mi Φ) := by
  obtain ⟨⟨hx, hb, hr, hml, hown, hts, hlocks, hK, hA, hSt, hnm, hex⟩, hT, hMi⟩ := id F
  intro κ σ M x0 x1 x3 hf hkc hks H locs ls hP hD hS hl
  unfold xv_mAl_fastRemove_34 at hf
  refine lv_aload_n hx hb d_Al_fastRemove_34 rfl (lv_at hl 1 rfl) ?_
  refine lv_aload_n hx hb d_Al_fastRemove_35 rfl (lv_at hl 0 rfl) ?_
  refine lv_iload_n hx hb d_Al_fastRemove_36 rfl (lv_at hl 2 rfl) ?_
  refine lv_dup_x1 hx hb d_Al_fastRemove_37 rfl rfl ?_
  obtain ⟨fs_, hm_, hlen_, hf⟩ := hf
  obtain ⟨ix_, hi_⟩ := m_ix hm_
  have hE_ := m_set (y := .inr (11, fs_.set 1 (.int x3))) hD hi_
  refine va_put (D := D) (ci := 11) (v := .int x3) (ty := .int) (C := "java/util/ArrayList") (T := F_11) (N := 3) hx hb hts i_11 t_11 t_11_ok n_11 hown hK hP hD hS ix_ hi_ rfl 1 (by decide) (hts _ gw_352) (fun _ h9 => h9) rfl (by decide +kernel) rfl rfl hlen_ d_Al_fastRemove_38 (fun H locs hP hD hS => ?_)
  obtain ⟨M1, eM_⟩ : ∃ z, z = mu M x0 (.inr (11, fs_.set 1 (.int x3))) := ⟨_, rfl⟩
  rw [← eM_] at hf hE_
  rw [hE_] at hP hD
  clear hE_ eM_ hi_ hm_
  refine lv_null hx hb d_Al_fastRemove_41 ?_
  obtain ⟨n_, f_, hm_, hin_, hf⟩ := hf
  obtain ⟨ix_, hi_⟩ := m_ix hm_
  have hE_ := m_set (y := .inl (cy 7, n_, .inr (.inr (.inr (.inr (va_up f_ x3.toNatClampNeg Option.none)))))) hD hi_
  refine va_astqN hx hb hK hP hD hS ix_ 7 hi_ rfl (inb_in hin_) d_Al_fastRemove_42 (fun H locs hP hD hS => ?_)
  obtain ⟨M2, eM_⟩ : ∃ z, z = mu M1 x1 (.inl (cy 7, n_, .inr (.inr (.inr (.inr (va_up f_ x3.toNatClampNeg Option.none)))))) := ⟨_, rfl⟩
  rw [← eM_] at hf hE_
  rw [hE_] at hP hD
  clear hE_ eM_ hi_ hm_
  refine W.widen (k := MC) (n := MS) hkc hks ?_
  exact m_rv hf hx hb hr hlocks hK hP hD hS d_Al_fastRemove_43
set_option maxHeartbeats 8000000 in
set_option maxRecDepth 100000 in
theorem wew_mAl_fastRemove {p : Program} {l : Launch} {e : Env} {s : State} {m : MethodId} {args : Array Value} {below : List Frame} {meth : Method} {c : Code} {D : va_G} {cy : Nat → ClassId} {A : Nat → Prop} {ad : Nat → Nat} {mi MC MS : Nat} {Φ : Mm → Prop} {fu : Nat} (F : FxM p s m args meth c b_Al_fastRemove 4 "java/util/ArrayList" "fastRemove" none D cy ad mi A) : Iw_mAl_fastRemove_e p l e s m args below meth c D cy A ad mi MC MS Φ (xw_mAl_fastRemove fu MC MS cy ad mi Φ) := by
  obtain ⟨⟨hx, hb, hr, hml, hown, hts, hlocks, hK, hA, hSt, hnm, hex⟩, hT, hMi⟩ := id F
  intro κ σ M a0 a1 a2 hf hkc hks H locs ls hP hD hS hl
  unfold xw_mAl_fastRemove at hf
  refine lv_aload_n hx hb d_Al_fastRemove_0 rfl (lv_at hl 0 rfl) ?_
  refine lv_dup hx hb d_Al_fastRemove_1 rfl ?_
  obtain ⟨fs_, hm_, v1, hv_, hf⟩ := hf
  obtain ⟨ix_, hi_⟩ := m_ix hm_
  refine va_get (D := D) (ci := 11) (v := .int v1) (C := "java/util/ArrayList") (T := F_11) (N := 3) hx hb hts i_11 hown hK hP ix_ hi_ rfl 2 (by decide) (hts _ gw_354) (u_same (hts _ gw_355)) hv_ d_Al_fastRemove_2 ?_
  clear hv_ hi_ hm_
  refine lv_iconst (v := 1) hx hb d_Al_fastRemove_5 (by decide) ?_
  refine lv_iadd hx hb d_Al_fastRemove_6 ?_
  refine lv_topi (fun v2 ev => ?_)
  have hf := bnQ ev hf
  clear ev
  obtain ⟨fs_, hm_, hlen_, hf⟩ := hf
  obtain ⟨ix_, hi_⟩ := m_ix hm_
  have hE_ := m_set (y := .inr (11, fs_.set 2 (.int v2))) hD hi_
  refine va_put (D := D) (ci := 11) (v := .int v2) (ty := .int) (C := "java/util/ArrayList") (T := F_11) (N := 3) hx hb hts i_11 t_11 t_11_ok n_11 hown hK hP hD hS ix_ hi_ rfl 2 (by decide) (hts _ gw_354) (u_same (hts _ gw_355)) rfl (by decide +kernel) rfl rfl hlen_ d_Al_fastRemove_7 (fun H locs hP hD hS => ?_)
  obtain ⟨M3, eM_⟩ : ∃ z, z = mu M a0 (.inr (11, fs_.set 2 (.int v2))) := ⟨_, rfl⟩
  rw [← eM_] at hf hE_
  rw [hE_] at hP hD
  clear hE_ eM_ hi_ hm_
  refine lv_aload_n hx hb d_Al_fastRemove_10 rfl (lv_at hl 0 rfl) ?_
  obtain ⟨fs_, hm_, v4, hv_, hf⟩ := hf
  obtain ⟨ix_, hi_⟩ := m_ix hm_
  refine va_get (D := D) (ci := 11) (v := .int v4) (C := "java/util/ArrayList") (T := F_11) (N := 3) hx hb hts i_11 hown hK hP ix_ hi_ rfl 1 (by decide) (hts _ gw_352) (fun _ h9 => h9) hv_ d_Al_fastRemove_11 ?_
  clear hv_ hi_ hm_
  refine lv_iconst (v := 1) hx hb d_Al_fastRemove_14 (by decide) ?_
  refine lv_isub hx hb d_Al_fastRemove_15 ?_
  refine lv_topi (fun v5 ev => ?_)
  have hf := bnQ ev hf
  clear ev
  refine lv_dup hx hb d_Al_fastRemove_16 rfl ?_
  refine lv_istore_n (lv' := [(3, .int v5), (0, .ref a0), (1, .ref a1), (2, .int a2)]) hx hb d_Al_fastRemove_17 rfl hl (by decide) rfl (fun ls hl => ?_)
  refine lv_iload_n hx hb d_Al_fastRemove_18 rfl (lv_at hl 3 rfl) ?_
  refine lv_icmp_le (tgt := 34) hx hb d_Al_fastRemove_19 (by decide) (fun cx => ?_) (fun cx => ?_)
  · have hf := ifpP cx hf
    exact wv_mAl_fastRemove_34 (fu := fu) F _ _ _ _ _ _ hf hkc hks _ _ _ hP hD hS (lv_sub hl [1, 2, 0] rfl)
  · have hf := ifnP cx hf
    refine lv_aload_n hx hb d_Al_fastRemove_22 rfl (lv_at hl 2 rfl) ?_
    refine lv_iload_n hx hb d_Al_fastRemove_23 rfl (lv_at hl 3 rfl) ?_
    refine lv_iconst (v := 1) hx hb d_Al_fastRemove_24 (by decide) ?_
    refine lv_iadd hx hb d_Al_fastRemove_25 ?_
    refine lv_topi (fun v6 ev => ?_)
    have hf := bnQ ev hf
    clear ev
    refine lv_aload_n hx hb d_Al_fastRemove_26 rfl (lv_at hl 2 rfl) ?_
    refine lv_iload_n hx hb d_Al_fastRemove_27 rfl (lv_at hl 3 rfl) ?_
    refine lv_iload_n hx hb d_Al_fastRemove_28 rfl (lv_at hl 0 rfl) ?_
    refine lv_iload_n hx hb d_Al_fastRemove_29 rfl (lv_at hl 3 rfl) ?_
    refine lv_isub hx hb d_Al_fastRemove_30 ?_
    refine lv_topi (fun v7 ev => ?_)
    have hf := bnQ ev hf
    clear ev
    rcases hf with hf | hf
    · obtain ⟨n0_, f0_, n1_, f1_, hs_, hm_, hcp_, hfi_, hf⟩ := hf
      obtain ⟨jx_, hj_⟩ := m_ix hs_
      obtain ⟨ix_, hi_⟩ := m_ix hm_
      have hE_ := m_set (y := .inl (cy 7, n1_, .inr (.inr (.inr (.inr (va_cpy f0_ f1_ v6.toNatClampNeg a2.toNatClampNeg v7.toNatClampNeg)))))) hD hi_
      refine va_copyq (C := "CoinKeeper$Block") (R := rmw_mAl_fastRemove MC MS) (rest := []) hx hb (hml.trans hl.1.symm) hown (hts _ gw_912) (hts _ gw_497) (hts _ gw_496) (hts _ gw_17) hK hP hD hS jx_ ix_ 7 7 hj_ hi_ rfl rfl (cpk_p hcp_).1 (cpk_p hcp_).2.1 (cpk_p hcp_).2.2.1 (cpk_p hcp_).2.2.2.1 (cpk_p hcp_).2.2.2.2 (m_elq hK hP (ci := 1) rfl hfi_) (m_asg (hSt.2.1 _ (List.mem_of_getElem? (i := 35) rfl))) (Nat.le_of_ble_eq_true rfl) (Nat.le_of_ble_eq_true rfl) d_Al_fastRemove_31 (fun H locs hP hD hS => ?_)
      obtain ⟨M8, eM_⟩ : ∃ z, z = mu M3 a1 (.inl (cy 7, n1_, .inr (.inr (.inr (.inr (va_cpy f0_ f1_ v6.toNatClampNeg a2.toNatClampNeg v7.toNatClampNeg)))))) := ⟨_, rfl⟩
      rw [← eM_] at hf hE_
      rw [hE_] at hP hD
      clear hE_ eM_ hi_ hm_
      clear hj_ hs_ hcp_ hfi_
      exact wv_mAl_fastRemove_34 (fu := fu) F _ _ _ _ _ _ hf hkc hks _ _ _ hP hD hS (lv_sub hl [1, 2, 0] rfl)
    · obtain ⟨n0_, f0_, n1_, f1_, hs_, hm_, hcp_, hfi_, hf⟩ := hf
      obtain ⟨jx_, hj_⟩ := m_ix hs_
      obtain ⟨ix_, hi_⟩ := m_ix hm_
      have hE_ := m_set (y := .inl (cy 7, n1_, .inr (.inr (.inr (.inr (va_cpy f0_ f1_ v6.toNatClampNeg a2.toNatClampNeg v7.toNatClampNeg)))))) hD hi_
      refine va_copyq (C := "CoinKeeper$Coin") (R := rmw_mAl_fastRemove MC MS) (rest := []) hx hb (hml.trans hl.1.symm) hown (hts _ gw_912) (hts _ gw_497) (hts _ gw_496) (hts _ gw_17) hK hP hD hS jx_ ix_ 7 7 hj_ hi_ rfl rfl (cpk_p hcp_).1 (cpk_p hcp_).2.1 (cpk_p hcp_).2.2.1 (cpk_p hcp_).2.2.2.1 (cpk_p hcp_).2.2.2.2 (m_elq hK hP (ci := 2) rfl hfi_) (m_asg (hSt.2.1 _ (List.mem_of_getElem? (i := 37) rfl))) (Nat.le_of_ble_eq_true rfl) (Nat.le_of_ble_eq_true rfl) d_Al_fastRemove_31 (fun H locs hP hD hS => ?_)
      obtain ⟨M9, eM_⟩ : ∃ z, z = mu M3 a1 (.inl (cy 7, n1_, .inr (.inr (.inr (.inr (va_cpy f0_ f1_ v6.toNatClampNeg a2.toNatClampNeg v7.toNatClampNeg)))))) := ⟨_, rfl⟩
      rw [← eM_] at hf hE_
      rw [hE_] at hP hD
      clear hE_ eM_ hi_ hm_
      clear hj_ hs_ hcp_ hfi_
      exact wv_mAl_fastRemove_34 (fu := fu) F _ _ _ _ _ _ hf hkc hks _ _ _ hP hD hS (lv_sub hl [1, 2, 0] rfl)
theorem cw_mAl_fastRemove (l : Launch) (D : va_G) (cy : Nat → ClassId) (ad : Nat → Nat) (mi fu MC MS : Nat) (a0 : Nat) (a1 : Nat) (a2 : Int32) (M : Mm) (Φ : Mm → Prop) (hf : xw_mAl_fastRemove fu MC MS cy ad mi Φ 0 0 M a0 a1 a2) (sz : Nat) : Met l ({ cls := "java/util/ArrayList", name := "fastRemove", desc := "([Ljava/lang/Object;I)V" } : Jvm.MethodName) (.code ({ cls := "java/util/ArrayList", name := "fastRemove", desc := "([Ljava/lang/Object;I)V" } : Jvm.MethodName) b_Al_fastRemove 4 none :: gw) (rmw_mAl_fastRemove MC MS) (va_Pc [.ref a0, .ref a1, .int a2] (PrM D cy ad mi (mw M) sz)) (va_Qv Φ (fun u t => Po D cy (va_A (mw M) sz) (mw u) t) (va_A (mw M) sz)) MC MS (va_A (mw M) sz) :=
  q_metM (Qc := fun A => va_Qv Φ (fun u t => Po D cy A (mw u) t) A) (by decide) rfl rfl (Nat.le_of_ble_eq_true rfl) (fun p e s m below meth c ls F hP hD hS hl => wew_mAl_fastRemove (fu := fu) F 0 0 M a0 a1 a2 hf (Nat.zero_le _) (Nat.zero_le _) _ _ _ hP hD hS hl) sz
abbrev b_Al_remove : ByteArray := prog_28_method_29_code
theorem d_Al_remove_0 : decode b_Al_remove 0 = .ok (.iload_n 1, 1) := by decide +kernel
theorem d_Al_remove_1 : decode b_Al_remove 1 = .ok (.aload_n 0, 1) := by decide +kernel
theorem d_Al_remove_2 : decode b_Al_remove 2 = .ok (.getfield 48, 3) := by decide +kernel
theorem d_Al_remove_5 : decode b_Al_remove 5 = .ok (.invokestatic 118, 3) := by decide +kernel
theorem d_Al_remove_8 : decode b_Al_remove 8 = .ok (.pop, 1) := by decide +kernel
theorem d_Al_remove_9 : decode b_Al_remove 9 = .ok (.aload_n 0, 1) := by decide +kernel
theorem d_Al_remove_10 : decode b_Al_remove 10 = .ok (.getfield 9, 3) := by decide +kernel
theorem d_Al_remove_13 : decode b_Al_remove 13 = .ok (.astore_n 2, 1) := by decide +kernel
theorem d_Al_remove_14 : decode b_Al_remove 14 = .ok (.aload_n 2, 1) := by decide +kernel
theorem d_Al_remove_15 : decode b_Al_remove 15 = .ok (.iload_n 1, 1) := by decide +kernel
theorem d_Al_remove_16 : decode b_Al_remove 16 = .ok (.aaload, 1) := by decide +kernel
theorem d_Al_remove_17 : decode b_Al_remove 17 = .ok (.astore_n 3, 1) := by decide +kernel
theorem d_Al_remove_18 : decode b_Al_remove 18 = .ok (.aload_n 0, 1) := by decide +kernel
theorem d_Al_remove_19 : decode b_Al_remove 19 = .ok (.aload_n 2, 1) := by decide +kernel
theorem d_Al_remove_20 : decode b_Al_remove 20 = .ok (.iload_n 1, 1) := by decide +kernel
theorem d_Al_remove_21 : decode b_Al_remove 21 = .ok (.invokevirtual 144, 3) := by decide +kernel
theorem d_Al_remove_24 : decode b_Al_remove 24 = .ok (.aload_n 3, 1) := by decide +kernel
theorem d_Al_remove_25 : decode b_Al_remove 25 = .ok (.areturn, 1) := by decide +kernel
abbrev rmw_mAl_remove (MC MS : Nat) : Room := { frames := 2, cells := MC, slots := MS, locals := 53 }
def Iw_mAl_remove_e (p : Program) (l : Launch) (e : Env) (s : State) (m : MethodId) (args : Array Value) (below : List Frame) (meth : Method) (c : Code) (D : va_G) (cy : Nat → ClassId) (A : Nat → Prop) (ad : Nat → Nat) (mi MC MS : Nat) (Φ : Option Nat → Mm → Prop) (k : Nat → Nat → Mm → Nat → Int32 → Prop) : Prop :=
  ∀ (κ σ : Nat) (M : Mm) (a0 : Nat) (a1 : Int32), k κ σ M a0 a1 → κ ≤ MC → σ ≤ MS → ∀ (H : Heap) (locs : List Loc) (ls : Array Slot), va_P D classes (mw M) H → va_D A (mw M) → va_S A s.heap H locs → lv_has ls 4 [(0, .ref a0), (1, .int a1)] → W p l e (rmw_mAl_remove MC MS) s m args below meth c H locs κ σ (MQ below (va_Qq Φ (fun u t => Po D cy A (mw u) t) A) args s MC MS A) (F0 m 0 ls [])
theorem hdq_12 : ({ cls := "java/util/ArrayList", name := "fastRemove", desc := "([Ljava/lang/Object;I)V" } : Jvm.MethodName).cls ≠ "java/lang/invoke/MethodHandle" ∧ ({ cls := "java/util/ArrayList", name := "fastRemove", desc := "([Ljava/lang/Object;I)V" } : Jvm.MethodName).cls ≠ "java/lang/invoke/VarHandle" ∧ (parseMethodDescriptor ({ cls := "java/util/ArrayList", name := "fastRemove", desc := "([Ljava/lang/Object;I)V" } : Jvm.MethodName).desc).map (fun d => d.parameters.length) = some 2 := by decide +kernel
set_option maxHeartbeats 8000000 in
set_option maxRecDepth 100000 in
theorem wew_mAl_remove {p : Program} {l : Launch} {e : Env} {s : State} {m : MethodId} {args : Array Value} {below : List Frame} {meth : Method} {c : Code} {D : va_G} {cy : Nat → ClassId} {A : Nat → Prop} {ad : Nat → Nat} {mi MC MS : Nat} {Φ : Option Nat → Mm → Prop} {fu : Nat} (F : FxM p s m args meth c b_Al_remove 4 "java/util/ArrayList" "remove" (Option.some (Jvm.ClassFile.FieldType.object "java/lang/Object")) D cy ad mi A) : Iw_mAl_remove_e p l e s m args below meth c D cy A ad mi MC MS Φ (xw_mAl_remove fu MC MS cy ad mi Φ) := by
  obtain ⟨⟨hx, hb, hr, hml, hown, hts, hlocks, hK, hA, hSt, hnm, hex⟩, hT, hMi⟩ := id F
  intro κ σ M a0 a1 hf hkc hks H locs ls hP hD hS hl
  unfold xw_mAl_remove at hf
  refine lv_iload_n hx hb d_Al_remove_0 rfl (lv_at hl 1 rfl) ?_
  refine lv_aload_n hx hb d_Al_remove_1 rfl (lv_at hl 0 rfl) ?_
  obtain ⟨fs_, hm_, v1, hv_, hf⟩ := hf
  obtain ⟨ix_, hi_⟩ := m_ix hm_
  refine va_get (D := D) (ci := 11) (v := .int v1) (C := "java/util/ArrayList") (T := F_11) (N := 3) hx hb hts i_11 hown hK hP ix_ hi_ rfl 1 (by decide) (hts _ gw_352) (fun _ h9 => h9) hv_ d_Al_remove_2 ?_
  clear hv_ hi_ hm_
  obtain ⟨mc2, ms3, ⟨hc_, hd_⟩, hf⟩ := hf
  refine mm_ai (va_runS (As := [.int a1, .int v1]) (rest := []) ⟨hx, hb, hml, hown, hts⟩ (cw_mOb_checkIndex l D cy ad mi fu mc2 ms3 a1 v1 M _ hf H.size) ⟨q_cB hts gw_558 gw_25 gw_556 hdq_3 ⟨Nat.le_of_ble_eq_true rfl, Nat.le_of_ble_eq_true rfl⟩, hts _ gw_557⟩ (q_preM hP hD hK hSt hT hMi hS (m_free hD hS hA) _) rfl rfl hl.1 rfl (lv_room (Nat.le_of_ble_eq_true rfl)) d_Al_remove_5 ⟨hc_, hd_⟩) hD hS hA (fun v5 M4 H locs hf hP hD hS => ?_)
  have hkc : κ + mc2 ≤ MC := hc_
  have hks : σ + ms3 ≤ MS := hd_
  clear hc_ hd_
  refine lv_pop hx hb d_Al_remove_8 rfl ?_
  refine lv_aload_n hx hb d_Al_remove_9 rfl (lv_at hl 0 rfl) ?_
  obtain ⟨fs_, hm_, r6, hv_, hf⟩ := hf
  obtain ⟨ix_, hi_⟩ := m_ix hm_
  refine va_get (D := D) (ci := 11) (v := va_rf r6) (C := "java/util/ArrayList") (T := F_11) (N := 3) hx hb hts i_11 hown hK hP ix_ hi_ rfl 0 (by decide) (hts _ gw_351) (fun _ h9 => h9) hv_ d_Al_remove_10 ?_
  clear hv_ hi_ hm_
  obtain ⟨q7, rfl, hf⟩ := hf
  refine W.eq (g2 := F0 m 13 ls [.ref q7]) rfl ?_
  refine lv_astore_n (lv' := [(2, .ref q7), (0, .ref a0), (1, .int a1)]) hx hb d_Al_remove_13 rfl hl (by decide) rfl (fun ls hl => ?_)
  refine lv_aload_n hx hb d_Al_remove_14 rfl (lv_at hl 0 rfl) ?_
  refine lv_iload_n hx hb d_Al_remove_15 rfl (lv_at hl 2 rfl) ?_
  obtain ⟨n_, f_, hm_, hin_, hf⟩ := hf
  obtain ⟨ix_, hi_⟩ := m_ix hm_
  refine va_aldq hx hb hK hP ix_ 7 hi_ rfl (inb_in hin_) d_Al_remove_16 ?_
  obtain ⟨r8, ev⟩ : ∃ z, z = f_ a1.toNatClampNeg := ⟨_, rfl⟩
  first | rw [← ev] at hf ⊢ | rw [← ev]
  clear ev hi_ hm_ hin_
  obtain ⟨q9, rfl, hf⟩ := hf
  refine W.eq (g2 := F0 m 17 ls [.ref q9]) rfl ?_
  refine lv_astore_n (lv' := [(3, .ref q9), (2, .ref q7), (0, .ref a0), (1, .int a1)]) hx hb d_Al_remove_17 rfl hl (by decide) rfl (fun ls hl => ?_)
  refine lv_aload_n hx hb d_Al_remove_18 rfl (lv_at hl 2 rfl) ?_
  refine lv_aload_n hx hb d_Al_remove_19 rfl (lv_at hl 1 rfl) ?_
  refine lv_iload_n hx hb d_Al_remove_20 rfl (lv_at hl 3 rfl) ?_
  obtain ⟨fs_, hm_, hf⟩ := hf
  obtain ⟨ix_, hi_⟩ := m_ix hm_
  obtain ⟨mc10, ms11, ⟨hc_, hd_⟩, hf⟩ := hf
  refine m_av (va_runV (C := "java/util/ArrayList") (As := [.ref q7, .int a1]) (rest := []) ⟨hx, hb, hml, hown, hts⟩ (cw_mAl_fastRemove l D cy ad mi fu mc10 ms11 a0 q7 a1 M4 _ hf H.size) ⟨q_cB hts gw_911 gw_12 gw_908 hdq_12 ⟨Nat.le_of_ble_eq_true rfl, Nat.le_of_ble_eq_true rfl⟩, hts _ gw_910, hts _ gs_21⟩ (q_preVM (q_preM hP hD hK hSt hT hMi hS (m_free hD hS hA) _) (va_recv hK hP (ci := 11) (q0 := ix_) rfl hi_)) rfl rfl hl.1 rfl (lv_room (Nat.le_of_ble_eq_true rfl)) d_Al_remove_21 ⟨hc_, hd_⟩) hD hS hA (fun M12 H locs hf hP hD hS => ?_)
  have hkc : κ + mc2 + mc10 ≤ MC := hc_
  have hks : σ + ms3 + ms11 ≤ MS := hd_
  clear hc_ hd_
  refine lv_aload_n hx hb d_Al_remove_24 rfl (lv_at hl 0 rfl) ?_
  refine W.widen (k := MC) (n := MS) hkc hks ?_
  exact m_ra hf rfl hx hb hr (Or.inl ⟨_, rfl⟩) hlocks hK hP hD hS d_Al_remove_25
theorem cw_mAl_remove (l : Launch) (D : va_G) (cy : Nat → ClassId) (ad : Nat → Nat) (mi fu MC MS : Nat) (a0 : Nat) (a1 : Int32) (M : Mm) (Φ : Option Nat → Mm → Prop) (hf : xw_mAl_remove fu MC MS cy ad mi Φ 0 0 M a0 a1) (sz : Nat) : Met l ({ cls := "java/util/ArrayList", name := "remove", desc := "(I)Ljava/lang/Object;" } : Jvm.MethodName) (.code ({ cls := "java/util/ArrayList", name := "remove", desc := "(I)Ljava/lang/Object;" } : Jvm.MethodName) b_Al_remove 4 (Option.some (Jvm.ClassFile.FieldType.object "java/lang/Object")) :: gw) (rmw_mAl_remove MC MS) (va_Pc [.ref a0, .int a1] (PrM D cy ad mi (mw M) sz)) (va_Qq Φ (fun u t => Po D cy (va_A (mw M) sz) (mw u) t) (va_A (mw M) sz)) MC MS (va_A (mw M) sz) :=
  q_metM (Qc := fun A => va_Qq Φ (fun u t => Po D cy A (mw u) t) A) (by decide) rfl rfl (Nat.le_of_ble_eq_true rfl) (fun p e s m below meth c ls F hP hD hS hl => wew_mAl_remove (fu := fu) F 0 0 M a0 a1 hf (Nat.zero_le _) (Nat.zero_le _) _ _ _ hP hD hS hl) sz
abbrev b_Le_find : ByteArray := prog_6_method_2_code
theorem d_Le_find_0 : decode b_Le_find 0 = .ok (.aload_n 1, 1) := by decide +kernel
theorem d_Le_find_1 : decode b_Le_find 1 = .ok (.iload_n 2, 1) := by decide +kernel
theorem d_Le_find_2 : decode b_Le_find 2 = .ok (.invokestatic 19, 3) := by decide +kernel
theorem d_Le_find_5 : decode b_Le_find 5 = .ok (.istore 4, 2) := by decide +kernel
theorem d_Le_find_7 : decode b_Le_find 7 = .ok (.iconst 0, 1) := by decide +kernel
theorem d_Le_find_8 : decode b_Le_find 8 = .ok (.istore 5, 2) := by decide +kernel
theorem d_Le_find_10 : decode b_Le_find 10 = .ok (.iload 5, 2) := by decide +kernel
theorem d_Le_find_12 : decode b_Le_find 12 = .ok (.aload_n 0, 1) := by decide +kernel
theorem d_Le_find_13 : decode b_Le_find 13 = .ok (.getfield 10, 3) := by decide +kernel
theorem d_Le_find_16 : decode b_Le_find 16 = .ok (.invokevirtual 25, 3) := by decide +kernel
theorem d_Le_find_19 : decode b_Le_find 19 = .ok (.if_icmp .ge 68, 3) := by decide +kernel
theorem d_Le_find_22 : decode b_Le_find 22 = .ok (.aload_n 0, 1) := by decide +kernel
theorem d_Le_find_23 : decode b_Le_find 23 = .ok (.getfield 10, 3) := by decide +kernel
theorem d_Le_find_26 : decode b_Le_find 26 = .ok (.iload 5, 2) := by decide +kernel
theorem d_Le_find_28 : decode b_Le_find 28 = .ok (.invokevirtual 29, 3) := by decide +kernel
theorem d_Le_find_31 : decode b_Le_find 31 = .ok (.checkcast 33, 3) := by decide +kernel
theorem d_Le_find_34 : decode b_Le_find 34 = .ok (.astore 6, 2) := by decide +kernel
theorem d_Le_find_36 : decode b_Le_find 36 = .ok (.aload 6, 2) := by decide +kernel
theorem d_Le_find_38 : decode b_Le_find 38 = .ok (.getfield 35, 3) := by decide +kernel
theorem d_Le_find_41 : decode b_Le_find 41 = .ok (.iload 4, 2) := by decide +kernel
theorem d_Le_find_43 : decode b_Le_find 43 = .ok (.if_icmp .ne 38, 3) := by decide +kernel
theorem d_Le_find_46 : decode b_Le_find 46 = .ok (.aload 6, 2) := by decide +kernel
theorem d_Le_find_48 : decode b_Le_find 48 = .ok (.getfield 39, 3) := by decide +kernel
theorem d_Le_find_51 : decode b_Le_find 51 = .ok (.iload_n 3, 1) := by decide +kernel
theorem d_Le_find_52 : decode b_Le_find 52 = .ok (.if_icmp .ne 29, 3) := by decide +kernel
theorem d_Le_find_55 : decode b_Le_find 55 = .ok (.aload 6, 2) := by decide +kernel
theorem d_Le_find_57 : decode b_Le_find 57 = .ok (.getfield 42, 3) := by decide +kernel
theorem d_Le_find_60 : decode b_Le_find 60 = .ok (.getfield 46, 3) := by decide +kernel
theorem d_Le_find_63 : decode b_Le_find 63 = .ok (.aload 6, 2) := by decide +kernel
theorem d_Le_find_65 : decode b_Le_find 65 = .ok (.getfield 52, 3) := by decide +kernel
theorem d_Le_find_68 : decode b_Le_find 68 = .ok (.aload_n 1, 1) := by decide +kernel
theorem d_Le_find_69 : decode b_Le_find 69 = .ok (.iload_n 2, 1) := by decide +kernel
theorem d_Le_find_70 : decode b_Le_find 70 = .ok (.bipush 32, 2) := by decide +kernel
theorem d_Le_find_72 : decode b_Le_find 72 = .ok (.invokestatic 55, 3) := by decide +kernel
theorem d_Le_find_75 : decode b_Le_find 75 = .ok (.ifCond .eq 6, 3) := by decide +kernel
theorem d_Le_find_78 : decode b_Le_find 78 = .ok (.aload 6, 2) := by decide +kernel
theorem d_Le_find_80 : decode b_Le_find 80 = .ok (.areturn, 1) := by decide +kernel
theorem d_Le_find_81 : decode b_Le_find 81 = .ok (.iinc 5 1, 3) := by decide +kernel
theorem d_Le_find_84 : decode b_Le_find 84 = .ok (.goto (-74), 3) := by decide +kernel
theorem d_Le_find_87 : decode b_Le_find 87 = .ok (.aconst_null, 1) := by decide +kernel
theorem d_Le_find_88 : decode b_Le_find 88 = .ok (.areturn, 1) := by decide +kernel
abbrev rmw_mLe_find (MC MS : Nat) : Room := { frames := 3, cells := MC, slots := MS, locals := 64 }
def Iw_mLe_find_81 (p : Program) (l : Launch) (e : Env) (s : State) (m : MethodId) (args : Array Value) (below : List Frame) (meth : Method) (c : Code) (D : va_G) (cy : Nat → ClassId) (A : Nat → Prop) (ad : Nat → Nat) (mi MC MS : Nat) (Φ : Option Nat → Mm → Prop) (k : Nat → Nat → Mm → Nat → Nat → Int32 → Int32 → Int32 → Int32 → Prop) : Prop :=
  ∀ (κ σ : Nat) (M : Mm) (x0 : Nat) (x1 : Nat) (x2 : Int32) (x3 : Int32) (x4 : Int32) (x5 : Int32), k κ σ M x0 x1 x2 x3 x4 x5 → κ ≤ MC → σ ≤ MS → ∀ (H : Heap) (locs : List Loc) (ls : Array Slot), va_P D classes (mw M) H → va_D A (mw M) → va_S A s.heap H locs → lv_has ls 7 [(0, .ref x0), (1, .ref x1), (2, .int x2), (3, .int x3), (4, .int x4), (5, .int x5)] → W p l e (rmw_mLe_find MC MS) s m args below meth c H locs κ σ (MQ below (va_Qq Φ (fun u t => Po D cy A (mw u) t) A) args s MC MS A) (F0 m 81 ls [])
def Iw_mLe_find_10 (p : Program) (l : Launch) (e : Env) (s : State) (m : MethodId) (args : Array Value) (below : List Frame) (meth : Method) (c : Code) (D : va_G) (cy : Nat → ClassId) (A : Nat → Prop) (ad : Nat → Nat) (mi MC MS : Nat) (Φ : Option Nat → Mm → Prop) (k : Nat → Nat → Mm → Nat → Nat → Int32 → Int32 → Int32 → Int32 → Prop) : Prop :=
  ∀ (κ σ : Nat) (M : Mm) (x0 : Nat) (x1 : Nat) (x2 : Int32) (x3 : Int32) (x4 : Int32) (x5 : Int32), k κ σ M x0 x1 x2 x3 x4 x5 → κ ≤ MC → σ ≤ MS → ∀ (H : Heap) (locs : List Loc) (ls : Array Slot), va_P D classes (mw M) H → va_D A (mw M) → va_S A s.heap H locs → lv_has ls 7 [(0, .ref x0), (1, .ref x1), (2, .int x2), (3, .int x3), (4, .int x4), (5, .int x5)] → W p l e (rmw_mLe_find MC MS) s m args below meth c H locs κ σ (MQ below (va_Qq Φ (fun u t => Po D cy A (mw u) t) A) args s MC MS A) (F0 m 10 ls [])
def Iw_mLe_find_e (p : Program) (l : Launch) (e : Env) (s : State) (m : MethodId) (args : Array Value) (below : List Frame) (meth : Method) (c : Code) (D : va_G) (cy : Nat → ClassId) (A : Nat → Prop) (ad : Nat → Nat) (mi MC MS : Nat) (Φ : Option Nat → Mm → Prop) (k : Nat → Nat → Mm → Nat → Nat → Int32 → Int32 → Prop) : Prop :=
  ∀ (κ σ : Nat) (M : Mm) (a0 : Nat) (a1 : Nat) (a2 : Int32) (a3 : Int32), k κ σ M a0 a1 a2 a3 → κ ≤ MC → σ ≤ MS → ∀ (H : Heap) (locs : List Loc) (ls : Array Slot), va_P D classes (mw M) H → va_D A (mw M) → va_S A s.heap H locs → lv_has ls 7 [(0, .ref a0), (1, .ref a1), (2, .int a2), (3, .int a3)] → W p l e (rmw_mLe_find MC MS) s m args below meth c H locs κ σ (MQ below (va_Qq Φ (fun u t => Po D cy A (mw u) t) A) args s MC MS A) (F0 m 0 ls [])
set_option maxHeartbeats 8000000 in
set_option maxRecDepth 100000 in
theorem wv_mLe_find_81 {p : Program} {l : Launch} {e : Env} {s : State} {m : MethodId} {args : Array Value} {below : List Frame} {meth : Method} {c : Code} {D : va_G} {cy : Nat → ClassId} {A : Nat → Prop} {ad : Nat → Nat} {mi MC MS : Nat} {Φ : Option Nat → Mm → Prop} {fu : Nat} {k_10 : Nat → Nat → Mm → Nat → Nat → Int32 → Int32 → Int32 → Int32 → Prop} (F : FxM p s m args meth c b_Le_find 7 "CoinKeeper$Ledger" "find" (Option.some (Jvm.ClassFile.FieldType.object "CoinKeeper$Coin")) D cy ad mi A) (hk_10 : Iw_mLe_find_10 p l e s m args below meth c D cy A ad mi MC MS Φ k_10) : Iw_mLe_find_81 p l e s m args below meth c D cy A ad mi MC MS Φ (xv_mLe_find_81 fu MC MS cy ad mi Φ k_10) := by
  obtain ⟨⟨hx, hb, hr, hml, hown, hts, hlocks, hK, hA, hSt, hnm, hex⟩, hT, hMi⟩ := id F
  intro κ σ M x0 x1 x2 x3 x4 x5 hf hkc hks H locs ls hP hD hS hl
  unfold xv_mLe_find_81 at hf
  obtain ⟨v1, ev, hf⟩ := bnP hf
  refine lv_iinc (v := v1) (lv' := [(5, .int v1), (0, .ref x0), (1, .ref x1), (2, .int x2), (3, .int x3), (4, .int x4)]) hx hb d_Le_find_81 hl (k := 5) rfl (by rw [ev]; rfl) (by decide) rfl (fun ls hl => ?_)
  clear ev
  refine lv_goto (tgt := 10) hx hb d_Le_find_84 (by decide) ?_
  exact hk_10 _ _ _ _ _ _ _ _ _ hf hkc hks _ _ _ hP hD hS (lv_sub hl [1, 2, 3, 4, 5, 0] rfl)
theorem hdq_13 : ({ cls := "java/util/ArrayList", name := "size", desc := "()I" } : Jvm.MethodName).cls ≠ "java/lang/invoke/MethodHandle" ∧ ({ cls := "java/util/ArrayList", name := "size", desc := "()I" } : Jvm.MethodName).cls ≠ "java/lang/invoke/VarHandle" ∧ (parseMethodDescriptor ({ cls := "java/util/ArrayList", name := "size", desc := "()I" } : Jvm.MethodName).desc).map (fun d => d.parameters.length) = some 0 := by decide +kernel
theorem hdq_14 : ({ cls := "java/util/ArrayList", name := "get", desc := "(I)Ljava/lang/Object;" } : Jvm.MethodName).cls ≠ "java/lang/invoke/MethodHandle" ∧ ({ cls := "java/util/ArrayList", name := "get", desc := "(I)Ljava/lang/Object;" } : Jvm.MethodName).cls ≠ "java/lang/invoke/VarHandle" ∧ (parseMethodDescriptor ({ cls := "java/util/ArrayList", name := "get", desc := "(I)Ljava/lang/Object;" } : Jvm.MethodName).desc).map (fun d => d.parameters.length) = some 1 := by decide +kernel
theorem hdq_15 : ({ cls := "CoinKeeper", name := "same", desc := "([BI[BII)Z" } : Jvm.MethodName).cls ≠ "java/lang/invoke/MethodHandle" ∧ ({ cls := "CoinKeeper", name := "same", desc := "([BI[BII)Z" } : Jvm.MethodName).cls ≠ "java/lang/invoke/VarHandle" ∧ (parseMethodDescriptor ({ cls := "CoinKeeper", name := "same", desc := "([BI[BII)Z" } : Jvm.MethodName).desc).map (fun d => d.parameters.length) = some 5 := by decide +kernel
set_option maxHeartbeats 8000000 in
set_option maxRecDepth 100000 in
theorem wv_mLe_find_10 {p : Program} {l : Launch} {e : Env} {s : State} {m : MethodId} {args : Array Value} {below : List Frame} {meth : Method} {c : Code} {D : va_G} {cy : Nat → ClassId} {A : Nat → Prop} {ad : Nat → Nat} {mi MC MS : Nat} {Φ : Option Nat → Mm → Prop} {fu : Nat} {k_10 : Nat → Nat → Mm → Nat → Nat → Int32 → Int32 → Int32 → Int32 → Prop} (F : FxM p s m args meth c b_Le_find 7 "CoinKeeper$Ledger" "find" (Option.some (Jvm.ClassFile.FieldType.object "CoinKeeper$Coin")) D cy ad mi A) (hk_10 : Iw_mLe_find_10 p l e s m args below meth c D cy A ad mi MC MS Φ k_10) : Iw_mLe_find_10 p l e s m args below meth c D cy A ad mi MC MS Φ (xv_mLe_find_10 fu MC MS cy ad mi Φ k_10) := by
  obtain ⟨⟨hx, hb, hr, hml, hown, hts, hlocks, hK, hA, hSt, hnm, hex⟩, hT, hMi⟩ := id F
  intro κ σ M x0 x1 x2 x3 x4 x5 hf hkc hks H locs ls hP hD hS hl
  unfold xv_mLe_find_10 at hf
  refine lv_iload hx hb d_Le_find_10 (lv_at hl 5 rfl) ?_
  refine lv_aload_n hx hb d_Le_find_12 rfl (lv_at hl 0 rfl) ?_
  obtain ⟨fs_, hm_, r1, hv_, hf⟩ := hf
  obtain ⟨ix_, hi_⟩ := m_ix hm_
  refine va_get (D := D) (ci := 5) (v := va_rf r1) (C := "CoinKeeper$Ledger") (T := F_5) (N := 2) hx hb hts i_5 hown hK hP ix_ hi_ rfl 0 (by decide) (hts _ gw_363) (fun _ h9 => h9) hv_ d_Le_find_13 ?_
  clear hv_ hi_ hm_
  obtain ⟨q2, rfl, hf⟩ := hf
  refine W.eq (g2 := F0 m 16 ls [.ref q2, .int x5]) rfl ?_
  obtain ⟨fs_, hm_, hf⟩ := hf
  obtain ⟨ix_, hi_⟩ := m_ix hm_
  obtain ⟨mc3, ms4, ⟨hc_, hd_⟩, hf⟩ := hf
  refine mm_ai (va_runV (C := "java/util/ArrayList") (As := []) (rest := [.int x5]) ⟨hx, hb, hml, hown, hts⟩ (cw_mAl_size l D cy ad mi fu mc3 ms4 q2 M _ hf H.size) ⟨q_cB hts gw_551 gw_12 gw_548 hdq_13 ⟨Nat.le_of_ble_eq_true rfl, Nat.le_of_ble_eq_true rfl⟩, hts _ gw_549, hts _ gw_550⟩ (q_preVM (q_preM hP hD hK hSt hT hMi hS (m_free hD hS hA) _) (va_recv hK hP (ci := 11) (q0 := ix_) rfl hi_)) rfl rfl hl.1 rfl (lv_room (Nat.le_of_ble_eq_true rfl)) d_Le_find_16 ⟨hc_, hd_⟩) hD hS hA (fun v6 M5 H locs hf hP hD hS => ?_)
  have hkc : κ + mc3 ≤ MC := hc_
  have hks : σ + ms4 ≤ MS := hd_
  clear hc_ hd_
  refine lv_icmp_ge (tgt := 87) hx hb d_Le_find_19 (by decide) (fun cx => ?_) (fun cx => ?_)
  · have hf := ifpP cx hf
    refine lv_null hx hb d_Le_find_87 ?_
    refine W.widen (k := MC) (n := MS) hkc hks ?_
    exact m_ra hf rfl hx hb hr (Or.inl ⟨_, rfl⟩) hlocks hK hP hD hS d_Le_find_88
  · have hf := ifnP cx hf
    refine lv_aload_n hx hb d_Le_find_22 rfl (lv_at hl 0 rfl) ?_
    obtain ⟨fs_, hm_, r7, hv_, hf⟩ := hf
    obtain ⟨ix_, hi_⟩ := m_ix hm_
    refine va_get (D := D) (ci := 5) (v := va_rf r7) (C := "CoinKeeper$Ledger") (T := F_5) (N := 2) hx hb hts i_5 hown hK hP ix_ hi_ rfl 0 (by decide) (hts _ gw_363) (fun _ h9 => h9) hv_ d_Le_find_23 ?_
    clear hv_ hi_ hm_
    obtain ⟨q8, rfl, hf⟩ := hf
    refine W.eq (g2 := F0 m 26 ls [.ref q8]) rfl ?_
    refine lv_iload hx hb d_Le_find_26 (lv_at hl 5 rfl) ?_
    obtain ⟨fs_, hm_, hf⟩ := hf
    obtain ⟨ix_, hi_⟩ := m_ix hm_
    obtain ⟨mc9, ms10, ⟨hc_, hd_⟩, hf⟩ := hf
    refine m_aq (va_runV (C := "java/util/ArrayList") (As := [.int x5]) (rest := []) ⟨hx, hb, hml, hown, hts⟩ (cw_mAl_get l D cy ad mi fu mc9 ms10 q8 x5 M5 _ hf H.size) ⟨q_cB hts gw_555 gw_12 gw_552 hdq_14 ⟨Nat.le_of_ble_eq_true rfl, Nat.le_of_ble_eq_true rfl⟩, hts _ gw_553, hts _ gw_554⟩ (q_preVM (q_preM hP hD hK hSt hT hMi hS (m_free hD hS hA) _) (va_recv hK hP (ci := 11) (q0 := ix_) rfl hi_)) rfl rfl hl.1 rfl (lv_room (Nat.le_of_ble_eq_true rfl)) d_Le_find_28 ⟨hc_, hd_⟩) hD hS hA (fun v12 M11 H locs hf hP hD hS => ?_)
    have hkc : κ + mc3 + mc9 ≤ MC := hc_
    have hks : σ + ms4 + ms10 ≤ MS := hd_
    clear hc_ hd_
    obtain ⟨q13, rfl, hf⟩ := hf
    refine W.eq (g2 := F0 m 31 ls [.ref q13]) rfl ?_
    obtain ⟨fs_, hm_, hf⟩ := hf
    obtain ⟨ix_, hi_⟩ := m_ix hm_
    refine va_castY (C := "CoinKeeper$Coin") hx hb hown (hts _ gw_566) (hSt.2.1 _ (List.mem_of_getElem? (i := 23) rfl)) (va_recv hK hP (ci := 2) (q0 := ix_) rfl hi_) d_Le_find_31 ?_
    clear hi_ hm_
    refine lv_astore (lv' := [(6, .ref q13), (0, .ref x0), (1, .ref x1), (2, .int x2), (3, .int x3), (4, .int x4), (5, .int x5)]) hx hb d_Le_find_34 hl (by decide) rfl (fun ls hl => ?_)
    refine lv_aload hx hb d_Le_find_36 (lv_at hl 0 rfl) ?_
    obtain ⟨fs_, hm_, v14, hv_, hf⟩ := hf
    obtain ⟨ix_, hi_⟩ := m_ix hm_
    refine va_get (D := D) (ci := 2) (v := .int v14) (C := "CoinKeeper$Coin") (T := F_2) (N := 10) hx hb hts i_2 hown hK hP ix_ hi_ rfl 2 (by decide) (hts _ gw_857) (fun _ h9 => h9) hv_ d_Le_find_38 ?_
    clear hv_ hi_ hm_
    refine lv_iload hx hb d_Le_find_41 (lv_at hl 5 rfl) ?_
    refine lv_icmp_ne (tgt := 81) hx hb d_Le_find_43 (by decide) (fun cx => ?_) (fun cx => ?_)
    · have hf := ifnP cx hf
      exact wv_mLe_find_81 (fu := fu) F hk_10 _ _ _ _ _ _ _ _ _ hf hkc hks _ _ _ hP hD hS (lv_sub hl [1, 2, 3, 4, 5, 6] rfl)
    · have hf := ifpP cx hf
      refine lv_aload hx hb d_Le_find_46 (lv_at hl 0 rfl) ?_
      obtain ⟨fs_, hm_, v15, hv_, hf⟩ := hf
      obtain ⟨ix_, hi_⟩ := m_ix hm_
      refine va_get (D := D) (ci := 2) (v := .int v15) (C := "CoinKeeper$Coin") (T := F_2) (N := 10) hx hb hts i_2 hown hK hP ix_ hi_ rfl 3 (by decide) (hts _ gw_859) (fun _ h9 => h9) hv_ d_Le_find_48 ?_
      clear hv_ hi_ hm_
      refine lv_iload_n hx hb d_Le_find_51 rfl (lv_at hl 4 rfl) ?_
      refine lv_icmp_ne (tgt := 81) hx hb d_Le_find_52 (by decide) (fun cx => ?_) (fun cx => ?_)
      · have hf := ifnP cx hf
        exact wv_mLe_find_81 (fu := fu) F hk_10 _ _ _ _ _ _ _ _ _ hf hkc hks _ _ _ hP hD hS (lv_sub hl [1, 2, 3, 4, 5, 6] rfl)
      · have hf := ifpP cx hf
        refine lv_aload hx hb d_Le_find_55 (lv_at hl 0 rfl) ?_
        obtain ⟨fs_, hm_, r16, hv_, hf⟩ := hf
        obtain ⟨ix_, hi_⟩ := m_ix hm_
        refine va_get (D := D) (ci := 2) (v := va_rf r16) (C := "CoinKeeper$Coin") (T := F_2) (N := 10) hx hb hts i_2 hown hK hP ix_ hi_ rfl 0 (by decide) (hts _ gw_851) (fun _ h9 => h9) hv_ d_Le_find_57 ?_
        clear hv_ hi_ hm_
        obtain ⟨q17, rfl, hf⟩ := hf
        refine W.eq (g2 := F0 m 60 ls [.ref q17]) rfl ?_
        obtain ⟨fs_, hm_, r18, hv_, hf⟩ := hf
        obtain ⟨ix_, hi_⟩ := m_ix hm_
        refine va_get (D := D) (ci := 1) (v := va_rf r18) (C := "CoinKeeper$Block") (T := F_1) (N := 12) hx hb hts i_1 hown hK hP ix_ hi_ rfl 3 (by decide) (hts _ gw_399) (fun _ h9 => h9) hv_ d_Le_find_60 ?_
        clear hv_ hi_ hm_
        obtain ⟨q19, rfl, hf⟩ := hf
        refine W.eq (g2 := F0 m 63 ls [.ref q19]) rfl ?_
        refine lv_aload hx hb d_Le_find_63 (lv_at hl 0 rfl) ?_
        obtain ⟨fs_, hm_, v20, hv_, hf⟩ := hf
        obtain ⟨ix_, hi_⟩ := m_ix hm_
        refine va_get (D := D) (ci := 2) (v := .int v20) (C := "CoinKeeper$Coin") (T := F_2) (N := 10) hx hb hts i_2 hown hK hP ix_ hi_ rfl 1 (by decide) (hts _ gw_855) (fun _ h9 => h9) hv_ d_Le_find_65 ?_
        clear hv_ hi_ hm_
        refine lv_aload_n hx hb d_Le_find_68 rfl (lv_at hl 2 rfl) ?_
        refine lv_iload_n hx hb d_Le_find_69 rfl (lv_at hl 3 rfl) ?_
        refine lv_bipush (v := 32) hx hb d_Le_find_70 (by decide) ?_
        by_cases cx : q19 = x1
        · have hg_ := ifpP cx hf
          clear hf
          subst cx
          have hf := hg_
          clear hg_
          obtain ⟨c21, c22, hal_, hnd_, v23, hc, hf⟩ := hf
          refine m_li (va_runSN (As := [.ref q19, .int v20, .ref q19, .int x2, .int (32 : Int32)]) (rest := []) ⟨hx, hb, hml, hown, hts⟩ (c_K_same_e20 l D cy ad fu q19 c21 c22 v20 x2 (32 : Int32) _ hc H.size) ⟨q_cN hts hSt.2.1 gw_746 gw_1 (List.mem_of_getElem? (i := 20) rfl) hdq_15 ⟨Nat.le_of_ble_eq_true rfl, Nat.le_of_ble_eq_true rfl⟩, hts _ gw_745, trivial⟩ (q_pre (m_subP hP hal_) (m_subD hD hal_ hnd_) hK hSt hS (m_lF hD hS hA hal_) _) rfl rfl hl.1 rfl (lv_room (Nat.le_of_ble_eq_true rfl)) d_Le_find_72 ⟨hkc, hks⟩) hP hD hS hA hal_ rfl (fun H locs hP hD hS => ?_)
          refine W.widen (k := κ + mc3 + mc9) (n := σ + ms4 + ms10) (Nat.le_refl _) (Nat.le_refl _) ?_
          obtain ⟨M24, eM_, hf⟩ := bnP hf
          have hP : va_P D classes (mw M24) H := by rw [eM_]; exact hP
          have hD : va_D A (mw M24) := by rw [eM_]; exact hD
          clear eM_ hal_ hnd_ hc
          refine lv_if_eq (tgt := 81) hx hb d_Le_find_75 (by decide) (fun cx => ?_) (fun cx => ?_)
          · have hf := ifpP cx hf
            exact wv_mLe_find_81 (fu := fu) F hk_10 _ _ _ _ _ _ _ _ _ hf hkc hks _ _ _ hP hD hS (lv_sub hl [1, 2, 3, 4, 5, 6] rfl)
          · have hf := ifnP cx hf
            refine lv_aload hx hb d_Le_find_78 (lv_at hl 0 rfl) ?_
            refine W.widen (k := MC) (n := MS) hkc hks ?_
            exact m_ra hf rfl hx hb hr (Or.inl ⟨_, rfl⟩) hlocks hK hP hD hS d_Le_find_80
        · have hf := ifnP cx hf
          obtain ⟨c25, c26, c27, c28, hal_, hnd_, v29, hc, hf⟩ := hf
          refine m_li (va_runSN (As := [.ref q19, .int v20, .ref x1, .int x2, .int (32 : Int32)]) (rest := []) ⟨hx, hb, hml, hown, hts⟩ (c_K_same l D cy ad fu q19 x1 c25 c26 c27 c28 v20 x2 (32 : Int32) _ hc H.size) ⟨q_cN hts hSt.2.1 gw_746 gw_1 (List.mem_of_getElem? (i := 20) rfl) hdq_15 ⟨Nat.le_of_ble_eq_true rfl, Nat.le_of_ble_eq_true rfl⟩, hts _ gw_745, trivial⟩ (q_pre (m_subP hP hal_) (m_subD hD hal_ hnd_) hK hSt hS (m_lF hD hS hA hal_) _) rfl rfl hl.1 rfl (lv_room (Nat.le_of_ble_eq_true rfl)) d_Le_find_72 ⟨hkc, hks⟩) hP hD hS hA hal_ rfl (fun H locs hP hD hS => ?_)
          refine W.widen (k := κ + mc3 + mc9) (n := σ + ms4 + ms10) (Nat.le_refl _) (Nat.le_refl _) ?_
          obtain ⟨M30, eM_, hf⟩ := bnP hf
          have hP : va_P D classes (mw M30) H := by rw [eM_]; exact hP
          have hD : va_D A (mw M30) := by rw [eM_]; exact hD
          clear eM_ hal_ hnd_ hc
          refine lv_if_eq (tgt := 81) hx hb d_Le_find_75 (by decide) (fun cx => ?_) (fun cx => ?_)
          · have hf := ifpP cx hf
            exact wv_mLe_find_81 (fu := fu) F hk_10 _ _ _ _ _ _ _ _ _ hf hkc hks _ _ _ hP hD hS (lv_sub hl [1, 2, 3, 4, 5, 6] rfl)
          · have hf := ifnP cx hf
            refine lv_aload hx hb d_Le_find_78 (lv_at hl 0 rfl) ?_
            refine W.widen (k := MC) (n := MS) hkc hks ?_
            exact m_ra hf rfl hx hb hr (Or.inl ⟨_, rfl⟩) hlocks hK hP hD hS d_Le_find_80
theorem ww_mLe_find_10 {p : Program} {l : Launch} {e : Env} {s : State} {m : MethodId} {args : Array Value} {below : List Frame} {meth : Method} {c : Code} {D : va_G} {cy : Nat → ClassId} {A : Nat → Prop} {ad : Nat → Nat} {mi MC MS : Nat} {Φ : Option Nat → Mm → Prop} {fu : Nat} (F : FxM p s m args meth c b_Le_find 7 "CoinKeeper$Ledger" "find" (Option.some (Jvm.ClassFile.FieldType.object "CoinKeeper$Coin")) D cy ad mi A) : ∀ n : Nat, Iw_mLe_find_10 p l e s m args below meth c D cy A ad mi MC MS Φ (xw_mLe_find_10 fu MC MS cy ad mi Φ n)
  | 0 => fun _ _ _ _ _ _ _ _ _ hf => False.elim hf
  | n + 1 => wv_mLe_find_10 F (ww_mLe_find_10 F n)
theorem hdq_16 : ({ cls := "CoinKeeper", name := "word", desc := "([BI)I" } : Jvm.MethodName).cls ≠ "java/lang/invoke/MethodHandle" ∧ ({ cls := "CoinKeeper", name := "word", desc := "([BI)I" } : Jvm.MethodName).cls ≠ "java/lang/invoke/VarHandle" ∧ (parseMethodDescriptor ({ cls := "CoinKeeper", name := "word", desc := "([BI)I" } : Jvm.MethodName).desc).map (fun d => d.parameters.length) = some 2 := by decide +kernel
set_option maxHeartbeats 8000000 in
set_option maxRecDepth 100000 in
theorem wew_mLe_find {p : Program} {l : Launch} {e : Env} {s : State} {m : MethodId} {args : Array Value} {below : List Frame} {meth : Method} {c : Code} {D : va_G} {cy : Nat → ClassId} {A : Nat → Prop} {ad : Nat → Nat} {mi MC MS : Nat} {Φ : Option Nat → Mm → Prop} {fu : Nat} (F : FxM p s m args meth c b_Le_find 7 "CoinKeeper$Ledger" "find" (Option.some (Jvm.ClassFile.FieldType.object "CoinKeeper$Coin")) D cy ad mi A) : Iw_mLe_find_e p l e s m args below meth c D cy A ad mi MC MS Φ (xw_mLe_find fu MC MS cy ad mi Φ) := by
  obtain ⟨⟨hx, hb, hr, hml, hown, hts, hlocks, hK, hA, hSt, hnm, hex⟩, hT, hMi⟩ := id F
  intro κ σ M a0 a1 a2 a3 hf hkc hks H locs ls hP hD hS hl
  unfold xw_mLe_find at hf
  refine lv_aload_n hx hb d_Le_find_0 rfl (lv_at hl 1 rfl) ?_
  refine lv_iload_n hx hb d_Le_find_1 rfl (lv_at hl 2 rfl) ?_
  obtain ⟨c1, c2, hal_, hnd_, v3, hc, hf⟩ := hf
  refine m_li (va_runSN (As := [.ref a1, .int a2]) (rest := []) ⟨hx, hb, hml, hown, hts⟩ (c_K_word l D cy ad fu a1 c1 c2 a2 _ hc H.size) ⟨q_cN hts hSt.2.1 gw_383 gw_1 (List.mem_of_getElem? (i := 19) rfl) hdq_16 ⟨Nat.le_of_ble_eq_true rfl, Nat.le_of_ble_eq_true rfl⟩, hts _ gw_382, trivial⟩ (q_pre (m_subP hP hal_) (m_subD hD hal_ hnd_) hK hSt hS (m_lF hD hS hA hal_) _) rfl rfl hl.1 rfl (lv_room (Nat.le_of_ble_eq_true rfl)) d_Le_find_2 ⟨hkc, hks⟩) hP hD hS hA hal_ rfl (fun H locs hP hD hS => ?_)
  refine W.widen (k := κ) (n := σ) (Nat.le_refl _) (Nat.le_refl _) ?_
  obtain ⟨M4, eM_, hf⟩ := bnP hf
  have hP : va_P D classes (mw M4) H := by rw [eM_]; exact hP
  have hD : va_D A (mw M4) := by rw [eM_]; exact hD
  clear eM_ hal_ hnd_ hc
  refine lv_istore (lv' := [(4, .int v3), (0, .ref a0), (1, .ref a1), (2, .int a2), (3, .int a3)]) hx hb d_Le_find_5 hl (by decide) rfl (fun ls hl => ?_)
  refine lv_iconst (v := 0) hx hb d_Le_find_7 (by decide) ?_
  refine lv_istore (lv' := [(5, .int (0 : Int32)), (4, .int v3), (0, .ref a0), (1, .ref a1), (2, .int a2), (3, .int a3)]) hx hb d_Le_find_8 hl (by decide) rfl (fun ls hl => ?_)
  exact ww_mLe_find_10 F fu _ _ _ _ _ _ _ _ _ hf hkc hks _ _ _ hP hD hS (lv_sub hl [2, 3, 4, 5, 1, 0] rfl)
theorem cw_mLe_find (l : Launch) (D : va_G) (cy : Nat → ClassId) (ad : Nat → Nat) (mi fu MC MS : Nat) (a0 : Nat) (a1 : Nat) (a2 : Int32) (a3 : Int32) (M : Mm) (Φ : Option Nat → Mm → Prop) (hf : xw_mLe_find fu MC MS cy ad mi Φ 0 0 M a0 a1 a2 a3) (sz : Nat) : Met l ({ cls := "CoinKeeper$Ledger", name := "find", desc := "([BII)LCoinKeeper$Coin;" } : Jvm.MethodName) (.code ({ cls := "CoinKeeper$Ledger", name := "find", desc := "([BII)LCoinKeeper$Coin;" } : Jvm.MethodName) b_Le_find 7 (Option.some (Jvm.ClassFile.FieldType.object "CoinKeeper$Coin")) :: gw) (rmw_mLe_find MC MS) (va_Pc [.ref a0, .ref a1, .int a2, .int a3] (PrM D cy ad mi (mw M) sz)) (va_Qq Φ (fun u t => Po D cy (va_A (mw M) sz) (mw u) t) (va_A (mw M) sz)) MC MS (va_A (mw M) sz) :=
  q_metM (Qc := fun A => va_Qq Φ (fun u t => Po D cy A (mw u) t) A) (by decide) rfl rfl (Nat.le_of_ble_eq_true rfl) (fun p e s m below meth c ls F hP hD hS hl => wew_mLe_find (fu := fu) F 0 0 M a0 a1 a2 a3 hf (Nat.zero_le _) (Nat.zero_le _) _ _ _ hP hD hS hl) sz
abbrev b_Le_change : ByteArray := prog_6_method_7_code
theorem d_Le_change_0 : decode b_Le_change 0 = .ok (.aload_n 1, 1) := by decide +kernel
theorem d_Le_change_1 : decode b_Le_change 1 = .ok (.getfield 77, 3) := by decide +kernel
theorem d_Le_change_4 : decode b_Le_change 4 = .ok (.ifCond .ge 24, 3) := by decide +kernel
theorem d_Le_change_7 : decode b_Le_change 7 = .ok (.aload_n 1, 1) := by decide +kernel
theorem d_Le_change_8 : decode b_Le_change 8 = .ok (.aload_n 0, 1) := by decide +kernel
theorem d_Le_change_9 : decode b_Le_change 9 = .ok (.getfield 10, 3) := by decide +kernel
theorem d_Le_change_12 : decode b_Le_change 12 = .ok (.invokevirtual 25, 3) := by decide +kernel
theorem d_Le_change_15 : decode b_Le_change 15 = .ok (.putfield 77, 3) := by decide +kernel
theorem d_Le_change_18 : decode b_Le_change 18 = .ok (.aload_n 0, 1) := by decide +kernel
theorem d_Le_change_19 : decode b_Le_change 19 = .ok (.getfield 10, 3) := by decide +kernel
theorem d_Le_change_22 : decode b_Le_change 22 = .ok (.aload_n 1, 1) := by decide +kernel
theorem d_Le_change_23 : decode b_Le_change 23 = .ok (.invokevirtual 67, 3) := by decide +kernel
theorem d_Le_change_26 : decode b_Le_change 26 = .ok (.pop, 1) := by decide +kernel
theorem d_Le_change_27 : decode b_Le_change 27 = .ok (.return_, 1) := by decide +kernel
theorem d_Le_change_28 : decode b_Le_change 28 = .ok (.aload_n 0, 1) := by decide +kernel
theorem d_Le_change_29 : decode b_Le_change 29 = .ok (.getfield 10, 3) := by decide +kernel
theorem d_Le_change_32 : decode b_Le_change 32 = .ok (.aload_n 0, 1) := by decide +kernel
theorem d_Le_change_33 : decode b_Le_change 33 = .ok (.getfield 10, 3) := by decide +kernel
theorem d_Le_change_36 : decode b_Le_change 36 = .ok (.invokevirtual 25, 3) := by decide +kernel
theorem d_Le_change_39 : decode b_Le_change 39 = .ok (.iconst 1, 1) := by decide +kernel
theorem d_Le_change_40 : decode b_Le_change 40 = .ok (.isub, 1) := by decide +kernel
theorem d_Le_change_41 : decode b_Le_change 41 = .ok (.invokevirtual 74, 3) := by decide +kernel
theorem d_Le_change_44 : decode b_Le_change 44 = .ok (.checkcast 33, 3) := by decide +kernel
theorem d_Le_change_47 : decode b_Le_change 47 = .ok (.astore_n 2, 1) := by decide +kernel
theorem d_Le_change_48 : decode b_Le_change 48 = .ok (.aload_n 2, 1) := by decide +kernel
theorem d_Le_change_49 : decode b_Le_change 49 = .ok (.aload_n 1, 1) := by decide +kernel
theorem d_Le_change_50 : decode b_Le_change 50 = .ok (.if_acmp .eq 24, 3) := by decide +kernel
theorem d_Le_change_53 : decode b_Le_change 53 = .ok (.aload_n 0, 1) := by decide +kernel
theorem d_Le_change_54 : decode b_Le_change 54 = .ok (.getfield 10, 3) := by decide +kernel
theorem d_Le_change_57 : decode b_Le_change 57 = .ok (.aload_n 1, 1) := by decide +kernel
theorem d_Le_change_58 : decode b_Le_change 58 = .ok (.getfield 77, 3) := by decide +kernel
theorem d_Le_change_61 : decode b_Le_change 61 = .ok (.aload_n 2, 1) := by decide +kernel
theorem d_Le_change_62 : decode b_Le_change 62 = .ok (.invokevirtual 80, 3) := by decide +kernel
theorem d_Le_change_65 : decode b_Le_change 65 = .ok (.pop, 1) := by decide +kernel
theorem d_Le_change_66 : decode b_Le_change 66 = .ok (.aload_n 2, 1) := by decide +kernel
theorem d_Le_change_67 : decode b_Le_change 67 = .ok (.aload_n 1, 1) := by decide +kernel
theorem d_Le_change_68 : decode b_Le_change 68 = .ok (.getfield 77, 3) := by decide +kernel
theorem d_Le_change_71 : decode b_Le_change 71 = .ok (.putfield 77, 3) := by decide +kernel
theorem d_Le_change_74 : decode b_Le_change 74 = .ok (.aload_n 1, 1) := by decide +kernel
theorem d_Le_change_75 : decode b_Le_change 75 = .ok (.iconst (-1), 1) := by decide +kernel
theorem d_Le_change_76 : decode b_Le_change 76 = .ok (.putfield 77, 3) := by decide +kernel
theorem d_Le_change_79 : decode b_Le_change 79 = .ok (.return_, 1) := by decide +kernel
abbrev rmw_mLe_change (MC MS : Nat) : Room := { frames := 7, cells := MC, slots := MS, locals := 161 }
def Iw_mLe_change_74 (p : Program) (l : Launch) (e : Env) (s : State) (m : MethodId) (args : Array Value) (below : List Frame) (meth : Method) (c : Code) (D : va_G) (cy : Nat → ClassId) (A : Nat → Prop) (ad : Nat → Nat) (mi MC MS : Nat) (Φ : Mm → Prop) (k : Nat → Nat → Mm → Nat → Prop) : Prop :=
  ∀ (κ σ : Nat) (M : Mm) (x1 : Nat), k κ σ M x1 → κ ≤ MC → σ ≤ MS → ∀ (H : Heap) (locs : List Loc) (ls : Array Slot), va_P D classes (mw M) H → va_D A (mw M) → va_S A s.heap H locs → lv_has ls 3 [(1, .ref x1)] → W p l e (rmw_mLe_change MC MS) s m args below meth c H locs κ σ (MQ below (va_Qv Φ (fun u t => Po D cy A (mw u) t) A) args s MC MS A) (F0 m 74 ls [])
def Iw_mLe_change_e (p : Program) (l : Launch) (e : Env) (s : State) (m : MethodId) (args : Array Value) (below : List Frame) (meth : Method) (c : Code) (D : va_G) (cy : Nat → ClassId) (A : Nat → Prop) (ad : Nat → Nat) (mi MC MS : Nat) (Φ : Mm → Prop) (k : Nat → Nat → Mm → Nat → Nat → Prop) : Prop :=
  ∀ (κ σ : Nat) (M : Mm) (a0 : Nat) (a1 : Nat), k κ σ M a0 a1 → κ ≤ MC → σ ≤ MS → ∀ (H : Heap) (locs : List Loc) (ls : Array Slot), va_P D classes (mw M) H → va_D A (mw M) → va_S A s.heap H locs → lv_has ls 3 [(0, .ref a0), (1, .ref a1)] → W p l e (rmw_mLe_change MC MS) s m args below meth c H locs κ σ (MQ below (va_Qv Φ (fun u t => Po D cy A (mw u) t) A) args s MC MS A) (F0 m 0 ls [])
set_option maxHeartbeats 8000000 in
set_option maxRecDepth 100000 in
theorem wv_mLe_change_74 {p : Program} {l : Launch} {e : Env} {s : State} {m : MethodId} {args : Array Value} {below : List Frame} {meth : Method} {c : Code} {D : va_G} {cy : Nat → ClassId} {A : Nat → Prop} {ad : Nat → Nat} {mi MC MS : Nat} {Φ : Mm → Prop} {fu : Nat} (F : FxM p s m args meth c b_Le_change 3 "CoinKeeper$Ledger" "change" none D cy ad mi A) : Iw_mLe_change_74 p l e s m args below meth c D cy A ad mi MC MS Φ (xv_mLe_change_74 fu MC MS cy ad mi Φ) := by
  obtain ⟨⟨hx, hb, hr, hml, hown, hts, hlocks, hK, hA, hSt, hnm, hex⟩, hT, hMi⟩ := id F
  intro κ σ M x1 hf hkc hks H locs ls hP hD hS hl
  unfold xv_mLe_change_74 at hf
  refine lv_aload_n hx hb d_Le_change_74 rfl (lv_at hl 0 rfl) ?_
  refine lv_iconst (v := (-1)) hx hb d_Le_change_75 (by decide) ?_
  obtain ⟨fs_, hm_, hlen_, hf⟩ := hf
  obtain ⟨ix_, hi_⟩ := m_ix hm_
  have hE_ := m_set (y := .inr (2, fs_.set 9 (.int (-1 : Int32)))) hD hi_
  refine va_put (D := D) (ci := 2) (v := .int (-1 : Int32)) (ty := .int) (C := "CoinKeeper$Coin") (T := F_2) (N := 10) hx hb hts i_2 t_2 t_2_ok n_2 hown hK hP hD hS ix_ hi_ rfl 9 (by decide) (hts _ gw_873) (fun _ h9 => h9) rfl (by decide +kernel) rfl rfl hlen_ d_Le_change_76 (fun H locs hP hD hS => ?_)
  obtain ⟨M1, eM_⟩ : ∃ z, z = mu M x1 (.inr (2, fs_.set 9 (.int (-1 : Int32)))) := ⟨_, rfl⟩
  rw [← eM_] at hf hE_
  rw [hE_] at hP hD
  clear hE_ eM_ hi_ hm_
  refine W.widen (k := MC) (n := MS) hkc hks ?_
  exact m_rv hf hx hb hr hlocks hK hP hD hS d_Le_change_79
theorem hdq_17 : ({ cls := "java/util/ArrayList", name := "remove", desc := "(I)Ljava/lang/Object;" } : Jvm.MethodName).cls ≠ "java/lang/invoke/MethodHandle" ∧ ({ cls := "java/util/ArrayList", name := "remove", desc := "(I)Ljava/lang/Object;" } : Jvm.MethodName).cls ≠ "java/lang/invoke/VarHandle" ∧ (parseMethodDescriptor ({ cls := "java/util/ArrayList", name := "remove", desc := "(I)Ljava/lang/Object;" } : Jvm.MethodName).desc).map (fun d => d.parameters.length) = some 1 := by decide +kernel
theorem hdq_18 : ({ cls := "java/util/ArrayList", name := "set", desc := "(ILjava/lang/Object;)Ljava/lang/Object;" } : Jvm.MethodName).cls ≠ "java/lang/invoke/MethodHandle" ∧ ({ cls := "java/util/ArrayList", name := "set", desc := "(ILjava/lang/Object;)Ljava/lang/Object;" } : Jvm.MethodName).cls ≠ "java/lang/invoke/VarHandle" ∧ (parseMethodDescriptor ({ cls := "java/util/ArrayList", name := "set", desc := "(ILjava/lang/Object;)Ljava/lang/Object;" } : Jvm.MethodName).desc).map (fun d => d.parameters.length) = some 2 := by decide +kernel
theorem hdq_19 : ({ cls := "java/util/ArrayList", name := "add", desc := "(Ljava/lang/Object;)Z" } : Jvm.MethodName).cls ≠ "java/lang/invoke/MethodHandle" ∧ ({ cls := "java/util/ArrayList", name := "add", desc := "(Ljava/lang/Object;)Z" } : Jvm.MethodName).cls ≠ "java/lang/invoke/VarHandle" ∧ (parseMethodDescriptor ({ cls := "java/util/ArrayList", name := "add", desc := "(Ljava/lang/Object;)Z" } : Jvm.MethodName).desc).map (fun d => d.parameters.length) = some 1 := by decide +kernel
set_option maxHeartbeats 8000000 in
set_option maxRecDepth 100000 in
theorem wew_mLe_change {p : Program} {l : Launch} {e : Env} {s : State} {m : MethodId} {args : Array Value} {below : List Frame} {meth : Method} {c : Code} {D : va_G} {cy : Nat → ClassId} {A : Nat → Prop} {ad : Nat → Nat} {mi MC MS : Nat} {Φ : Mm → Prop} {fu : Nat} (F : FxM p s m args meth c b_Le_change 3 "CoinKeeper$Ledger" "change" none D cy ad mi A) : Iw_mLe_change_e p l e s m args below meth c D cy A ad mi MC MS Φ (xw_mLe_change fu MC MS cy ad mi Φ) := by
  obtain ⟨⟨hx, hb, hr, hml, hown, hts, hlocks, hK, hA, hSt, hnm, hex⟩, hT, hMi⟩ := id F
  intro κ σ M a0 a1 hf hkc hks H locs ls hP hD hS hl
  unfold xw_mLe_change at hf
  refine lv_aload_n hx hb d_Le_change_0 rfl (lv_at hl 1 rfl) ?_
  obtain ⟨fs_, hm_, v1, hv_, hf⟩ := hf
  obtain ⟨ix_, hi_⟩ := m_ix hm_
  refine va_get (D := D) (ci := 2) (v := .int v1) (C := "CoinKeeper$Coin") (T := F_2) (N := 10) hx hb hts i_2 hown hK hP ix_ hi_ rfl 9 (by decide) (hts _ gw_873) (fun _ h9 => h9) hv_ d_Le_change_1 ?_
  clear hv_ hi_ hm_
  refine lv_if_ge (tgt := 28) hx hb d_Le_change_4 (by decide) (fun cx => ?_) (fun cx => ?_)
  · have hf := ifpP cx hf
    refine lv_aload_n hx hb d_Le_change_28 rfl (lv_at hl 0 rfl) ?_
    obtain ⟨fs_, hm_, r2, hv_, hf⟩ := hf
    obtain ⟨ix_, hi_⟩ := m_ix hm_
    refine va_get (D := D) (ci := 5) (v := va_rf r2) (C := "CoinKeeper$Ledger") (T := F_5) (N := 2) hx hb hts i_5 hown hK hP ix_ hi_ rfl 0 (by decide) (hts _ gw_363) (fun _ h9 => h9) hv_ d_Le_change_29 ?_
    clear hv_ hi_ hm_
    obtain ⟨q3, rfl, hf⟩ := hf
    refine W.eq (g2 := F0 m 32 ls [.ref q3]) rfl ?_
    refine lv_aload_n hx hb d_Le_change_32 rfl (lv_at hl 0 rfl) ?_
    obtain ⟨fs_, hm_, r4, hv_, hf⟩ := hf
    obtain ⟨ix_, hi_⟩ := m_ix hm_
    refine va_get (D := D) (ci := 5) (v := va_rf r4) (C := "CoinKeeper$Ledger") (T := F_5) (N := 2) hx hb hts i_5 hown hK hP ix_ hi_ rfl 0 (by decide) (hts _ gw_363) (fun _ h9 => h9) hv_ d_Le_change_33 ?_
    clear hv_ hi_ hm_
    obtain ⟨q5, rfl, hf⟩ := hf
    refine W.eq (g2 := F0 m 36 ls [.ref q5, .ref q3]) rfl ?_
    obtain ⟨fs_, hm_, hf⟩ := hf
    obtain ⟨ix_, hi_⟩ := m_ix hm_
    obtain ⟨mc6, ms7, ⟨hc_, hd_⟩, hf⟩ := hf
    refine mm_ai (va_runV (C := "java/util/ArrayList") (As := []) (rest := [.ref q3]) ⟨hx, hb, hml, hown, hts⟩ (cw_mAl_size l D cy ad mi fu mc6 ms7 q5 M _ hf H.size) ⟨q_cB hts gw_551 gw_12 gw_548 hdq_13 ⟨Nat.le_of_ble_eq_true rfl, Nat.le_of_ble_eq_true rfl⟩, hts _ gw_549, hts _ gw_550⟩ (q_preVM (q_preM hP hD hK hSt hT hMi hS (m_free hD hS hA) _) (va_recv hK hP (ci := 11) (q0 := ix_) rfl hi_)) rfl rfl hl.1 rfl (lv_room (Nat.le_of_ble_eq_true rfl)) d_Le_change_36 ⟨hc_, hd_⟩) hD hS hA (fun v9 M8 H locs hf hP hD hS => ?_)
    have hkc : κ + mc6 ≤ MC := hc_
    have hks : σ + ms7 ≤ MS := hd_
    clear hc_ hd_
    refine lv_iconst (v := 1) hx hb d_Le_change_39 (by decide) ?_
    refine lv_isub hx hb d_Le_change_40 ?_
    refine lv_topi (fun v10 ev => ?_)
    have hf := bnQ ev hf
    clear ev
    obtain ⟨fs_, hm_, hf⟩ := hf
    obtain ⟨ix_, hi_⟩ := m_ix hm_
    obtain ⟨mc11, ms12, ⟨hc_, hd_⟩, hf⟩ := hf
    refine m_aq (va_runV (C := "java/util/ArrayList") (As := [.int v10]) (rest := []) ⟨hx, hb, hml, hown, hts⟩ (cw_mAl_remove l D cy ad mi fu mc11 ms12 q3 v10 M8 _ hf H.size) ⟨q_cB hts gw_907 gw_12 gw_904 hdq_17 ⟨Nat.le_of_ble_eq_true rfl, Nat.le_of_ble_eq_true rfl⟩, hts _ gw_905, hts _ gw_906⟩ (q_preVM (q_preM hP hD hK hSt hT hMi hS (m_free hD hS hA) _) (va_recv hK hP (ci := 11) (q0 := ix_) rfl hi_)) rfl rfl hl.1 rfl (lv_room (Nat.le_of_ble_eq_true rfl)) d_Le_change_41 ⟨hc_, hd_⟩) hD hS hA (fun v14 M13 H locs hf hP hD hS => ?_)
    have hkc : κ + mc6 + mc11 ≤ MC := hc_
    have hks : σ + ms7 + ms12 ≤ MS := hd_
    clear hc_ hd_
    obtain ⟨q15, rfl, hf⟩ := hf
    refine W.eq (g2 := F0 m 44 ls [.ref q15]) rfl ?_
    obtain ⟨fs_, hm_, hf⟩ := hf
    obtain ⟨ix_, hi_⟩ := m_ix hm_
    refine va_castY (C := "CoinKeeper$Coin") hx hb hown (hts _ gw_566) (hSt.2.1 _ (List.mem_of_getElem? (i := 23) rfl)) (va_recv hK hP (ci := 2) (q0 := ix_) rfl hi_) d_Le_change_44 ?_
    clear hi_ hm_
    refine lv_astore_n (lv' := [(2, .ref q15), (0, .ref a0), (1, .ref a1)]) hx hb d_Le_change_47 rfl hl (by decide) rfl (fun ls hl => ?_)
    refine lv_aload_n hx hb d_Le_change_48 rfl (lv_at hl 0 rfl) ?_
    refine lv_aload_n hx hb d_Le_change_49 rfl (lv_at hl 2 rfl) ?_
    refine lv_acmp_eq (rx := (some q15)) (ry := (some a1)) (tgt := 74) hx hb d_Le_change_50 (by decide) (fun cx => ?_) (fun cx => ?_)
    · have hf := ifpP cx hf
      exact wv_mLe_change_74 (fu := fu) F _ _ _ _ hf hkc hks _ _ _ hP hD hS (lv_sub hl [2] rfl)
    · have hf := ifnP cx hf
      refine lv_aload_n hx hb d_Le_change_53 rfl (lv_at hl 1 rfl) ?_
      obtain ⟨fs_, hm_, r16, hv_, hf⟩ := hf
      obtain ⟨ix_, hi_⟩ := m_ix hm_
      refine va_get (D := D) (ci := 5) (v := va_rf r16) (C := "CoinKeeper$Ledger") (T := F_5) (N := 2) hx hb hts i_5 hown hK hP ix_ hi_ rfl 0 (by decide) (hts _ gw_363) (fun _ h9 => h9) hv_ d_Le_change_54 ?_
      clear hv_ hi_ hm_
      obtain ⟨q17, rfl, hf⟩ := hf
      refine W.eq (g2 := F0 m 57 ls [.ref q17]) rfl ?_
      refine lv_aload_n hx hb d_Le_change_57 rfl (lv_at hl 2 rfl) ?_
      obtain ⟨fs_, hm_, v18, hv_, hf⟩ := hf
      obtain ⟨ix_, hi_⟩ := m_ix hm_
      refine va_get (D := D) (ci := 2) (v := .int v18) (C := "CoinKeeper$Coin") (T := F_2) (N := 10) hx hb hts i_2 hown hK hP ix_ hi_ rfl 9 (by decide) (hts _ gw_873) (fun _ h9 => h9) hv_ d_Le_change_58 ?_
      clear hv_ hi_ hm_
      refine lv_aload_n hx hb d_Le_change_61 rfl (lv_at hl 0 rfl) ?_
      obtain ⟨fs_, hm_, hf⟩ := hf
      obtain ⟨ix_, hi_⟩ := m_ix hm_
      obtain ⟨mc19, ms20, ⟨hc_, hd_⟩, hf⟩ := hf
      refine m_aq (va_runV (C := "java/util/ArrayList") (As := [.int v18, .ref q15]) (rest := []) ⟨hx, hb, hml, hown, hts⟩ (cw_mAl_set l D cy ad mi fu mc19 ms20 q17 v18 q15 M13 _ hf H.size) ⟨q_cB hts gw_921 gw_12 gw_918 hdq_18 ⟨Nat.le_of_ble_eq_true rfl, Nat.le_of_ble_eq_true rfl⟩, hts _ gw_919, hts _ gw_920⟩ (q_preVM (q_preM hP hD hK hSt hT hMi hS (m_free hD hS hA) _) (va_recv hK hP (ci := 11) (q0 := ix_) rfl hi_)) rfl rfl hl.1 rfl (lv_room (Nat.le_of_ble_eq_true rfl)) d_Le_change_62 ⟨hc_, hd_⟩) hD hS hA (fun v22 M21 H locs hf hP hD hS => ?_)
      have hkc : κ + mc6 + mc11 + mc19 ≤ MC := hc_
      have hks : σ + ms7 + ms12 + ms20 ≤ MS := hd_
      clear hc_ hd_
      obtain ⟨q23, rfl, hf⟩ := hf
      refine W.eq (g2 := F0 m 65 ls [.ref q23]) rfl ?_
      refine lv_pop hx hb d_Le_change_65 rfl ?_
      refine lv_aload_n hx hb d_Le_change_66 rfl (lv_at hl 0 rfl) ?_
      refine lv_aload_n hx hb d_Le_change_67 rfl (lv_at hl 2 rfl) ?_
      obtain ⟨fs_, hm_, v24, hv_, hf⟩ := hf
      obtain ⟨ix_, hi_⟩ := m_ix hm_
      refine va_get (D := D) (ci := 2) (v := .int v24) (C := "CoinKeeper$Coin") (T := F_2) (N := 10) hx hb hts i_2 hown hK hP ix_ hi_ rfl 9 (by decide) (hts _ gw_873) (fun _ h9 => h9) hv_ d_Le_change_68 ?_
      clear hv_ hi_ hm_
      obtain ⟨fs_, hm_, hlen_, hf⟩ := hf
      obtain ⟨ix_, hi_⟩ := m_ix hm_
      have hE_ := m_set (y := .inr (2, fs_.set 9 (.int v24))) hD hi_
      refine va_put (D := D) (ci := 2) (v := .int v24) (ty := .int) (C := "CoinKeeper$Coin") (T := F_2) (N := 10) hx hb hts i_2 t_2 t_2_ok n_2 hown hK hP hD hS ix_ hi_ rfl 9 (by decide) (hts _ gw_873) (fun _ h9 => h9) rfl (by decide +kernel) rfl rfl hlen_ d_Le_change_71 (fun H locs hP hD hS => ?_)
      obtain ⟨M25, eM_⟩ : ∃ z, z = mu M21 q15 (.inr (2, fs_.set 9 (.int v24))) := ⟨_, rfl⟩
      rw [← eM_] at hf hE_
      rw [hE_] at hP hD
      clear hE_ eM_ hi_ hm_
      exact wv_mLe_change_74 (fu := fu) F _ _ _ _ hf hkc hks _ _ _ hP hD hS (lv_sub hl [2] rfl)
  · have hf := ifnP cx hf
    refine lv_aload_n hx hb d_Le_change_7 rfl (lv_at hl 1 rfl) ?_
    refine lv_aload_n hx hb d_Le_change_8 rfl (lv_at hl 0 rfl) ?_
    obtain ⟨fs_, hm_, r26, hv_, hf⟩ := hf
    obtain ⟨ix_, hi_⟩ := m_ix hm_
    refine va_get (D := D) (ci := 5) (v := va_rf r26) (C := "CoinKeeper$Ledger") (T := F_5) (N := 2) hx hb hts i_5 hown hK hP ix_ hi_ rfl 0 (by decide) (hts _ gw_363) (fun _ h9 => h9) hv_ d_Le_change_9 ?_
    clear hv_ hi_ hm_
    obtain ⟨q27, rfl, hf⟩ := hf
    refine W.eq (g2 := F0 m 12 ls [.ref q27, .ref a1]) rfl ?_
    obtain ⟨fs_, hm_, hf⟩ := hf
    obtain ⟨ix_, hi_⟩ := m_ix hm_
    obtain ⟨mc28, ms29, ⟨hc_, hd_⟩, hf⟩ := hf
    refine mm_ai (va_runV (C := "java/util/ArrayList") (As := []) (rest := [.ref a1]) ⟨hx, hb, hml, hown, hts⟩ (cw_mAl_size l D cy ad mi fu mc28 ms29 q27 M _ hf H.size) ⟨q_cB hts gw_551 gw_12 gw_548 hdq_13 ⟨Nat.le_of_ble_eq_true rfl, Nat.le_of_ble_eq_true rfl⟩, hts _ gw_549, hts _ gw_550⟩ (q_preVM (q_preM hP hD hK hSt hT hMi hS (m_free hD hS hA) _) (va_recv hK hP (ci := 11) (q0 := ix_) rfl hi_)) rfl rfl hl.1 rfl (lv_room (Nat.le_of_ble_eq_true rfl)) d_Le_change_12 ⟨hc_, hd_⟩) hD hS hA (fun v31 M30 H locs hf hP hD hS => ?_)
    have hkc : κ + mc28 ≤ MC := hc_
    have hks : σ + ms29 ≤ MS := hd_
    clear hc_ hd_
    obtain ⟨fs_, hm_, hlen_, hf⟩ := hf
    obtain ⟨ix_, hi_⟩ := m_ix hm_
    have hE_ := m_set (y := .inr (2, fs_.set 9 (.int v31))) hD hi_
    refine va_put (D := D) (ci := 2) (v := .int v31) (ty := .int) (C := "CoinKeeper$Coin") (T := F_2) (N := 10) hx hb hts i_2 t_2 t_2_ok n_2 hown hK hP hD hS ix_ hi_ rfl 9 (by decide) (hts _ gw_873) (fun _ h9 => h9) rfl (by decide +kernel) rfl rfl hlen_ d_Le_change_15 (fun H locs hP hD hS => ?_)
    obtain ⟨M32, eM_⟩ : ∃ z, z = mu M30 a1 (.inr (2, fs_.set 9 (.int v31))) := ⟨_, rfl⟩
    rw [← eM_] at hf hE_
    rw [hE_] at hP hD
    clear hE_ eM_ hi_ hm_
    refine lv_aload_n hx hb d_Le_change_18 rfl (lv_at hl 0 rfl) ?_
    obtain ⟨fs_, hm_, r33, hv_, hf⟩ := hf
    obtain ⟨ix_, hi_⟩ := m_ix hm_
    refine va_get (D := D) (ci := 5) (v := va_rf r33) (C := "CoinKeeper$Ledger") (T := F_5) (N := 2) hx hb hts i_5 hown hK hP ix_ hi_ rfl 0 (by decide) (hts _ gw_363) (fun _ h9 => h9) hv_ d_Le_change_19 ?_
    clear hv_ hi_ hm_
    obtain ⟨q34, rfl, hf⟩ := hf
    refine W.eq (g2 := F0 m 22 ls [.ref q34]) rfl ?_
    refine lv_aload_n hx hb d_Le_change_22 rfl (lv_at hl 1 rfl) ?_
    obtain ⟨fs_, hm_, hf⟩ := hf
    obtain ⟨ix_, hi_⟩ := m_ix hm_
    obtain ⟨mc35, ms36, ⟨hc_, hd_⟩, hf⟩ := hf
    refine mm_ai (va_runV (C := "java/util/ArrayList") (As := [.ref a1]) (rest := []) ⟨hx, hb, hml, hown, hts⟩ (cw_mAl_add0 l D cy ad mi fu mc35 ms36 q34 a1 M32 _ hf H.size) ⟨q_cB hts gw_440 gw_12 gw_917 hdq_19 ⟨Nat.le_of_ble_eq_true rfl, Nat.le_of_ble_eq_true rfl⟩, hts _ gw_438, hts _ gw_439⟩ (q_preVM (q_preM hP hD hK hSt hT hMi hS (m_free hD hS hA) _) (va_recv hK hP (ci := 11) (q0 := ix_) rfl hi_)) rfl rfl hl.1 rfl (lv_room (Nat.le_of_ble_eq_true rfl)) d_Le_change_23 ⟨hc_, hd_⟩) hD hS hA (fun v38 M37 H locs hf hP hD hS => ?_)
    have hkc : κ + mc28 + mc35 ≤ MC := hc_
    have hks : σ + ms29 + ms36 ≤ MS := hd_
    clear hc_ hd_
    refine lv_pop hx hb d_Le_change_26 rfl ?_
    refine W.widen (k := MC) (n := MS) hkc hks ?_
    exact m_rv hf hx hb hr hlocks hK hP hD hS d_Le_change_27
theorem cw_mLe_change (l : Launch) (D : va_G) (cy : Nat → ClassId) (ad : Nat → Nat) (mi fu MC MS : Nat) (a0 : Nat) (a1 : Nat) (M : Mm) (Φ : Mm → Prop) (hf : xw_mLe_change fu MC MS cy ad mi Φ 0 0 M a0 a1) (sz : Nat) : Met l ({ cls := "CoinKeeper$Ledger", name := "change", desc := "(LCoinKeeper$Coin;)V" } : Jvm.MethodName) (.code ({ cls := "CoinKeeper$Ledger", name := "change", desc := "(LCoinKeeper$Coin;)V" } : Jvm.MethodName) b_Le_change 3 none :: gw) (rmw_mLe_change MC MS) (va_Pc [.ref a0, .ref a1] (PrM D cy ad mi (mw M) sz)) (va_Qv Φ (fun u t => Po D cy (va_A (mw M) sz) (mw u) t) (va_A (mw M) sz)) MC MS (va_A (mw M) sz) :=
  q_metM (Qc := fun A => va_Qv Φ (fun u t => Po D cy A (mw u) t) A) (by decide) rfl rfl (Nat.le_of_ble_eq_true rfl) (fun p e s m below meth c ls F hP hD hS hl => wew_mLe_change (fu := fu) F 0 0 M a0 a1 hf (Nat.zero_le _) (Nat.zero_le _) _ _ _ hP hD hS hl) sz
abbrev b_Le_flip : ByteArray := prog_6_method_4_code
theorem d_Le_flip_0 : decode b_Le_flip 0 = .ok (.aload_n 0, 1) := by decide +kernel
theorem d_Le_flip_1 : decode b_Le_flip 1 = .ok (.getfield 16, 3) := by decide +kernel
theorem d_Le_flip_4 : decode b_Le_flip 4 = .ok (.aload_n 1, 1) := by decide +kernel
theorem d_Le_flip_5 : decode b_Le_flip 5 = .ok (.invokevirtual 67, 3) := by decide +kernel
theorem d_Le_flip_8 : decode b_Le_flip 8 = .ok (.pop, 1) := by decide +kernel
theorem d_Le_flip_9 : decode b_Le_flip 9 = .ok (.aload_n 0, 1) := by decide +kernel
theorem d_Le_flip_10 : decode b_Le_flip 10 = .ok (.aload_n 1, 1) := by decide +kernel
theorem d_Le_flip_11 : decode b_Le_flip 11 = .ok (.invokevirtual 71, 3) := by decide +kernel
theorem d_Le_flip_14 : decode b_Le_flip 14 = .ok (.return_, 1) := by decide +kernel
abbrev rmw_mLe_flip (MC MS : Nat) : Room := { frames := 8, cells := MC, slots := MS, locals := 183 }
def Iw_mLe_flip_e (p : Program) (l : Launch) (e : Env) (s : State) (m : MethodId) (args : Array Value) (below : List Frame) (meth : Method) (c : Code) (D : va_G) (cy : Nat → ClassId) (A : Nat → Prop) (ad : Nat → Nat) (mi MC MS : Nat) (Φ : Mm → Prop) (k : Nat → Nat → Mm → Nat → Nat → Prop) : Prop :=
  ∀ (κ σ : Nat) (M : Mm) (a0 : Nat) (a1 : Nat), k κ σ M a0 a1 → κ ≤ MC → σ ≤ MS → ∀ (H : Heap) (locs : List Loc) (ls : Array Slot), va_P D classes (mw M) H → va_D A (mw M) → va_S A s.heap H locs → lv_has ls 2 [(0, .ref a0), (1, .ref a1)] → W p l e (rmw_mLe_flip MC MS) s m args below meth c H locs κ σ (MQ below (va_Qv Φ (fun u t => Po D cy A (mw u) t) A) args s MC MS A) (F0 m 0 ls [])
theorem hdq_20 : ({ cls := "CoinKeeper$Ledger", name := "change", desc := "(LCoinKeeper$Coin;)V" } : Jvm.MethodName).cls ≠ "java/lang/invoke/MethodHandle" ∧ ({ cls := "CoinKeeper$Ledger", name := "change", desc := "(LCoinKeeper$Coin;)V" } : Jvm.MethodName).cls ≠ "java/lang/invoke/VarHandle" ∧ (parseMethodDescriptor ({ cls := "CoinKeeper$Ledger", name := "change", desc := "(LCoinKeeper$Coin;)V" } : Jvm.MethodName).desc).map (fun d => d.parameters.length) = some 1 := by decide +kernel
set_option maxHeartbeats 8000000 in
set_option maxRecDepth 100000 in
theorem wew_mLe_flip {p : Program} {l : Launch} {e : Env} {s : State} {m : MethodId} {args : Array Value} {below : List Frame} {meth : Method} {c : Code} {D : va_G} {cy : Nat → ClassId} {A : Nat → Prop} {ad : Nat → Nat} {mi MC MS : Nat} {Φ : Mm → Prop} {fu : Nat} (F : FxM p s m args meth c b_Le_flip 2 "CoinKeeper$Ledger" "flip" none D cy ad mi A) : Iw_mLe_flip_e p l e s m args below meth c D cy A ad mi MC MS Φ (xw_mLe_flip fu MC MS cy ad mi Φ) := by
  obtain ⟨⟨hx, hb, hr, hml, hown, hts, hlocks, hK, hA, hSt, hnm, hex⟩, hT, hMi⟩ := id F
  intro κ σ M a0 a1 hf hkc hks H locs ls hP hD hS hl
  unfold xw_mLe_flip at hf
  refine lv_aload_n hx hb d_Le_flip_0 rfl (lv_at hl 0 rfl) ?_
  obtain ⟨fs_, hm_, r1, hv_, hf⟩ := hf
  obtain ⟨ix_, hi_⟩ := m_ix hm_
  refine va_get (D := D) (ci := 5) (v := va_rf r1) (C := "CoinKeeper$Ledger") (T := F_5) (N := 2) hx hb hts i_5 hown hK hP ix_ hi_ rfl 1 (by decide) (hts _ gw_364) (fun _ h9 => h9) hv_ d_Le_flip_1 ?_
  clear hv_ hi_ hm_
  obtain ⟨q2, rfl, hf⟩ := hf
  refine W.eq (g2 := F0 m 4 ls [.ref q2]) rfl ?_
  refine lv_aload_n hx hb d_Le_flip_4 rfl (lv_at hl 1 rfl) ?_
  obtain ⟨fs_, hm_, hf⟩ := hf
  obtain ⟨ix_, hi_⟩ := m_ix hm_
  obtain ⟨mc3, ms4, ⟨hc_, hd_⟩, hf⟩ := hf
  refine mm_ai (va_runV (C := "java/util/ArrayList") (As := [.ref a1]) (rest := []) ⟨hx, hb, hml, hown, hts⟩ (cw_mAl_add0 l D cy ad mi fu mc3 ms4 q2 a1 M _ hf H.size) ⟨q_cB hts gw_440 gw_12 gw_917 hdq_19 ⟨Nat.le_of_ble_eq_true rfl, Nat.le_of_ble_eq_true rfl⟩, hts _ gw_438, hts _ gw_439⟩ (q_preVM (q_preM hP hD hK hSt hT hMi hS (m_free hD hS hA) _) (va_recv hK hP (ci := 11) (q0 := ix_) rfl hi_)) rfl rfl hl.1 rfl (lv_room (Nat.le_of_ble_eq_true rfl)) d_Le_flip_5 ⟨hc_, hd_⟩) hD hS hA (fun v6 M5 H locs hf hP hD hS => ?_)
  have hkc : κ + mc3 ≤ MC := hc_
  have hks : σ + ms4 ≤ MS := hd_
  clear hc_ hd_
  refine lv_pop hx hb d_Le_flip_8 rfl ?_
  refine lv_aload_n hx hb d_Le_flip_9 rfl (lv_at hl 0 rfl) ?_
  refine lv_aload_n hx hb d_Le_flip_10 rfl (lv_at hl 1 rfl) ?_
  obtain ⟨fs_, hm_, hf⟩ := hf
  obtain ⟨ix_, hi_⟩ := m_ix hm_
  obtain ⟨mc7, ms8, ⟨hc_, hd_⟩, hf⟩ := hf
  refine m_av (va_runV (C := "CoinKeeper$Ledger") (As := [.ref a1]) (rest := []) ⟨hx, hb, hml, hown, hts⟩ (cw_mLe_change l D cy ad mi fu mc7 ms8 a0 a1 M5 _ hf H.size) ⟨q_cB hts gw_916 gw_9 gw_913 hdq_20 ⟨Nat.le_of_ble_eq_true rfl, Nat.le_of_ble_eq_true rfl⟩, hts _ gw_915, hts _ gs_22⟩ (q_preVM (q_preM hP hD hK hSt hT hMi hS (m_free hD hS hA) _) (va_recv hK hP (ci := 5) (q0 := ix_) rfl hi_)) rfl rfl hl.1 rfl (lv_room (Nat.le_of_ble_eq_true rfl)) d_Le_flip_11 ⟨hc_, hd_⟩) hD hS hA (fun M9 H locs hf hP hD hS => ?_)
  have hkc : κ + mc3 + mc7 ≤ MC := hc_
  have hks : σ + ms4 + ms8 ≤ MS := hd_
  clear hc_ hd_
  refine W.widen (k := MC) (n := MS) hkc hks ?_
  exact m_rv hf hx hb hr hlocks hK hP hD hS d_Le_flip_14
theorem cw_mLe_flip (l : Launch) (D : va_G) (cy : Nat → ClassId) (ad : Nat → Nat) (mi fu MC MS : Nat) (a0 : Nat) (a1 : Nat) (M : Mm) (Φ : Mm → Prop) (hf : xw_mLe_flip fu MC MS cy ad mi Φ 0 0 M a0 a1) (sz : Nat) : Met l ({ cls := "CoinKeeper$Ledger", name := "flip", desc := "(LCoinKeeper$Coin;)V" } : Jvm.MethodName) (.code ({ cls := "CoinKeeper$Ledger", name := "flip", desc := "(LCoinKeeper$Coin;)V" } : Jvm.MethodName) b_Le_flip 2 none :: gw) (rmw_mLe_flip MC MS) (va_Pc [.ref a0, .ref a1] (PrM D cy ad mi (mw M) sz)) (va_Qv Φ (fun u t => Po D cy (va_A (mw M) sz) (mw u) t) (va_A (mw M) sz)) MC MS (va_A (mw M) sz) :=
  q_metM (Qc := fun A => va_Qv Φ (fun u t => Po D cy A (mw u) t) A) (by decide) rfl rfl (Nat.le_of_ble_eq_true rfl) (fun p e s m below meth c ls F hP hD hS hl => wew_mLe_flip (fu := fu) F 0 0 M a0 a1 hf (Nat.zero_le _) (Nat.zero_le _) _ _ _ hP hD hS hl) sz
abbrev b_Le_put : ByteArray := prog_6_method_3_code
theorem d_Le_put_0 : decode b_Le_put 0 = .ok (.aload_n 0, 1) := by decide +kernel
theorem d_Le_put_1 : decode b_Le_put 1 = .ok (.aload_n 1, 1) := by decide +kernel
theorem d_Le_put_2 : decode b_Le_put 2 = .ok (.getfield 42, 3) := by decide +kernel
theorem d_Le_put_5 : decode b_Le_put 5 = .ok (.getfield 46, 3) := by decide +kernel
theorem d_Le_put_8 : decode b_Le_put 8 = .ok (.aload_n 1, 1) := by decide +kernel
theorem d_Le_put_9 : decode b_Le_put 9 = .ok (.getfield 52, 3) := by decide +kernel
theorem d_Le_put_12 : decode b_Le_put 12 = .ok (.aload_n 1, 1) := by decide +kernel
theorem d_Le_put_13 : decode b_Le_put 13 = .ok (.getfield 39, 3) := by decide +kernel
theorem d_Le_put_16 : decode b_Le_put 16 = .ok (.invokevirtual 59, 3) := by decide +kernel
theorem d_Le_put_19 : decode b_Le_put 19 = .ok (.astore_n 2, 1) := by decide +kernel
theorem d_Le_put_20 : decode b_Le_put 20 = .ok (.aload_n 2, 1) := by decide +kernel
theorem d_Le_put_21 : decode b_Le_put 21 = .ok (.ifnull 8, 3) := by decide +kernel
theorem d_Le_put_24 : decode b_Le_put 24 = .ok (.aload_n 0, 1) := by decide +kernel
theorem d_Le_put_25 : decode b_Le_put 25 = .ok (.aload_n 2, 1) := by decide +kernel
theorem d_Le_put_26 : decode b_Le_put 26 = .ok (.invokevirtual 63, 3) := by decide +kernel
theorem d_Le_put_29 : decode b_Le_put 29 = .ok (.aload_n 0, 1) := by decide +kernel
theorem d_Le_put_30 : decode b_Le_put 30 = .ok (.aload_n 1, 1) := by decide +kernel
theorem d_Le_put_31 : decode b_Le_put 31 = .ok (.invokevirtual 63, 3) := by decide +kernel
theorem d_Le_put_34 : decode b_Le_put 34 = .ok (.return_, 1) := by decide +kernel
abbrev rmw_mLe_put (MC MS : Nat) : Room := { frames := 9, cells := MC, slots := MS, locals := 204 }
def Iw_mLe_put_29 (p : Program) (l : Launch) (e : Env) (s : State) (m : MethodId) (args : Array Value) (below : List Frame) (meth : Method) (c : Code) (D : va_G) (cy : Nat → ClassId) (A : Nat → Prop) (ad : Nat → Nat) (mi MC MS : Nat) (Φ : Mm → Prop) (k : Nat → Nat → Mm → Nat → Nat → Prop) : Prop :=
  ∀ (κ σ : Nat) (M : Mm) (x0 : Nat) (x1 : Nat), k κ σ M x0 x1 → κ ≤ MC → σ ≤ MS → ∀ (H : Heap) (locs : List Loc) (ls : Array Slot), va_P D classes (mw M) H → va_D A (mw M) → va_S A s.heap H locs → lv_has ls 3 [(0, .ref x0), (1, .ref x1)] → W p l e (rmw_mLe_put MC MS) s m args below meth c H locs κ σ (MQ below (va_Qv Φ (fun u t => Po D cy A (mw u) t) A) args s MC MS A) (F0 m 29 ls [])
def Iw_mLe_put_e (p : Program) (l : Launch) (e : Env) (s : State) (m : MethodId) (args : Array Value) (below : List Frame) (meth : Method) (c : Code) (D : va_G) (cy : Nat → ClassId) (A : Nat → Prop) (ad : Nat → Nat) (mi MC MS : Nat) (Φ : Mm → Prop) (k : Nat → Nat → Mm → Nat → Nat → Prop) : Prop :=
  ∀ (κ σ : Nat) (M : Mm) (a0 : Nat) (a1 : Nat), k κ σ M a0 a1 → κ ≤ MC → σ ≤ MS → ∀ (H : Heap) (locs : List Loc) (ls : Array Slot), va_P D classes (mw M) H → va_D A (mw M) → va_S A s.heap H locs → lv_has ls 3 [(0, .ref a0), (1, .ref a1)] → W p l e (rmw_mLe_put MC MS) s m args below meth c H locs κ σ (MQ below (va_Qv Φ (fun u t => Po D cy A (mw u) t) A) args s MC MS A) (F0 m 0 ls [])
theorem hdq_21 : ({ cls := "CoinKeeper$Ledger", name := "flip", desc := "(LCoinKeeper$Coin;)V" } : Jvm.MethodName).cls ≠ "java/lang/invoke/MethodHandle" ∧ ({ cls := "CoinKeeper$Ledger", name := "flip", desc := "(LCoinKeeper$Coin;)V" } : Jvm.MethodName).cls ≠ "java/lang/invoke/VarHandle" ∧ (parseMethodDescriptor ({ cls := "CoinKeeper$Ledger", name := "flip", desc := "(LCoinKeeper$Coin;)V" } : Jvm.MethodName).desc).map (fun d => d.parameters.length) = some 1 := by decide +kernel
set_option maxHeartbeats 8000000 in
set_option maxRecDepth 100000 in
theorem wv_mLe_put_29 {p : Program} {l : Launch} {e : Env} {s : State} {m : MethodId} {args : Array Value} {below : List Frame} {meth : Method} {c : Code} {D : va_G} {cy : Nat → ClassId} {A : Nat → Prop} {ad : Nat → Nat} {mi MC MS : Nat} {Φ : Mm → Prop} {fu : Nat} (F : FxM p s m args meth c b_Le_put 3 "CoinKeeper$Ledger" "put" none D cy ad mi A) : Iw_mLe_put_29 p l e s m args below meth c D cy A ad mi MC MS Φ (xv_mLe_put_29 fu MC MS cy ad mi Φ) := by
  obtain ⟨⟨hx, hb, hr, hml, hown, hts, hlocks, hK, hA, hSt, hnm, hex⟩, hT, hMi⟩ := id F
  intro κ σ M x0 x1 hf hkc hks H locs ls hP hD hS hl
  unfold xv_mLe_put_29 at hf
  refine lv_aload_n hx hb d_Le_put_29 rfl (lv_at hl 0 rfl) ?_
  refine lv_aload_n hx hb d_Le_put_30 rfl (lv_at hl 1 rfl) ?_
  obtain ⟨fs_, hm_, hf⟩ := hf
  obtain ⟨ix_, hi_⟩ := m_ix hm_
  obtain ⟨mc1, ms2, ⟨hc_, hd_⟩, hf⟩ := hf
  refine m_av (va_runV (C := "CoinKeeper$Ledger") (As := [.ref x1]) (rest := []) ⟨hx, hb, hml, hown, hts⟩ (cw_mLe_flip l D cy ad mi fu mc1 ms2 x0 x1 M _ hf H.size) ⟨q_cB hts gw_952 gw_9 gw_958 hdq_21 ⟨Nat.le_of_ble_eq_true rfl, Nat.le_of_ble_eq_true rfl⟩, hts _ gw_950, hts _ gw_951⟩ (q_preVM (q_preM hP hD hK hSt hT hMi hS (m_free hD hS hA) _) (va_recv hK hP (ci := 5) (q0 := ix_) rfl hi_)) rfl rfl hl.1 rfl (lv_room (Nat.le_of_ble_eq_true rfl)) d_Le_put_31 ⟨hc_, hd_⟩) hD hS hA (fun M3 H locs hf hP hD hS => ?_)
  have hkc : κ + mc1 ≤ MC := hc_
  have hks : σ + ms2 ≤ MS := hd_
  clear hc_ hd_
  refine W.widen (k := MC) (n := MS) hkc hks ?_
  exact m_rv hf hx hb hr hlocks hK hP hD hS d_Le_put_34
theorem hdq_22 : ({ cls := "CoinKeeper$Ledger", name := "find", desc := "([BII)LCoinKeeper$Coin;" } : Jvm.MethodName).cls ≠ "java/lang/invoke/MethodHandle" ∧ ({ cls := "CoinKeeper$Ledger", name := "find", desc := "([BII)LCoinKeeper$Coin;" } : Jvm.MethodName).cls ≠ "java/lang/invoke/VarHandle" ∧ (parseMethodDescriptor ({ cls := "CoinKeeper$Ledger", name := "find", desc := "([BII)LCoinKeeper$Coin;" } : Jvm.MethodName).desc).map (fun d => d.parameters.length) = some 3 := by decide +kernel
set_option maxHeartbeats 8000000 in
set_option maxRecDepth 100000 in
theorem wew_mLe_put {p : Program} {l : Launch} {e : Env} {s : State} {m : MethodId} {args : Array Value} {below : List Frame} {meth : Method} {c : Code} {D : va_G} {cy : Nat → ClassId} {A : Nat → Prop} {ad : Nat → Nat} {mi MC MS : Nat} {Φ : Mm → Prop} {fu : Nat} (F : FxM p s m args meth c b_Le_put 3 "CoinKeeper$Ledger" "put" none D cy ad mi A) : Iw_mLe_put_e p l e s m args below meth c D cy A ad mi MC MS Φ (xw_mLe_put fu MC MS cy ad mi Φ) := by
  obtain ⟨⟨hx, hb, hr, hml, hown, hts, hlocks, hK, hA, hSt, hnm, hex⟩, hT, hMi⟩ := id F
  intro κ σ M a0 a1 hf hkc hks H locs ls hP hD hS hl
  unfold xw_mLe_put at hf
  refine lv_aload_n hx hb d_Le_put_0 rfl (lv_at hl 0 rfl) ?_
  refine lv_aload_n hx hb d_Le_put_1 rfl (lv_at hl 1 rfl) ?_
  obtain ⟨fs_, hm_, r1, hv_, hf⟩ := hf
  obtain ⟨ix_, hi_⟩ := m_ix hm_
  refine va_get (D := D) (ci := 2) (v := va_rf r1) (C := "CoinKeeper$Coin") (T := F_2) (N := 10) hx hb hts i_2 hown hK hP ix_ hi_ rfl 0 (by decide) (hts _ gw_851) (fun _ h9 => h9) hv_ d_Le_put_2 ?_
  clear hv_ hi_ hm_
  obtain ⟨q2, rfl, hf⟩ := hf
  refine W.eq (g2 := F0 m 5 ls [.ref q2, .ref a0]) rfl ?_
  obtain ⟨fs_, hm_, r3, hv_, hf⟩ := hf
  obtain ⟨ix_, hi_⟩ := m_ix hm_
  refine va_get (D := D) (ci := 1) (v := va_rf r3) (C := "CoinKeeper$Block") (T := F_1) (N := 12) hx hb hts i_1 hown hK hP ix_ hi_ rfl 3 (by decide) (hts _ gw_399) (fun _ h9 => h9) hv_ d_Le_put_5 ?_
  clear hv_ hi_ hm_
  obtain ⟨q4, rfl, hf⟩ := hf
  refine W.eq (g2 := F0 m 8 ls [.ref q4, .ref a0]) rfl ?_
  refine lv_aload_n hx hb d_Le_put_8 rfl (lv_at hl 1 rfl) ?_
  obtain ⟨fs_, hm_, v5, hv_, hf⟩ := hf
  obtain ⟨ix_, hi_⟩ := m_ix hm_
  refine va_get (D := D) (ci := 2) (v := .int v5) (C := "CoinKeeper$Coin") (T := F_2) (N := 10) hx hb hts i_2 hown hK hP ix_ hi_ rfl 1 (by decide) (hts _ gw_855) (fun _ h9 => h9) hv_ d_Le_put_9 ?_
  clear hv_ hi_ hm_
  refine lv_aload_n hx hb d_Le_put_12 rfl (lv_at hl 1 rfl) ?_
  obtain ⟨fs_, hm_, v6, hv_, hf⟩ := hf
  obtain ⟨ix_, hi_⟩ := m_ix hm_
  refine va_get (D := D) (ci := 2) (v := .int v6) (C := "CoinKeeper$Coin") (T := F_2) (N := 10) hx hb hts i_2 hown hK hP ix_ hi_ rfl 3 (by decide) (hts _ gw_859) (fun _ h9 => h9) hv_ d_Le_put_13 ?_
  clear hv_ hi_ hm_
  obtain ⟨fs_, hm_, hf⟩ := hf
  obtain ⟨ix_, hi_⟩ := m_ix hm_
  obtain ⟨mc7, ms8, ⟨hc_, hd_⟩, hf⟩ := hf
  refine m_aq (va_runV (C := "CoinKeeper$Ledger") (As := [.ref q4, .int v5, .int v6]) (rest := []) ⟨hx, hb, hml, hown, hts⟩ (cw_mLe_find l D cy ad mi fu mc7 ms8 a0 q4 v5 v6 M _ hf H.size) ⟨q_cB hts gw_934 gw_9 gw_957 hdq_22 ⟨Nat.le_of_ble_eq_true rfl, Nat.le_of_ble_eq_true rfl⟩, hts _ gw_932, hts _ gw_933⟩ (q_preVM (q_preM hP hD hK hSt hT hMi hS (m_free hD hS hA) _) (va_recv hK hP (ci := 5) (q0 := ix_) rfl hi_)) rfl rfl hl.1 rfl (lv_room (Nat.le_of_ble_eq_true rfl)) d_Le_put_16 ⟨hc_, hd_⟩) hD hS hA (fun v10 M9 H locs hf hP hD hS => ?_)
  have hkc : κ + mc7 ≤ MC := hc_
  have hks : σ + ms8 ≤ MS := hd_
  clear hc_ hd_
  have hq_ := ospp hf
  clear hf
  rcases hq_ with ⟨rfl, hf⟩ | ⟨q11, rfl, hf⟩
  · refine W.eq (g2 := F0 m 19 ls [.null]) rfl ?_
    refine lv_astore_nN (lv' := [(2, .null), (0, .ref a0), (1, .ref a1)]) hx hb d_Le_put_19 rfl hl (by decide) rfl (fun ls hl => ?_)
    refine lv_aload_nN hx hb d_Le_put_20 rfl (lv_at hl 0 rfl) ?_
    refine lv_ifnullN (tgt := 29) hx hb d_Le_put_21 (by decide) ?_
    exact wv_mLe_put_29 (fu := fu) F _ _ _ _ _ hf hkc hks _ _ _ hP hD hS (lv_sub hl [1, 2] rfl)
  · refine W.eq (g2 := F0 m 19 ls [.ref q11]) rfl ?_
    refine lv_astore_n (lv' := [(2, .ref q11), (0, .ref a0), (1, .ref a1)]) hx hb d_Le_put_19 rfl hl (by decide) rfl (fun ls hl => ?_)
    refine lv_aload_n hx hb d_Le_put_20 rfl (lv_at hl 0 rfl) ?_
    refine lv_ifnull hx hb d_Le_put_21 ?_
    refine lv_aload_n hx hb d_Le_put_24 rfl (lv_at hl 1 rfl) ?_
    refine lv_aload_n hx hb d_Le_put_25 rfl (lv_at hl 0 rfl) ?_
    obtain ⟨fs_, hm_, hf⟩ := hf
    obtain ⟨ix_, hi_⟩ := m_ix hm_
    obtain ⟨mc12, ms13, ⟨hc_, hd_⟩, hf⟩ := hf
    refine m_av (va_runV (C := "CoinKeeper$Ledger") (As := [.ref q11]) (rest := []) ⟨hx, hb, hml, hown, hts⟩ (cw_mLe_flip l D cy ad mi fu mc12 ms13 a0 q11 M9 _ hf H.size) ⟨q_cB hts gw_952 gw_9 gw_958 hdq_21 ⟨Nat.le_of_ble_eq_true rfl, Nat.le_of_ble_eq_true rfl⟩, hts _ gw_950, hts _ gw_951⟩ (q_preVM (q_preM hP hD hK hSt hT hMi hS (m_free hD hS hA) _) (va_recv hK hP (ci := 5) (q0 := ix_) rfl hi_)) rfl rfl hl.1 rfl (lv_room (Nat.le_of_ble_eq_true rfl)) d_Le_put_26 ⟨hc_, hd_⟩) hD hS hA (fun M14 H locs hf hP hD hS => ?_)
    have hkc : κ + mc7 + mc12 ≤ MC := hc_
    have hks : σ + ms8 + ms13 ≤ MS := hd_
    clear hc_ hd_
    exact wv_mLe_put_29 (fu := fu) F _ _ _ _ _ hf hkc hks _ _ _ hP hD hS (lv_sub hl [1, 2] rfl)
theorem cw_mLe_put (l : Launch) (D : va_G) (cy : Nat → ClassId) (ad : Nat → Nat) (mi fu MC MS : Nat) (a0 : Nat) (a1 : Nat) (M : Mm) (Φ : Mm → Prop) (hf : xw_mLe_put fu MC MS cy ad mi Φ 0 0 M a0 a1) (sz : Nat) : Met l ({ cls := "CoinKeeper$Ledger", name := "put", desc := "(LCoinKeeper$Coin;)V" } : Jvm.MethodName) (.code ({ cls := "CoinKeeper$Ledger", name := "put", desc := "(LCoinKeeper$Coin;)V" } : Jvm.MethodName) b_Le_put 3 none :: gw) (rmw_mLe_put MC MS) (va_Pc [.ref a0, .ref a1] (PrM D cy ad mi (mw M) sz)) (va_Qv Φ (fun u t => Po D cy (va_A (mw M) sz) (mw u) t) (va_A (mw M) sz)) MC MS (va_A (mw M) sz) :=
  q_metM (Qc := fun A => va_Qv Φ (fun u t => Po D cy A (mw u) t) A) (by decide) rfl rfl (Nat.le_of_ble_eq_true rfl) (fun p e s m below meth c ls F hP hD hS hl => wew_mLe_put (fu := fu) F 0 0 M a0 a1 hf (Nat.zero_le _) (Nat.zero_le _) _ _ _ hP hD hS hl) sz
abbrev b_Le_mark : ByteArray := prog_6_method_5_code
theorem d_Le_mark_0 : decode b_Le_mark 0 = .ok (.aload_n 0, 1) := by decide +kernel
theorem d_Le_mark_1 : decode b_Le_mark 1 = .ok (.getfield 16, 3) := by decide +kernel
theorem d_Le_mark_4 : decode b_Le_mark 4 = .ok (.invokevirtual 25, 3) := by decide +kernel
theorem d_Le_mark_7 : decode b_Le_mark 7 = .ok (.ireturn, 1) := by decide +kernel
abbrev rmw_mLe_mark (MC MS : Nat) : Room := { frames := 1, cells := MC, slots := MS, locals := 20 }
def Iw_mLe_mark_e (p : Program) (l : Launch) (e : Env) (s : State) (m : MethodId) (args : Array Value) (below : List Frame) (meth : Method) (c : Code) (D : va_G) (cy : Nat → ClassId) (A : Nat → Prop) (ad : Nat → Nat) (mi MC MS : Nat) (Φ : Int32 → Mm → Prop) (k : Nat → Nat → Mm → Nat → Prop) : Prop :=
  ∀ (κ σ : Nat) (M : Mm) (a0 : Nat), k κ σ M a0 → κ ≤ MC → σ ≤ MS → ∀ (H : Heap) (locs : List Loc) (ls : Array Slot), va_P D classes (mw M) H → va_D A (mw M) → va_S A s.heap H locs → lv_has ls 1 [(0, .ref a0)] → W p l e (rmw_mLe_mark MC MS) s m args below meth c H locs κ σ (MQ below (va_Qi Φ (fun u t => Po D cy A (mw u) t) A) args s MC MS A) (F0 m 0 ls [])
set_option maxHeartbeats 8000000 in
set_option maxRecDepth 100000 in
theorem wew_mLe_mark {p : Program} {l : Launch} {e : Env} {s : State} {m : MethodId} {args : Array Value} {below : List Frame} {meth : Method} {c : Code} {D : va_G} {cy : Nat → ClassId} {A : Nat → Prop} {ad : Nat → Nat} {mi MC MS : Nat} {Φ : Int32 → Mm → Prop} {fu : Nat} (F : FxM p s m args meth c b_Le_mark 1 "CoinKeeper$Ledger" "mark" (some .int) D cy ad mi A) : Iw_mLe_mark_e p l e s m args below meth c D cy A ad mi MC MS Φ (xw_mLe_mark fu MC MS cy ad mi Φ) := by
  obtain ⟨⟨hx, hb, hr, hml, hown, hts, hlocks, hK, hA, hSt, hnm, hex⟩, hT, hMi⟩ := id F
  intro κ σ M a0 hf hkc hks H locs ls hP hD hS hl
  unfold xw_mLe_mark at hf
  refine lv_aload_n hx hb d_Le_mark_0 rfl (lv_at hl 0 rfl) ?_
  obtain ⟨fs_, hm_, r1, hv_, hf⟩ := hf
  obtain ⟨ix_, hi_⟩ := m_ix hm_
  refine va_get (D := D) (ci := 5) (v := va_rf r1) (C := "CoinKeeper$Ledger") (T := F_5) (N := 2) hx hb hts i_5 hown hK hP ix_ hi_ rfl 1 (by decide) (hts _ gw_364) (fun _ h9 => h9) hv_ d_Le_mark_1 ?_
  clear hv_ hi_ hm_
  obtain ⟨q2, rfl, hf⟩ := hf
  refine W.eq (g2 := F0 m 4 ls [.ref q2]) rfl ?_
  obtain ⟨fs_, hm_, hf⟩ := hf
  obtain ⟨ix_, hi_⟩ := m_ix hm_
  obtain ⟨mc3, ms4, ⟨hc_, hd_⟩, hf⟩ := hf
  refine mm_ai (va_runV (C := "java/util/ArrayList") (As := []) (rest := []) ⟨hx, hb, hml, hown, hts⟩ (cw_mAl_size l D cy ad mi fu mc3 ms4 q2 M _ hf H.size) ⟨q_cB hts gw_551 gw_12 gw_548 hdq_13 ⟨Nat.le_of_ble_eq_true rfl, Nat.le_of_ble_eq_true rfl⟩, hts _ gw_549, hts _ gw_550⟩ (q_preVM (q_preM hP hD hK hSt hT hMi hS (m_free hD hS hA) _) (va_recv hK hP (ci := 11) (q0 := ix_) rfl hi_)) rfl rfl hl.1 rfl (lv_room (Nat.le_of_ble_eq_true rfl)) d_Le_mark_4 ⟨hc_, hd_⟩) hD hS hA (fun v6 M5 H locs hf hP hD hS => ?_)
  have hkc : κ + mc3 ≤ MC := hc_
  have hks : σ + ms4 ≤ MS := hd_
  clear hc_ hd_
  refine W.widen (k := MC) (n := MS) hkc hks ?_
  exact m_ri hf hx hb hr hlocks hK hP hD hS d_Le_mark_7
theorem cw_mLe_mark (l : Launch) (D : va_G) (cy : Nat → ClassId) (ad : Nat → Nat) (mi fu MC MS : Nat) (a0 : Nat) (M : Mm) (Φ : Int32 → Mm → Prop) (hf : xw_mLe_mark fu MC MS cy ad mi Φ 0 0 M a0) (sz : Nat) : Met l ({ cls := "CoinKeeper$Ledger", name := "mark", desc := "()I" } : Jvm.MethodName) (.code ({ cls := "CoinKeeper$Ledger", name := "mark", desc := "()I" } : Jvm.MethodName) b_Le_mark 1 (some .int) :: gw) (rmw_mLe_mark MC MS) (va_Pc [.ref a0] (PrM D cy ad mi (mw M) sz)) (va_Qi Φ (fun u t => Po D cy (va_A (mw M) sz) (mw u) t) (va_A (mw M) sz)) MC MS (va_A (mw M) sz) :=
  q_metM (Qc := fun A => va_Qi Φ (fun u t => Po D cy A (mw u) t) A) (by decide) rfl rfl (Nat.le_of_ble_eq_true rfl) (fun p e s m below meth c ls F hP hD hS hl => wew_mLe_mark (fu := fu) F 0 0 M a0 hf (Nat.zero_le _) (Nat.zero_le _) _ _ _ hP hD hS hl) sz
abbrev b_Le_rollBack : ByteArray := prog_6_method_6_code
theorem d_Le_rollBack_0 : decode b_Le_rollBack 0 = .ok (.aload_n 0, 1) := by decide +kernel
theorem d_Le_rollBack_1 : decode b_Le_rollBack 1 = .ok (.getfield 16, 3) := by decide +kernel
theorem d_Le_rollBack_4 : decode b_Le_rollBack 4 = .ok (.invokevirtual 25, 3) := by decide +kernel
theorem d_Le_rollBack_7 : decode b_Le_rollBack 7 = .ok (.iconst 1, 1) := by decide +kernel
theorem d_Le_rollBack_8 : decode b_Le_rollBack 8 = .ok (.isub, 1) := by decide +kernel
theorem d_Le_rollBack_9 : decode b_Le_rollBack 9 = .ok (.istore_n 2, 1) := by decide +kernel
theorem d_Le_rollBack_10 : decode b_Le_rollBack 10 = .ok (.iload_n 2, 1) := by decide +kernel
theorem d_Le_rollBack_11 : decode b_Le_rollBack 11 = .ok (.iload_n 1, 1) := by decide +kernel
theorem d_Le_rollBack_12 : decode b_Le_rollBack 12 = .ok (.if_icmp .lt 24, 3) := by decide +kernel
theorem d_Le_rollBack_15 : decode b_Le_rollBack 15 = .ok (.aload_n 0, 1) := by decide +kernel
theorem d_Le_rollBack_16 : decode b_Le_rollBack 16 = .ok (.aload_n 0, 1) := by decide +kernel
theorem d_Le_rollBack_17 : decode b_Le_rollBack 17 = .ok (.getfield 16, 3) := by decide +kernel
theorem d_Le_rollBack_20 : decode b_Le_rollBack 20 = .ok (.iload_n 2, 1) := by decide +kernel
theorem d_Le_rollBack_21 : decode b_Le_rollBack 21 = .ok (.invokevirtual 74, 3) := by decide +kernel
theorem d_Le_rollBack_24 : decode b_Le_rollBack 24 = .ok (.checkcast 33, 3) := by decide +kernel
theorem d_Le_rollBack_27 : decode b_Le_rollBack 27 = .ok (.invokevirtual 71, 3) := by decide +kernel
theorem d_Le_rollBack_30 : decode b_Le_rollBack 30 = .ok (.iinc 2 (-1), 3) := by decide +kernel
theorem d_Le_rollBack_33 : decode b_Le_rollBack 33 = .ok (.goto (-23), 3) := by decide +kernel
theorem d_Le_rollBack_36 : decode b_Le_rollBack 36 = .ok (.return_, 1) := by decide +kernel
abbrev rmw_mLe_rollBack (MC MS : Nat) : Room := { frames := 8, cells := MC, slots := MS, locals := 183 }
def Iw_mLe_rollBack_10 (p : Program) (l : Launch) (e : Env) (s : State) (m : MethodId) (args : Array Value) (below : List Frame) (meth : Method) (c : Code) (D : va_G) (cy : Nat → ClassId) (A : Nat → Prop) (ad : Nat → Nat) (mi MC MS : Nat) (Φ : Mm → Prop) (k : Nat → Nat → Mm → Nat → Int32 → Int32 → Prop) : Prop :=
  ∀ (κ σ : Nat) (M : Mm) (x0 : Nat) (x1 : Int32) (x2 : Int32), k κ σ M x0 x1 x2 → κ ≤ MC → σ ≤ MS → ∀ (H : Heap) (locs : List Loc) (ls : Array Slot), va_P D classes (mw M) H → va_D A (mw M) → va_S A s.heap H locs → lv_has ls 3 [(0, .ref x0), (1, .int x1), (2, .int x2)] → W p l e (rmw_mLe_rollBack MC MS) s m args below meth c H locs κ σ (MQ below (va_Qv Φ (fun u t => Po D cy A (mw u) t) A) args s MC MS A) (F0 m 10 ls [])
def Iw_mLe_rollBack_e (p : Program) (l : Launch) (e : Env) (s : State) (m : MethodId) (args : Array Value) (below : List Frame) (meth : Method) (c : Code) (D : va_G) (cy : Nat → ClassId) (A : Nat → Prop) (ad : Nat → Nat) (mi MC MS : Nat) (Φ : Mm → Prop) (k : Nat → Nat → Mm → Nat → Int32 → Prop) : Prop :=
  ∀ (κ σ : Nat) (M : Mm) (a0 : Nat) (a1 : Int32), k κ σ M a0 a1 → κ ≤ MC → σ ≤ MS → ∀ (H : Heap) (locs : List Loc) (ls : Array Slot), va_P D classes (mw M) H → va_D A (mw M) → va_S A s.heap H locs → lv_has ls 3 [(0, .ref a0), (1, .int a1)] → W p l e (rmw_mLe_rollBack MC MS) s m args below meth c H locs κ σ (MQ below (va_Qv Φ (fun u t => Po D cy A (mw u) t) A) args s MC MS A) (F0 m 0 ls [])
set_option maxHeartbeats 8000000 in
set_option maxRecDepth 100000 in
theorem wv_mLe_rollBack_10 {p : Program} {l : Launch} {e : Env} {s : State} {m : MethodId} {args : Array Value} {below : List Frame} {meth : Method} {c : Code} {D : va_G} {cy : Nat → ClassId} {A : Nat → Prop} {ad : Nat → Nat} {mi MC MS : Nat} {Φ : Mm → Prop} {fu : Nat} {k_10 : Nat → Nat → Mm → Nat → Int32 → Int32 → Prop} (F : FxM p s m args meth c b_Le_rollBack 3 "CoinKeeper$Ledger" "rollBack" none D cy ad mi A) (hk_10 : Iw_mLe_rollBack_10 p l e s m args below meth c D cy A ad mi MC MS Φ k_10) : Iw_mLe_rollBack_10 p l e s m args below meth c D cy A ad mi MC MS Φ (xv_mLe_rollBack_10 fu MC MS cy ad mi Φ k_10) := by
  obtain ⟨⟨hx, hb, hr, hml, hown, hts, hlocks, hK, hA, hSt, hnm, hex⟩, hT, hMi⟩ := id F
  intro κ σ M x0 x1 x2 hf hkc hks H locs ls hP hD hS hl
  unfold xv_mLe_rollBack_10 at hf
  refine lv_iload_n hx hb d_Le_rollBack_10 rfl (lv_at hl 2 rfl) ?_
  refine lv_iload_n hx hb d_Le_rollBack_11 rfl (lv_at hl 1 rfl) ?_
  refine lv_icmp_lt (tgt := 36) hx hb d_Le_rollBack_12 (by decide) (fun cx => ?_) (fun cx => ?_)
  · have hf := ifpP cx hf
    refine W.widen (k := MC) (n := MS) hkc hks ?_
    exact m_rv hf hx hb hr hlocks hK hP hD hS d_Le_rollBack_36
  · have hf := ifnP cx hf
    refine lv_aload_n hx hb d_Le_rollBack_15 rfl (lv_at hl 0 rfl) ?_
    refine lv_aload_n hx hb d_Le_rollBack_16 rfl (lv_at hl 0 rfl) ?_
    obtain ⟨fs_, hm_, r1, hv_, hf⟩ := hf
    obtain ⟨ix_, hi_⟩ := m_ix hm_
    refine va_get (D := D) (ci := 5) (v := va_rf r1) (C := "CoinKeeper$Ledger") (T := F_5) (N := 2) hx hb hts i_5 hown hK hP ix_ hi_ rfl 1 (by decide) (hts _ gw_364) (fun _ h9 => h9) hv_ d_Le_rollBack_17 ?_
    clear hv_ hi_ hm_
    obtain ⟨q2, rfl, hf⟩ := hf
    refine W.eq (g2 := F0 m 20 ls [.ref q2, .ref x0]) rfl ?_
    refine lv_iload_n hx hb d_Le_rollBack_20 rfl (lv_at hl 2 rfl) ?_
    obtain ⟨fs_, hm_, hf⟩ := hf
    obtain ⟨ix_, hi_⟩ := m_ix hm_
    obtain ⟨mc3, ms4, ⟨hc_, hd_⟩, hf⟩ := hf
    refine m_aq (va_runV (C := "java/util/ArrayList") (As := [.int x2]) (rest := [.ref x0]) ⟨hx, hb, hml, hown, hts⟩ (cw_mAl_remove l D cy ad mi fu mc3 ms4 q2 x2 M _ hf H.size) ⟨q_cB hts gw_907 gw_12 gw_904 hdq_17 ⟨Nat.le_of_ble_eq_true rfl, Nat.le_of_ble_eq_true rfl⟩, hts _ gw_905, hts _ gw_906⟩ (q_preVM (q_preM hP hD hK hSt hT hMi hS (m_free hD hS hA) _) (va_recv hK hP (ci := 11) (q0 := ix_) rfl hi_)) rfl rfl hl.1 rfl (lv_room (Nat.le_of_ble_eq_true rfl)) d_Le_rollBack_21 ⟨hc_, hd_⟩) hD hS hA (fun v6 M5 H locs hf hP hD hS => ?_)
    have hkc : κ + mc3 ≤ MC := hc_
    have hks : σ + ms4 ≤ MS := hd_
    clear hc_ hd_
    obtain ⟨q7, rfl, hf⟩ := hf
    refine W.eq (g2 := F0 m 24 ls [.ref q7, .ref x0]) rfl ?_
    obtain ⟨fs_, hm_, hf⟩ := hf
    obtain ⟨ix_, hi_⟩ := m_ix hm_
    refine va_castY (C := "CoinKeeper$Coin") hx hb hown (hts _ gw_566) (hSt.2.1 _ (List.mem_of_getElem? (i := 23) rfl)) (va_recv hK hP (ci := 2) (q0 := ix_) rfl hi_) d_Le_rollBack_24 ?_
    clear hi_ hm_
    obtain ⟨fs_, hm_, hf⟩ := hf
    obtain ⟨ix_, hi_⟩ := m_ix hm_
    obtain ⟨mc8, ms9, ⟨hc_, hd_⟩, hf⟩ := hf
    refine m_av (va_runV (C := "CoinKeeper$Ledger") (As := [.ref q7]) (rest := []) ⟨hx, hb, hml, hown, hts⟩ (cw_mLe_change l D cy ad mi fu mc8 ms9 x0 q7 M5 _ hf H.size) ⟨q_cB hts gw_916 gw_9 gw_913 hdq_20 ⟨Nat.le_of_ble_eq_true rfl, Nat.le_of_ble_eq_true rfl⟩, hts _ gw_915, hts _ gs_22⟩ (q_preVM (q_preM hP hD hK hSt hT hMi hS (m_free hD hS hA) _) (va_recv hK hP (ci := 5) (q0 := ix_) rfl hi_)) rfl rfl hl.1 rfl (lv_room (Nat.le_of_ble_eq_true rfl)) d_Le_rollBack_27 ⟨hc_, hd_⟩) hD hS hA (fun M10 H locs hf hP hD hS => ?_)
    have hkc : κ + mc3 + mc8 ≤ MC := hc_
    have hks : σ + ms4 + ms9 ≤ MS := hd_
    clear hc_ hd_
    obtain ⟨v11, ev, hf⟩ := bnP hf
    refine lv_iinc (v := v11) (lv' := [(2, .int v11), (0, .ref x0), (1, .int x1)]) hx hb d_Le_rollBack_30 hl (k := 2) rfl (by rw [ev]; rfl) (by decide) rfl (fun ls hl => ?_)
    clear ev
    refine lv_goto (tgt := 10) hx hb d_Le_rollBack_33 (by decide) ?_
    exact hk_10 _ _ _ _ _ _ hf hkc hks _ _ _ hP hD hS (lv_sub hl [1, 2, 0] rfl)
theorem ww_mLe_rollBack_10 {p : Program} {l : Launch} {e : Env} {s : State} {m : MethodId} {args : Array Value} {below : List Frame} {meth : Method} {c : Code} {D : va_G} {cy : Nat → ClassId} {A : Nat → Prop} {ad : Nat → Nat} {mi MC MS : Nat} {Φ : Mm → Prop} {fu : Nat} (F : FxM p s m args meth c b_Le_rollBack 3 "CoinKeeper$Ledger" "rollBack" none D cy ad mi A) : ∀ n : Nat, Iw_mLe_rollBack_10 p l e s m args below meth c D cy A ad mi MC MS Φ (xw_mLe_rollBack_10 fu MC MS cy ad mi Φ n)
  | 0 => fun _ _ _ _ _ _ hf => False.elim hf
  | n + 1 => wv_mLe_rollBack_10 F (ww_mLe_rollBack_10 F n)
set_option maxHeartbeats 8000000 in
set_option maxRecDepth 100000 in
theorem wew_mLe_rollBack {p : Program} {l : Launch} {e : Env} {s : State} {m : MethodId} {args : Array Value} {below : List Frame} {meth : Method} {c : Code} {D : va_G} {cy : Nat → ClassId} {A : Nat → Prop} {ad : Nat → Nat} {mi MC MS : Nat} {Φ : Mm → Prop} {fu : Nat} (F : FxM p s m args meth c b_Le_rollBack 3 "CoinKeeper$Ledger" "rollBack" none D cy ad mi A) : Iw_mLe_rollBack_e p l e s m args below meth c D cy A ad mi MC MS Φ (xw_mLe_rollBack fu MC MS cy ad mi Φ) := by
  obtain ⟨⟨hx, hb, hr, hml, hown, hts, hlocks, hK, hA, hSt, hnm, hex⟩, hT, hMi⟩ := id F
  intro κ σ M a0 a1 hf hkc hks H locs ls hP hD hS hl
  unfold xw_mLe_rollBack at hf
  refine lv_aload_n hx hb d_Le_rollBack_0 rfl (lv_at hl 0 rfl) ?_
  obtain ⟨fs_, hm_, r1, hv_, hf⟩ := hf
  obtain ⟨ix_, hi_⟩ := m_ix hm_
  refine va_get (D := D) (ci := 5) (v := va_rf r1) (C := "CoinKeeper$Ledger") (T := F_5) (N := 2) hx hb hts i_5 hown hK hP ix_ hi_ rfl 1 (by decide) (hts _ gw_364) (fun _ h9 => h9) hv_ d_Le_rollBack_1 ?_
  clear hv_ hi_ hm_
  obtain ⟨q2, rfl, hf⟩ := hf
  refine W.eq (g2 := F0 m 4 ls [.ref q2]) rfl ?_
  obtain ⟨fs_, hm_, hf⟩ := hf
  obtain ⟨ix_, hi_⟩ := m_ix hm_
  obtain ⟨mc3, ms4, ⟨hc_, hd_⟩, hf⟩ := hf
  refine mm_ai (va_runV (C := "java/util/ArrayList") (As := []) (rest := []) ⟨hx, hb, hml, hown, hts⟩ (cw_mAl_size l D cy ad mi fu mc3 ms4 q2 M _ hf H.size) ⟨q_cB hts gw_551 gw_12 gw_548 hdq_13 ⟨Nat.le_of_ble_eq_true rfl, Nat.le_of_ble_eq_true rfl⟩, hts _ gw_549, hts _ gw_550⟩ (q_preVM (q_preM hP hD hK hSt hT hMi hS (m_free hD hS hA) _) (va_recv hK hP (ci := 11) (q0 := ix_) rfl hi_)) rfl rfl hl.1 rfl (lv_room (Nat.le_of_ble_eq_true rfl)) d_Le_rollBack_4 ⟨hc_, hd_⟩) hD hS hA (fun v6 M5 H locs hf hP hD hS => ?_)
  have hkc : κ + mc3 ≤ MC := hc_
  have hks : σ + ms4 ≤ MS := hd_
  clear hc_ hd_
  refine lv_iconst (v := 1) hx hb d_Le_rollBack_7 (by decide) ?_
  refine lv_isub hx hb d_Le_rollBack_8 ?_
  refine lv_topi (fun v7 ev => ?_)
  have hf := bnQ ev hf
  clear ev
  refine lv_istore_n (lv' := [(2, .int v7), (0, .ref a0), (1, .int a1)]) hx hb d_Le_rollBack_9 rfl hl (by decide) rfl (fun ls hl => ?_)
  exact ww_mLe_rollBack_10 F fu _ _ _ _ _ _ hf hkc hks _ _ _ hP hD hS (lv_sub hl [1, 2, 0] rfl)
theorem cw_mLe_rollBack (l : Launch) (D : va_G) (cy : Nat → ClassId) (ad : Nat → Nat) (mi fu MC MS : Nat) (a0 : Nat) (a1 : Int32) (M : Mm) (Φ : Mm → Prop) (hf : xw_mLe_rollBack fu MC MS cy ad mi Φ 0 0 M a0 a1) (sz : Nat) : Met l ({ cls := "CoinKeeper$Ledger", name := "rollBack", desc := "(I)V" } : Jvm.MethodName) (.code ({ cls := "CoinKeeper$Ledger", name := "rollBack", desc := "(I)V" } : Jvm.MethodName) b_Le_rollBack 3 none :: gw) (rmw_mLe_rollBack MC MS) (va_Pc [.ref a0, .int a1] (PrM D cy ad mi (mw M) sz)) (va_Qv Φ (fun u t => Po D cy (va_A (mw M) sz) (mw u) t) (va_A (mw M) sz)) MC MS (va_A (mw M) sz) :=
  q_metM (Qc := fun A => va_Qv Φ (fun u t => Po D cy A (mw u) t) A) (by decide) rfl rfl (Nat.le_of_ble_eq_true rfl) (fun p e s m below meth c ls F hP hD hS hl => wew_mLe_rollBack (fu := fu) F 0 0 M a0 a1 hf (Nat.zero_le _) (Nat.zero_le _) _ _ _ hP hD hS hl) sz
abbrev b_Le_size : ByteArray := prog_6_method_8_code
theorem d_Le_size_0 : decode b_Le_size 0 = .ok (.aload_n 0, 1) := by decide +kernel
theorem d_Le_size_1 : decode b_Le_size 1 = .ok (.getfield 10, 3) := by decide +kernel
theorem d_Le_size_4 : decode b_Le_size 4 = .ok (.invokevirtual 25, 3) := by decide +kernel
theorem d_Le_size_7 : decode b_Le_size 7 = .ok (.ireturn, 1) := by decide +kernel
abbrev rmw_mLe_size (MC MS : Nat) : Room := { frames := 1, cells := MC, slots := MS, locals := 20 }
def Iw_mLe_size_e (p : Program) (l : Launch) (e : Env) (s : State) (m : MethodId) (args : Array Value) (below : List Frame) (meth : Method) (c : Code) (D : va_G) (cy : Nat → ClassId) (A : Nat → Prop) (ad : Nat → Nat) (mi MC MS : Nat) (Φ : Int32 → Mm → Prop) (k : Nat → Nat → Mm → Nat → Prop) : Prop :=
  ∀ (κ σ : Nat) (M : Mm) (a0 : Nat), k κ σ M a0 → κ ≤ MC → σ ≤ MS → ∀ (H : Heap) (locs : List Loc) (ls : Array Slot), va_P D classes (mw M) H → va_D A (mw M) → va_S A s.heap H locs → lv_has ls 1 [(0, .ref a0)] → W p l e (rmw_mLe_size MC MS) s m args below meth c H locs κ σ (MQ below (va_Qi Φ (fun u t => Po D cy A (mw u) t) A) args s MC MS A) (F0 m 0 ls [])
set_option maxHeartbeats 8000000 in
set_option maxRecDepth 100000 in
theorem wew_mLe_size {p : Program} {l : Launch} {e : Env} {s : State} {m : MethodId} {args : Array Value} {below : List Frame} {meth : Method} {c : Code} {D : va_G} {cy : Nat → ClassId} {A : Nat → Prop} {ad : Nat → Nat} {mi MC MS : Nat} {Φ : Int32 → Mm → Prop} {fu : Nat} (F : FxM p s m args meth c b_Le_size 1 "CoinKeeper$Ledger" "size" (some .int) D cy ad mi A) : Iw_mLe_size_e p l e s m args below meth c D cy A ad mi MC MS Φ (xw_mLe_size fu MC MS cy ad mi Φ) := by
  obtain ⟨⟨hx, hb, hr, hml, hown, hts, hlocks, hK, hA, hSt, hnm, hex⟩, hT, hMi⟩ := id F
  intro κ σ M a0 hf hkc hks H locs ls hP hD hS hl
  unfold xw_mLe_size at hf
  refine lv_aload_n hx hb d_Le_size_0 rfl (lv_at hl 0 rfl) ?_
  obtain ⟨fs_, hm_, r1, hv_, hf⟩ := hf
  obtain ⟨ix_, hi_⟩ := m_ix hm_
  refine va_get (D := D) (ci := 5) (v := va_rf r1) (C := "CoinKeeper$Ledger") (T := F_5) (N := 2) hx hb hts i_5 hown hK hP ix_ hi_ rfl 0 (by decide) (hts _ gw_363) (fun _ h9 => h9) hv_ d_Le_size_1 ?_
  clear hv_ hi_ hm_
  obtain ⟨q2, rfl, hf⟩ := hf
  refine W.eq (g2 := F0 m 4 ls [.ref q2]) rfl ?_
  obtain ⟨fs_, hm_, hf⟩ := hf
  obtain ⟨ix_, hi_⟩ := m_ix hm_
  obtain ⟨mc3, ms4, ⟨hc_, hd_⟩, hf⟩ := hf
  refine mm_ai (va_runV (C := "java/util/ArrayList") (As := []) (rest := []) ⟨hx, hb, hml, hown, hts⟩ (cw_mAl_size l D cy ad mi fu mc3 ms4 q2 M _ hf H.size) ⟨q_cB hts gw_551 gw_12 gw_548 hdq_13 ⟨Nat.le_of_ble_eq_true rfl, Nat.le_of_ble_eq_true rfl⟩, hts _ gw_549, hts _ gw_550⟩ (q_preVM (q_preM hP hD hK hSt hT hMi hS (m_free hD hS hA) _) (va_recv hK hP (ci := 11) (q0 := ix_) rfl hi_)) rfl rfl hl.1 rfl (lv_room (Nat.le_of_ble_eq_true rfl)) d_Le_size_4 ⟨hc_, hd_⟩) hD hS hA (fun v6 M5 H locs hf hP hD hS => ?_)
  have hkc : κ + mc3 ≤ MC := hc_
  have hks : σ + ms4 ≤ MS := hd_
  clear hc_ hd_
  refine W.widen (k := MC) (n := MS) hkc hks ?_
  exact m_ri hf hx hb hr hlocks hK hP hD hS d_Le_size_7
theorem cw_mLe_size (l : Launch) (D : va_G) (cy : Nat → ClassId) (ad : Nat → Nat) (mi fu MC MS : Nat) (a0 : Nat) (M : Mm) (Φ : Int32 → Mm → Prop) (hf : xw_mLe_size fu MC MS cy ad mi Φ 0 0 M a0) (sz : Nat) : Met l ({ cls := "CoinKeeper$Ledger", name := "size", desc := "()I" } : Jvm.MethodName) (.code ({ cls := "CoinKeeper$Ledger", name := "size", desc := "()I" } : Jvm.MethodName) b_Le_size 1 (some .int) :: gw) (rmw_mLe_size MC MS) (va_Pc [.ref a0] (PrM D cy ad mi (mw M) sz)) (va_Qi Φ (fun u t => Po D cy (va_A (mw M) sz) (mw u) t) (va_A (mw M) sz)) MC MS (va_A (mw M) sz) :=
  q_metM (Qc := fun A => va_Qi Φ (fun u t => Po D cy A (mw u) t) A) (by decide) rfl rfl (Nat.le_of_ble_eq_true rfl) (fun p e s m below meth c ls F hP hD hS hl => wew_mLe_size (fu := fu) F 0 0 M a0 hf (Nat.zero_le _) (Nat.zero_le _) _ _ _ hP hD hS hl) sz
abbrev b_Le_values : ByteArray := prog_6_method_9_code
theorem d_Le_values_0 : decode b_Le_values 0 = .ok (.lconst 0, 1) := by decide +kernel
theorem d_Le_values_1 : decode b_Le_values 1 = .ok (.lstore_n 1, 1) := by decide +kernel
theorem d_Le_values_2 : decode b_Le_values 2 = .ok (.iconst 0, 1) := by decide +kernel
theorem d_Le_values_3 : decode b_Le_values 3 = .ok (.istore_n 3, 1) := by decide +kernel
theorem d_Le_values_4 : decode b_Le_values 4 = .ok (.iload_n 3, 1) := by decide +kernel
theorem d_Le_values_5 : decode b_Le_values 5 = .ok (.aload_n 0, 1) := by decide +kernel
theorem d_Le_values_6 : decode b_Le_values 6 = .ok (.getfield 10, 3) := by decide +kernel
theorem d_Le_values_9 : decode b_Le_values 9 = .ok (.invokevirtual 25, 3) := by decide +kernel
theorem d_Le_values_12 : decode b_Le_values 12 = .ok (.if_icmp .ge 26, 3) := by decide +kernel
theorem d_Le_values_15 : decode b_Le_values 15 = .ok (.lload_n 1, 1) := by decide +kernel
theorem d_Le_values_16 : decode b_Le_values 16 = .ok (.aload_n 0, 1) := by decide +kernel
theorem d_Le_values_17 : decode b_Le_values 17 = .ok (.getfield 10, 3) := by decide +kernel
theorem d_Le_values_20 : decode b_Le_values 20 = .ok (.iload_n 3, 1) := by decide +kernel
theorem d_Le_values_21 : decode b_Le_values 21 = .ok (.invokevirtual 29, 3) := by decide +kernel
theorem d_Le_values_24 : decode b_Le_values 24 = .ok (.checkcast 33, 3) := by decide +kernel
theorem d_Le_values_27 : decode b_Le_values 27 = .ok (.getfield 84, 3) := by decide +kernel
theorem d_Le_values_30 : decode b_Le_values 30 = .ok (.ladd, 1) := by decide +kernel
theorem d_Le_values_31 : decode b_Le_values 31 = .ok (.lstore_n 1, 1) := by decide +kernel
theorem d_Le_values_32 : decode b_Le_values 32 = .ok (.iinc 3 1, 3) := by decide +kernel
theorem d_Le_values_35 : decode b_Le_values 35 = .ok (.goto (-31), 3) := by decide +kernel
theorem d_Le_values_38 : decode b_Le_values 38 = .ok (.lload_n 1, 1) := by decide +kernel
theorem d_Le_values_39 : decode b_Le_values 39 = .ok (.lreturn, 1) := by decide +kernel
abbrev rmw_mLe_values (MC MS : Nat) : Room := { frames := 3, cells := MC, slots := MS, locals := 64 }
def Iw_mLe_values_4 (p : Program) (l : Launch) (e : Env) (s : State) (m : MethodId) (args : Array Value) (below : List Frame) (meth : Method) (c : Code) (D : va_G) (cy : Nat → ClassId) (A : Nat → Prop) (ad : Nat → Nat) (mi MC MS : Nat) (Φ : Int64 → Mm → Prop) (k : Nat → Nat → Mm → Nat → Int64 → Int32 → Prop) : Prop :=
  ∀ (κ σ : Nat) (M : Mm) (x0 : Nat) (x1 : Int64) (x3 : Int32), k κ σ M x0 x1 x3 → κ ≤ MC → σ ≤ MS → ∀ (H : Heap) (locs : List Loc) (ls : Array Slot), va_P D classes (mw M) H → va_D A (mw M) → va_S A s.heap H locs → lv_has ls 4 [(0, .ref x0), (1, .long x1), (3, .int x3)] → W p l e (rmw_mLe_values MC MS) s m args below meth c H locs κ σ (MQ below (va_Ql Φ (fun u t => Po D cy A (mw u) t) A) args s MC MS A) (F0 m 4 ls [])
def Iw_mLe_values_e (p : Program) (l : Launch) (e : Env) (s : State) (m : MethodId) (args : Array Value) (below : List Frame) (meth : Method) (c : Code) (D : va_G) (cy : Nat → ClassId) (A : Nat → Prop) (ad : Nat → Nat) (mi MC MS : Nat) (Φ : Int64 → Mm → Prop) (k : Nat → Nat → Mm → Nat → Prop) : Prop :=
  ∀ (κ σ : Nat) (M : Mm) (a0 : Nat), k κ σ M a0 → κ ≤ MC → σ ≤ MS → ∀ (H : Heap) (locs : List Loc) (ls : Array Slot), va_P D classes (mw M) H → va_D A (mw M) → va_S A s.heap H locs → lv_has ls 4 [(0, .ref a0)] → W p l e (rmw_mLe_values MC MS) s m args below meth c H locs κ σ (MQ below (va_Ql Φ (fun u t => Po D cy A (mw u) t) A) args s MC MS A) (F0 m 0 ls [])
set_option maxHeartbeats 8000000 in
set_option maxRecDepth 100000 in
theorem wv_mLe_values_4 {p : Program} {l : Launch} {e : Env} {s : State} {m : MethodId} {args : Array Value} {below : List Frame} {meth : Method} {c : Code} {D : va_G} {cy : Nat → ClassId} {A : Nat → Prop} {ad : Nat → Nat} {mi MC MS : Nat} {Φ : Int64 → Mm → Prop} {fu : Nat} {k_4 : Nat → Nat → Mm → Nat → Int64 → Int32 → Prop} (F : FxM p s m args meth c b_Le_values 4 "CoinKeeper$Ledger" "values" (some .long) D cy ad mi A) (hk_4 : Iw_mLe_values_4 p l e s m args below meth c D cy A ad mi MC MS Φ k_4) : Iw_mLe_values_4 p l e s m args below meth c D cy A ad mi MC MS Φ (xv_mLe_values_4 fu MC MS cy ad mi Φ k_4) := by
  obtain ⟨⟨hx, hb, hr, hml, hown, hts, hlocks, hK, hA, hSt, hnm, hex⟩, hT, hMi⟩ := id F
  intro κ σ M x0 x1 x3 hf hkc hks H locs ls hP hD hS hl
  unfold xv_mLe_values_4 at hf
  refine lv_iload_n hx hb d_Le_values_4 rfl (lv_at hl 2 rfl) ?_
  refine lv_aload_n hx hb d_Le_values_5 rfl (lv_at hl 0 rfl) ?_
  obtain ⟨fs_, hm_, r1, hv_, hf⟩ := hf
  obtain ⟨ix_, hi_⟩ := m_ix hm_
  refine va_get (D := D) (ci := 5) (v := va_rf r1) (C := "CoinKeeper$Ledger") (T := F_5) (N := 2) hx hb hts i_5 hown hK hP ix_ hi_ rfl 0 (by decide) (hts _ gw_363) (fun _ h9 => h9) hv_ d_Le_values_6 ?_
  clear hv_ hi_ hm_
  obtain ⟨q2, rfl, hf⟩ := hf
  refine W.eq (g2 := F0 m 9 ls [.ref q2, .int x3]) rfl ?_
  obtain ⟨fs_, hm_, hf⟩ := hf
  obtain ⟨ix_, hi_⟩ := m_ix hm_
  obtain ⟨mc3, ms4, ⟨hc_, hd_⟩, hf⟩ := hf
  refine mm_ai (va_runV (C := "java/util/ArrayList") (As := []) (rest := [.int x3]) ⟨hx, hb, hml, hown, hts⟩ (cw_mAl_size l D cy ad mi fu mc3 ms4 q2 M _ hf H.size) ⟨q_cB hts gw_551 gw_12 gw_548 hdq_13 ⟨Nat.le_of_ble_eq_true rfl, Nat.le_of_ble_eq_true rfl⟩, hts _ gw_549, hts _ gw_550⟩ (q_preVM (q_preM hP hD hK hSt hT hMi hS (m_free hD hS hA) _) (va_recv hK hP (ci := 11) (q0 := ix_) rfl hi_)) rfl rfl hl.1 rfl (lv_room (Nat.le_of_ble_eq_true rfl)) d_Le_values_9 ⟨hc_, hd_⟩) hD hS hA (fun v6 M5 H locs hf hP hD hS => ?_)
  have hkc : κ + mc3 ≤ MC := hc_
  have hks : σ + ms4 ≤ MS := hd_
  clear hc_ hd_
  refine lv_icmp_ge (tgt := 38) hx hb d_Le_values_12 (by decide) (fun cx => ?_) (fun cx => ?_)
  · have hf := ifpP cx hf
    refine lv_lload_n hx hb d_Le_values_38 rfl (lv_at hl 1 rfl) ?_
    refine W.widen (k := MC) (n := MS) hkc hks ?_
    exact m_rl hf hx hb hr hlocks hK hP hD hS d_Le_values_39
  · have hf := ifnP cx hf
    refine lv_lload_n hx hb d_Le_values_15 rfl (lv_at hl 1 rfl) ?_
    refine lv_aload_n hx hb d_Le_values_16 rfl (lv_at hl 0 rfl) ?_
    obtain ⟨fs_, hm_, r7, hv_, hf⟩ := hf
    obtain ⟨ix_, hi_⟩ := m_ix hm_
    refine va_get (D := D) (ci := 5) (v := va_rf r7) (C := "CoinKeeper$Ledger") (T := F_5) (N := 2) hx hb hts i_5 hown hK hP ix_ hi_ rfl 0 (by decide) (hts _ gw_363) (fun _ h9 => h9) hv_ d_Le_values_17 ?_
    clear hv_ hi_ hm_
    obtain ⟨q8, rfl, hf⟩ := hf
    refine W.eq (g2 := F0 m 20 ls [.ref q8, .long x1]) rfl ?_
    refine lv_iload_n hx hb d_Le_values_20 rfl (lv_at hl 2 rfl) ?_
    obtain ⟨fs_, hm_, hf⟩ := hf
    obtain ⟨ix_, hi_⟩ := m_ix hm_
    obtain ⟨mc9, ms10, ⟨hc_, hd_⟩, hf⟩ := hf
    refine m_aq (va_runV (C := "java/util/ArrayList") (As := [.int x3]) (rest := [.long x1]) ⟨hx, hb, hml, hown, hts⟩ (cw_mAl_get l D cy ad mi fu mc9 ms10 q8 x3 M5 _ hf H.size) ⟨q_cB hts gw_555 gw_12 gw_552 hdq_14 ⟨Nat.le_of_ble_eq_true rfl, Nat.le_of_ble_eq_true rfl⟩, hts _ gw_553, hts _ gw_554⟩ (q_preVM (q_preM hP hD hK hSt hT hMi hS (m_free hD hS hA) _) (va_recv hK hP (ci := 11) (q0 := ix_) rfl hi_)) rfl rfl hl.1 rfl (lv_room (Nat.le_of_ble_eq_true rfl)) d_Le_values_21 ⟨hc_, hd_⟩) hD hS hA (fun v12 M11 H locs hf hP hD hS => ?_)
    have hkc : κ + mc3 + mc9 ≤ MC := hc_
    have hks : σ + ms4 + ms10 ≤ MS := hd_
    clear hc_ hd_
    obtain ⟨q13, rfl, hf⟩ := hf
    refine W.eq (g2 := F0 m 24 ls [.ref q13, .long x1]) rfl ?_
    obtain ⟨fs_, hm_, hf⟩ := hf
    obtain ⟨ix_, hi_⟩ := m_ix hm_
    refine va_castY (C := "CoinKeeper$Coin") hx hb hown (hts _ gw_566) (hSt.2.1 _ (List.mem_of_getElem? (i := 23) rfl)) (va_recv hK hP (ci := 2) (q0 := ix_) rfl hi_) d_Le_values_24 ?_
    clear hi_ hm_
    obtain ⟨fs_, hm_, v14, hv_, hf⟩ := hf
    obtain ⟨ix_, hi_⟩ := m_ix hm_
    refine va_get (D := D) (ci := 2) (v := .long v14) (C := "CoinKeeper$Coin") (T := F_2) (N := 10) hx hb hts i_2 hown hK hP ix_ hi_ rfl 4 (by decide) (hts _ gw_862) (fun _ h9 => h9) hv_ d_Le_values_27 ?_
    clear hv_ hi_ hm_
    refine lv_ladd hx hb d_Le_values_30 ?_
    refine lv_topl (fun v15 ev => ?_)
    have hf := bnQ ev hf
    clear ev
    refine lv_lstore_n (lv' := [(1, .long v15), (0, .ref x0), (3, .int x3)]) hx hb d_Le_values_31 rfl hl (by decide) rfl (fun ls hl => ?_)
    obtain ⟨v16, ev, hf⟩ := bnP hf
    refine lv_iinc (v := v16) (lv' := [(3, .int v16), (1, .long v15), (0, .ref x0)]) hx hb d_Le_values_32 hl (k := 2) rfl (by rw [ev]; rfl) (by decide) rfl (fun ls hl => ?_)
    clear ev
    refine lv_goto (tgt := 4) hx hb d_Le_values_35 (by decide) ?_
    exact hk_4 _ _ _ _ _ _ hf hkc hks _ _ _ hP hD hS (lv_sub hl [2, 1, 0] rfl)
theorem ww_mLe_values_4 {p : Program} {l : Launch} {e : Env} {s : State} {m : MethodId} {args : Array Value} {below : List Frame} {meth : Method} {c : Code} {D : va_G} {cy : Nat → ClassId} {A : Nat → Prop} {ad : Nat → Nat} {mi MC MS : Nat} {Φ : Int64 → Mm → Prop} {fu : Nat} (F : FxM p s m args meth c b_Le_values 4 "CoinKeeper$Ledger" "values" (some .long) D cy ad mi A) : ∀ n : Nat, Iw_mLe_values_4 p l e s m args below meth c D cy A ad mi MC MS Φ (xw_mLe_values_4 fu MC MS cy ad mi Φ n)
  | 0 => fun _ _ _ _ _ _ hf => False.elim hf
  | n + 1 => wv_mLe_values_4 F (ww_mLe_values_4 F n)
set_option maxHeartbeats 8000000 in
set_option maxRecDepth 100000 in
theorem wew_mLe_values {p : Program} {l : Launch} {e : Env} {s : State} {m : MethodId} {args : Array Value} {below : List Frame} {meth : Method} {c : Code} {D : va_G} {cy : Nat → ClassId} {A : Nat → Prop} {ad : Nat → Nat} {mi MC MS : Nat} {Φ : Int64 → Mm → Prop} {fu : Nat} (F : FxM p s m args meth c b_Le_values 4 "CoinKeeper$Ledger" "values" (some .long) D cy ad mi A) : Iw_mLe_values_e p l e s m args below meth c D cy A ad mi MC MS Φ (xw_mLe_values fu MC MS cy ad mi Φ) := by
  obtain ⟨⟨hx, hb, hr, hml, hown, hts, hlocks, hK, hA, hSt, hnm, hex⟩, hT, hMi⟩ := id F
  intro κ σ M a0 hf hkc hks H locs ls hP hD hS hl
  unfold xw_mLe_values at hf
  refine lv_lconst (v := 0) hx hb d_Le_values_0 (by decide) ?_
  refine lv_lstore_n (lv' := [(1, .long (0 : Int64)), (0, .ref a0)]) hx hb d_Le_values_1 rfl hl (by decide) rfl (fun ls hl => ?_)
  refine lv_iconst (v := 0) hx hb d_Le_values_2 (by decide) ?_
  refine lv_istore_n (lv' := [(3, .int (0 : Int32)), (1, .long (0 : Int64)), (0, .ref a0)]) hx hb d_Le_values_3 rfl hl (by decide) rfl (fun ls hl => ?_)
  exact ww_mLe_values_4 F fu _ _ _ _ _ _ hf hkc hks _ _ _ hP hD hS (lv_sub hl [2, 1, 0] rfl)
theorem cw_mLe_values (l : Launch) (D : va_G) (cy : Nat → ClassId) (ad : Nat → Nat) (mi fu MC MS : Nat) (a0 : Nat) (M : Mm) (Φ : Int64 → Mm → Prop) (hf : xw_mLe_values fu MC MS cy ad mi Φ 0 0 M a0) (sz : Nat) : Met l ({ cls := "CoinKeeper$Ledger", name := "values", desc := "()J" } : Jvm.MethodName) (.code ({ cls := "CoinKeeper$Ledger", name := "values", desc := "()J" } : Jvm.MethodName) b_Le_values 4 (some .long) :: gw) (rmw_mLe_values MC MS) (va_Pc [.ref a0] (PrM D cy ad mi (mw M) sz)) (va_Ql Φ (fun u t => Po D cy (va_A (mw M) sz) (mw u) t) (va_A (mw M) sz)) MC MS (va_A (mw M) sz) :=
  q_metM (Qc := fun A => va_Ql Φ (fun u t => Po D cy A (mw u) t) A) (by decide) rfl rfl (Nat.le_of_ble_eq_true rfl) (fun p e s m below meth c ls F hP hD hS hl => wew_mLe_values (fu := fu) F 0 0 M a0 hf (Nat.zero_le _) (Nat.zero_le _) _ _ _ hP hD hS hl) sz
abbrev b_Le_sum : ByteArray := prog_6_method_10_code
theorem d_Le_sum_0 : decode b_Le_sum 0 = .ok (.lconst 0, 1) := by decide +kernel
theorem d_Le_sum_1 : decode b_Le_sum 1 = .ok (.lstore_n 1, 1) := by decide +kernel
theorem d_Le_sum_2 : decode b_Le_sum 2 = .ok (.iconst 0, 1) := by decide +kernel
theorem d_Le_sum_3 : decode b_Le_sum 3 = .ok (.istore_n 3, 1) := by decide +kernel
theorem d_Le_sum_4 : decode b_Le_sum 4 = .ok (.iload_n 3, 1) := by decide +kernel
theorem d_Le_sum_5 : decode b_Le_sum 5 = .ok (.aload_n 0, 1) := by decide +kernel
theorem d_Le_sum_6 : decode b_Le_sum 6 = .ok (.getfield 10, 3) := by decide +kernel
theorem d_Le_sum_9 : decode b_Le_sum 9 = .ok (.invokevirtual 25, 3) := by decide +kernel
theorem d_Le_sum_12 : decode b_Le_sum 12 = .ok (.if_icmp .ge 62, 3) := by decide +kernel
theorem d_Le_sum_15 : decode b_Le_sum 15 = .ok (.aload_n 0, 1) := by decide +kernel
theorem d_Le_sum_16 : decode b_Le_sum 16 = .ok (.getfield 10, 3) := by decide +kernel
theorem d_Le_sum_19 : decode b_Le_sum 19 = .ok (.iload_n 3, 1) := by decide +kernel
theorem d_Le_sum_20 : decode b_Le_sum 20 = .ok (.invokevirtual 29, 3) := by decide +kernel
theorem d_Le_sum_23 : decode b_Le_sum 23 = .ok (.checkcast 33, 3) := by decide +kernel
theorem d_Le_sum_26 : decode b_Le_sum 26 = .ok (.astore 4, 2) := by decide +kernel
theorem d_Le_sum_28 : decode b_Le_sum 28 = .ok (.ldc2_w 88, 3) := by decide +kernel
theorem d_Le_sum_31 : decode b_Le_sum 31 = .ok (.aload 4, 2) := by decide +kernel
theorem d_Le_sum_33 : decode b_Le_sum 33 = .ok (.getfield 35, 3) := by decide +kernel
theorem d_Le_sum_36 : decode b_Le_sum 36 = .ok (.i2l, 1) := by decide +kernel
theorem d_Le_sum_37 : decode b_Le_sum 37 = .ok (.lmul, 1) := by decide +kernel
theorem d_Le_sum_38 : decode b_Le_sum 38 = .ok (.aload 4, 2) := by decide +kernel
theorem d_Le_sum_40 : decode b_Le_sum 40 = .ok (.getfield 39, 3) := by decide +kernel
theorem d_Le_sum_43 : decode b_Le_sum 43 = .ok (.i2l, 1) := by decide +kernel
theorem d_Le_sum_44 : decode b_Le_sum 44 = .ok (.ladd, 1) := by decide +kernel
theorem d_Le_sum_45 : decode b_Le_sum 45 = .ok (.ldc2_w 88, 3) := by decide +kernel
theorem d_Le_sum_48 : decode b_Le_sum 48 = .ok (.lmul, 1) := by decide +kernel
theorem d_Le_sum_49 : decode b_Le_sum 49 = .ok (.aload 4, 2) := by decide +kernel
theorem d_Le_sum_51 : decode b_Le_sum 51 = .ok (.getfield 84, 3) := by decide +kernel
theorem d_Le_sum_54 : decode b_Le_sum 54 = .ok (.ladd, 1) := by decide +kernel
theorem d_Le_sum_55 : decode b_Le_sum 55 = .ok (.lstore 5, 2) := by decide +kernel
theorem d_Le_sum_57 : decode b_Le_sum 57 = .ok (.lload_n 1, 1) := by decide +kernel
theorem d_Le_sum_58 : decode b_Le_sum 58 = .ok (.lload 5, 2) := by decide +kernel
theorem d_Le_sum_60 : decode b_Le_sum 60 = .ok (.lload 5, 2) := by decide +kernel
theorem d_Le_sum_62 : decode b_Le_sum 62 = .ok (.lmul, 1) := by decide +kernel
theorem d_Le_sum_63 : decode b_Le_sum 63 = .ok (.lload 5, 2) := by decide +kernel
theorem d_Le_sum_65 : decode b_Le_sum 65 = .ok (.ladd, 1) := by decide +kernel
theorem d_Le_sum_66 : decode b_Le_sum 66 = .ok (.ladd, 1) := by decide +kernel
theorem d_Le_sum_67 : decode b_Le_sum 67 = .ok (.lstore_n 1, 1) := by decide +kernel
theorem d_Le_sum_68 : decode b_Le_sum 68 = .ok (.iinc 3 1, 3) := by decide +kernel
theorem d_Le_sum_71 : decode b_Le_sum 71 = .ok (.goto (-67), 3) := by decide +kernel
theorem d_Le_sum_74 : decode b_Le_sum 74 = .ok (.lload_n 1, 1) := by decide +kernel
theorem d_Le_sum_75 : decode b_Le_sum 75 = .ok (.lreturn, 1) := by decide +kernel
abbrev rmw_mLe_sum (MC MS : Nat) : Room := { frames := 3, cells := MC, slots := MS, locals := 64 }
def Iw_mLe_sum_4 (p : Program) (l : Launch) (e : Env) (s : State) (m : MethodId) (args : Array Value) (below : List Frame) (meth : Method) (c : Code) (D : va_G) (cy : Nat → ClassId) (A : Nat → Prop) (ad : Nat → Nat) (mi MC MS : Nat) (Φ : Int64 → Mm → Prop) (k : Nat → Nat → Mm → Nat → Int64 → Int32 → Prop) : Prop :=
  ∀ (κ σ : Nat) (M : Mm) (x0 : Nat) (x1 : Int64) (x3 : Int32), k κ σ M x0 x1 x3 → κ ≤ MC → σ ≤ MS → ∀ (H : Heap) (locs : List Loc) (ls : Array Slot), va_P D classes (mw M) H → va_D A (mw M) → va_S A s.heap H locs → lv_has ls 7 [(0, .ref x0), (1, .long x1), (3, .int x3)] → W p l e (rmw_mLe_sum MC MS) s m args below meth c H locs κ σ (MQ below (va_Ql Φ (fun u t => Po D cy A (mw u) t) A) args s MC MS A) (F0 m 4 ls [])
def Iw_mLe_sum_e (p : Program) (l : Launch) (e : Env) (s : State) (m : MethodId) (args : Array Value) (below : List Frame) (meth : Method) (c : Code) (D : va_G) (cy : Nat → ClassId) (A : Nat → Prop) (ad : Nat → Nat) (mi MC MS : Nat) (Φ : Int64 → Mm → Prop) (k : Nat → Nat → Mm → Nat → Prop) : Prop :=
  ∀ (κ σ : Nat) (M : Mm) (a0 : Nat), k κ σ M a0 → κ ≤ MC → σ ≤ MS → ∀ (H : Heap) (locs : List Loc) (ls : Array Slot), va_P D classes (mw M) H → va_D A (mw M) → va_S A s.heap H locs → lv_has ls 7 [(0, .ref a0)] → W p l e (rmw_mLe_sum MC MS) s m args below meth c H locs κ σ (MQ below (va_Ql Φ (fun u t => Po D cy A (mw u) t) A) args s MC MS A) (F0 m 0 ls [])
set_option maxHeartbeats 8000000 in
set_option maxRecDepth 100000 in
theorem wv_mLe_sum_4 {p : Program} {l : Launch} {e : Env} {s : State} {m : MethodId} {args : Array Value} {below : List Frame} {meth : Method} {c : Code} {D : va_G} {cy : Nat → ClassId} {A : Nat → Prop} {ad : Nat → Nat} {mi MC MS : Nat} {Φ : Int64 → Mm → Prop} {fu : Nat} {k_4 : Nat → Nat → Mm → Nat → Int64 → Int32 → Prop} (F : FxM p s m args meth c b_Le_sum 7 "CoinKeeper$Ledger" "sum" (some .long) D cy ad mi A) (hk_4 : Iw_mLe_sum_4 p l e s m args below meth c D cy A ad mi MC MS Φ k_4) : Iw_mLe_sum_4 p l e s m args below meth c D cy A ad mi MC MS Φ (xv_mLe_sum_4 fu MC MS cy ad mi Φ k_4) := by
  obtain ⟨⟨hx, hb, hr, hml, hown, hts, hlocks, hK, hA, hSt, hnm, hex⟩, hT, hMi⟩ := id F
  intro κ σ M x0 x1 x3 hf hkc hks H locs ls hP hD hS hl
  unfold xv_mLe_sum_4 at hf
  refine lv_iload_n hx hb d_Le_sum_4 rfl (lv_at hl 2 rfl) ?_
  refine lv_aload_n hx hb d_Le_sum_5 rfl (lv_at hl 0 rfl) ?_
  obtain ⟨fs_, hm_, r1, hv_, hf⟩ := hf
  obtain ⟨ix_, hi_⟩ := m_ix hm_
  refine va_get (D := D) (ci := 5) (v := va_rf r1) (C := "CoinKeeper$Ledger") (T := F_5) (N := 2) hx hb hts i_5 hown hK hP ix_ hi_ rfl 0 (by decide) (hts _ gw_363) (fun _ h9 => h9) hv_ d_Le_sum_6 ?_
  clear hv_ hi_ hm_
  obtain ⟨q2, rfl, hf⟩ := hf
  refine W.eq (g2 := F0 m 9 ls [.ref q2, .int x3]) rfl ?_
  obtain ⟨fs_, hm_, hf⟩ := hf
  obtain ⟨ix_, hi_⟩ := m_ix hm_
  obtain ⟨mc3, ms4, ⟨hc_, hd_⟩, hf⟩ := hf
  refine mm_ai (va_runV (C := "java/util/ArrayList") (As := []) (rest := [.int x3]) ⟨hx, hb, hml, hown, hts⟩ (cw_mAl_size l D cy ad mi fu mc3 ms4 q2 M _ hf H.size) ⟨q_cB hts gw_551 gw_12 gw_548 hdq_13 ⟨Nat.le_of_ble_eq_true rfl, Nat.le_of_ble_eq_true rfl⟩, hts _ gw_549, hts _ gw_550⟩ (q_preVM (q_preM hP hD hK hSt hT hMi hS (m_free hD hS hA) _) (va_recv hK hP (ci := 11) (q0 := ix_) rfl hi_)) rfl rfl hl.1 rfl (lv_room (Nat.le_of_ble_eq_true rfl)) d_Le_sum_9 ⟨hc_, hd_⟩) hD hS hA (fun v6 M5 H locs hf hP hD hS => ?_)
  have hkc : κ + mc3 ≤ MC := hc_
  have hks : σ + ms4 ≤ MS := hd_
  clear hc_ hd_
  refine lv_icmp_ge (tgt := 74) hx hb d_Le_sum_12 (by decide) (fun cx => ?_) (fun cx => ?_)
  · have hf := ifpP cx hf
    refine lv_lload_n hx hb d_Le_sum_74 rfl (lv_at hl 1 rfl) ?_
    refine W.widen (k := MC) (n := MS) hkc hks ?_
    exact m_rl hf hx hb hr hlocks hK hP hD hS d_Le_sum_75
  · have hf := ifnP cx hf
    refine lv_aload_n hx hb d_Le_sum_15 rfl (lv_at hl 0 rfl) ?_
    obtain ⟨fs_, hm_, r7, hv_, hf⟩ := hf
    obtain ⟨ix_, hi_⟩ := m_ix hm_
    refine va_get (D := D) (ci := 5) (v := va_rf r7) (C := "CoinKeeper$Ledger") (T := F_5) (N := 2) hx hb hts i_5 hown hK hP ix_ hi_ rfl 0 (by decide) (hts _ gw_363) (fun _ h9 => h9) hv_ d_Le_sum_16 ?_
    clear hv_ hi_ hm_
    obtain ⟨q8, rfl, hf⟩ := hf
    refine W.eq (g2 := F0 m 19 ls [.ref q8]) rfl ?_
    refine lv_iload_n hx hb d_Le_sum_19 rfl (lv_at hl 2 rfl) ?_
    obtain ⟨fs_, hm_, hf⟩ := hf
    obtain ⟨ix_, hi_⟩ := m_ix hm_
    obtain ⟨mc9, ms10, ⟨hc_, hd_⟩, hf⟩ := hf
    refine m_aq (va_runV (C := "java/util/ArrayList") (As := [.int x3]) (rest := []) ⟨hx, hb, hml, hown, hts⟩ (cw_mAl_get l D cy ad mi fu mc9 ms10 q8 x3 M5 _ hf H.size) ⟨q_cB hts gw_555 gw_12 gw_552 hdq_14 ⟨Nat.le_of_ble_eq_true rfl, Nat.le_of_ble_eq_true rfl⟩, hts _ gw_553, hts _ gw_554⟩ (q_preVM (q_preM hP hD hK hSt hT hMi hS (m_free hD hS hA) _) (va_recv hK hP (ci := 11) (q0 := ix_) rfl hi_)) rfl rfl hl.1 rfl (lv_room (Nat.le_of_ble_eq_true rfl)) d_Le_sum_20 ⟨hc_, hd_⟩) hD hS hA (fun v12 M11 H locs hf hP hD hS => ?_)
    have hkc : κ + mc3 + mc9 ≤ MC := hc_
    have hks : σ + ms4 + ms10 ≤ MS := hd_
    clear hc_ hd_
    obtain ⟨q13, rfl, hf⟩ := hf
    refine W.eq (g2 := F0 m 23 ls [.ref q13]) rfl ?_
    obtain ⟨fs_, hm_, hf⟩ := hf
    obtain ⟨ix_, hi_⟩ := m_ix hm_
    refine va_castY (C := "CoinKeeper$Coin") hx hb hown (hts _ gw_566) (hSt.2.1 _ (List.mem_of_getElem? (i := 23) rfl)) (va_recv hK hP (ci := 2) (q0 := ix_) rfl hi_) d_Le_sum_23 ?_
    clear hi_ hm_
    refine lv_astore (lv' := [(4, .ref q13), (0, .ref x0), (1, .long x1), (3, .int x3)]) hx hb d_Le_sum_26 hl (by decide) rfl (fun ls hl => ?_)
    refine lv_ldc2 (v := 31) hx hb hown (hts _ gw_567) d_Le_sum_28 ?_
    refine lv_aload hx hb d_Le_sum_31 (lv_at hl 0 rfl) ?_
    obtain ⟨fs_, hm_, v14, hv_, hf⟩ := hf
    obtain ⟨ix_, hi_⟩ := m_ix hm_
    refine va_get (D := D) (ci := 2) (v := .int v14) (C := "CoinKeeper$Coin") (T := F_2) (N := 10) hx hb hts i_2 hown hK hP ix_ hi_ rfl 2 (by decide) (hts _ gw_857) (fun _ h9 => h9) hv_ d_Le_sum_33 ?_
    clear hv_ hi_ hm_
    refine lv_i2l hx hb d_Le_sum_36 rfl ?_
    refine lv_lmul hx hb d_Le_sum_37 ?_
    refine lv_topl (fun v15 ev => ?_)
    have hf := bnQ ev hf
    clear ev
    refine lv_aload hx hb d_Le_sum_38 (lv_at hl 0 rfl) ?_
    obtain ⟨fs_, hm_, v16, hv_, hf⟩ := hf
    obtain ⟨ix_, hi_⟩ := m_ix hm_
    refine va_get (D := D) (ci := 2) (v := .int v16) (C := "CoinKeeper$Coin") (T := F_2) (N := 10) hx hb hts i_2 hown hK hP ix_ hi_ rfl 3 (by decide) (hts _ gw_859) (fun _ h9 => h9) hv_ d_Le_sum_40 ?_
    clear hv_ hi_ hm_
    refine lv_i2l hx hb d_Le_sum_43 rfl ?_
    refine lv_ladd hx hb d_Le_sum_44 ?_
    refine lv_topl (fun v17 ev => ?_)
    have hf := bnQ ev hf
    clear ev
    refine lv_ldc2 (v := 31) hx hb hown (hts _ gw_567) d_Le_sum_45 ?_
    refine lv_lmul hx hb d_Le_sum_48 ?_
    refine lv_topl (fun v18 ev => ?_)
    have hf := bnQ ev hf
    clear ev
    refine lv_aload hx hb d_Le_sum_49 (lv_at hl 0 rfl) ?_
    obtain ⟨fs_, hm_, v19, hv_, hf⟩ := hf
    obtain ⟨ix_, hi_⟩ := m_ix hm_
    refine va_get (D := D) (ci := 2) (v := .long v19) (C := "CoinKeeper$Coin") (T := F_2) (N := 10) hx hb hts i_2 hown hK hP ix_ hi_ rfl 4 (by decide) (hts _ gw_862) (fun _ h9 => h9) hv_ d_Le_sum_51 ?_
    clear hv_ hi_ hm_
    refine lv_ladd hx hb d_Le_sum_54 ?_
    refine lv_topl (fun v20 ev => ?_)
    have hf := bnQ ev hf
    clear ev
    refine lv_lstore (lv' := [(5, .long v20), (4, .ref q13), (0, .ref x0), (1, .long x1), (3, .int x3)]) hx hb d_Le_sum_55 hl (by decide) rfl (fun ls hl => ?_)
    refine lv_lload_n hx hb d_Le_sum_57 rfl (lv_at hl 3 rfl) ?_
    refine lv_lload hx hb d_Le_sum_58 (lv_at hl 0 rfl) ?_
    refine lv_lload hx hb d_Le_sum_60 (lv_at hl 0 rfl) ?_
    refine lv_lmul hx hb d_Le_sum_62 ?_
    refine lv_topl (fun v21 ev => ?_)
    have hf := bnQ ev hf
    clear ev
    refine lv_lload hx hb d_Le_sum_63 (lv_at hl 0 rfl) ?_
    refine lv_ladd hx hb d_Le_sum_65 ?_
    refine lv_ladd hx hb d_Le_sum_66 ?_
    refine lv_topl (fun v22 ev => ?_)
    have hf := bnQ ev hf
    clear ev
    refine lv_lstore_n (lv' := [(1, .long v22), (5, .long v20), (4, .ref q13), (0, .ref x0), (3, .int x3)]) hx hb d_Le_sum_67 rfl hl (by decide) rfl (fun ls hl => ?_)
    obtain ⟨v23, ev, hf⟩ := bnP hf
    refine lv_iinc (v := v23) (lv' := [(3, .int v23), (1, .long v22), (5, .long v20), (4, .ref q13), (0, .ref x0)]) hx hb d_Le_sum_68 hl (k := 4) rfl (by rw [ev]; rfl) (by decide) rfl (fun ls hl => ?_)
    clear ev
    refine lv_goto (tgt := 4) hx hb d_Le_sum_71 (by decide) ?_
    exact hk_4 _ _ _ _ _ _ hf hkc hks _ _ _ hP hD hS (lv_sub hl [4, 1, 0] rfl)
theorem ww_mLe_sum_4 {p : Program} {l : Launch} {e : Env} {s : State} {m : MethodId} {args : Array Value} {below : List Frame} {meth : Method} {c : Code} {D : va_G} {cy : Nat → ClassId} {A : Nat → Prop} {ad : Nat → Nat} {mi MC MS : Nat} {Φ : Int64 → Mm → Prop} {fu : Nat} (F : FxM p s m args meth c b_Le_sum 7 "CoinKeeper$Ledger" "sum" (some .long) D cy ad mi A) : ∀ n : Nat, Iw_mLe_sum_4 p l e s m args below meth c D cy A ad mi MC MS Φ (xw_mLe_sum_4 fu MC MS cy ad mi Φ n)
  | 0 => fun _ _ _ _ _ _ hf => False.elim hf
  | n + 1 => wv_mLe_sum_4 F (ww_mLe_sum_4 F n)
set_option maxHeartbeats 8000000 in
set_option maxRecDepth 100000 in
theorem wew_mLe_sum {p : Program} {l : Launch} {e : Env} {s : State} {m : MethodId} {args : Array Value} {below : List Frame} {meth : Method} {c : Code} {D : va_G} {cy : Nat → ClassId} {A : Nat → Prop} {ad : Nat → Nat} {mi MC MS : Nat} {Φ : Int64 → Mm → Prop} {fu : Nat} (F : FxM p s m args meth c b_Le_sum 7 "CoinKeeper$Ledger" "sum" (some .long) D cy ad mi A) : Iw_mLe_sum_e p l e s m args below meth c D cy A ad mi MC MS Φ (xw_mLe_sum fu MC MS cy ad mi Φ) := by
  obtain ⟨⟨hx, hb, hr, hml, hown, hts, hlocks, hK, hA, hSt, hnm, hex⟩, hT, hMi⟩ := id F
  intro κ σ M a0 hf hkc hks H locs ls hP hD hS hl
  unfold xw_mLe_sum at hf
  refine lv_lconst (v := 0) hx hb d_Le_sum_0 (by decide) ?_
  refine lv_lstore_n (lv' := [(1, .long (0 : Int64)), (0, .ref a0)]) hx hb d_Le_sum_1 rfl hl (by decide) rfl (fun ls hl => ?_)
  refine lv_iconst (v := 0) hx hb d_Le_sum_2 (by decide) ?_
  refine lv_istore_n (lv' := [(3, .int (0 : Int32)), (1, .long (0 : Int64)), (0, .ref a0)]) hx hb d_Le_sum_3 rfl hl (by decide) rfl (fun ls hl => ?_)
  exact ww_mLe_sum_4 F fu _ _ _ _ _ _ hf hkc hks _ _ _ hP hD hS (lv_sub hl [2, 1, 0] rfl)
theorem cw_mLe_sum (l : Launch) (D : va_G) (cy : Nat → ClassId) (ad : Nat → Nat) (mi fu MC MS : Nat) (a0 : Nat) (M : Mm) (Φ : Int64 → Mm → Prop) (hf : xw_mLe_sum fu MC MS cy ad mi Φ 0 0 M a0) (sz : Nat) : Met l ({ cls := "CoinKeeper$Ledger", name := "sum", desc := "()J" } : Jvm.MethodName) (.code ({ cls := "CoinKeeper$Ledger", name := "sum", desc := "()J" } : Jvm.MethodName) b_Le_sum 7 (some .long) :: gw) (rmw_mLe_sum MC MS) (va_Pc [.ref a0] (PrM D cy ad mi (mw M) sz)) (va_Ql Φ (fun u t => Po D cy (va_A (mw M) sz) (mw u) t) (va_A (mw M) sz)) MC MS (va_A (mw M) sz) :=
  q_metM (Qc := fun A => va_Ql Φ (fun u t => Po D cy A (mw u) t) A) (by decide) rfl rfl (Nat.le_of_ble_eq_true rfl) (fun p e s m below meth c ls F hP hD hS hl => wew_mLe_sum (fu := fu) F 0 0 M a0 hf (Nat.zero_le _) (Nat.zero_le _) _ _ _ hP hD hS hl) sz
abbrev b_K_blockOf : ByteArray := prog_1_method_14_code
theorem d_K_blockOf_0 : decode b_K_blockOf 0 = .ok (.iconst 0, 1) := by decide +kernel
theorem d_K_blockOf_1 : decode b_K_blockOf 1 = .ok (.istore_n 3, 1) := by decide +kernel
theorem d_K_blockOf_2 : decode b_K_blockOf 2 = .ok (.iload_n 3, 1) := by decide +kernel
theorem d_K_blockOf_3 : decode b_K_blockOf 3 = .ok (.aload_n 0, 1) := by decide +kernel
theorem d_K_blockOf_4 : decode b_K_blockOf 4 = .ok (.getfield 56, 3) := by decide +kernel
theorem d_K_blockOf_7 : decode b_K_blockOf 7 = .ok (.invokevirtual 93, 3) := by decide +kernel
theorem d_K_blockOf_10 : decode b_K_blockOf 10 = .ok (.if_icmp .ge 46, 3) := by decide +kernel
theorem d_K_blockOf_13 : decode b_K_blockOf 13 = .ok (.aload_n 0, 1) := by decide +kernel
theorem d_K_blockOf_14 : decode b_K_blockOf 14 = .ok (.getfield 56, 3) := by decide +kernel
theorem d_K_blockOf_17 : decode b_K_blockOf 17 = .ok (.iload_n 3, 1) := by decide +kernel
theorem d_K_blockOf_18 : decode b_K_blockOf 18 = .ok (.invokevirtual 232, 3) := by decide +kernel
theorem d_K_blockOf_21 : decode b_K_blockOf 21 = .ok (.checkcast 66, 3) := by decide +kernel
theorem d_K_blockOf_24 : decode b_K_blockOf 24 = .ok (.getfield 170, 3) := by decide +kernel
theorem d_K_blockOf_27 : decode b_K_blockOf 27 = .ok (.iconst 0, 1) := by decide +kernel
theorem d_K_blockOf_28 : decode b_K_blockOf 28 = .ok (.aload_n 1, 1) := by decide +kernel
theorem d_K_blockOf_29 : decode b_K_blockOf 29 = .ok (.iload_n 2, 1) := by decide +kernel
theorem d_K_blockOf_30 : decode b_K_blockOf 30 = .ok (.bipush 32, 2) := by decide +kernel
theorem d_K_blockOf_32 : decode b_K_blockOf 32 = .ok (.invokestatic 236, 3) := by decide +kernel
theorem d_K_blockOf_35 : decode b_K_blockOf 35 = .ok (.ifCond .eq 15, 3) := by decide +kernel
theorem d_K_blockOf_38 : decode b_K_blockOf 38 = .ok (.aload_n 0, 1) := by decide +kernel
theorem d_K_blockOf_39 : decode b_K_blockOf 39 = .ok (.getfield 56, 3) := by decide +kernel
theorem d_K_blockOf_42 : decode b_K_blockOf 42 = .ok (.iload_n 3, 1) := by decide +kernel
theorem d_K_blockOf_43 : decode b_K_blockOf 43 = .ok (.invokevirtual 232, 3) := by decide +kernel
theorem d_K_blockOf_46 : decode b_K_blockOf 46 = .ok (.checkcast 66, 3) := by decide +kernel
theorem d_K_blockOf_49 : decode b_K_blockOf 49 = .ok (.areturn, 1) := by decide +kernel
theorem d_K_blockOf_50 : decode b_K_blockOf 50 = .ok (.iinc 3 1, 3) := by decide +kernel
theorem d_K_blockOf_53 : decode b_K_blockOf 53 = .ok (.goto (-51), 3) := by decide +kernel
theorem d_K_blockOf_56 : decode b_K_blockOf 56 = .ok (.aconst_null, 1) := by decide +kernel
theorem d_K_blockOf_57 : decode b_K_blockOf 57 = .ok (.areturn, 1) := by decide +kernel
abbrev rmw_mK_blockOf (MC MS : Nat) : Room := { frames := 3, cells := MC, slots := MS, locals := 64 }
def Iw_mK_blockOf_2 (p : Program) (l : Launch) (e : Env) (s : State) (m : MethodId) (args : Array Value) (below : List Frame) (meth : Method) (c : Code) (D : va_G) (cy : Nat → ClassId) (A : Nat → Prop) (ad : Nat → Nat) (mi MC MS : Nat) (Φ : Option Nat → Mm → Prop) (k : Nat → Nat → Mm → Nat → Nat → Int32 → Int32 → Prop) : Prop :=
  ∀ (κ σ : Nat) (M : Mm) (x0 : Nat) (x1 : Nat) (x2 : Int32) (x3 : Int32), k κ σ M x0 x1 x2 x3 → κ ≤ MC → σ ≤ MS → ∀ (H : Heap) (locs : List Loc) (ls : Array Slot), va_P D classes (mw M) H → va_D A (mw M) → va_S A s.heap H locs → lv_has ls 4 [(0, .ref x0), (1, .ref x1), (2, .int x2), (3, .int x3)] → W p l e (rmw_mK_blockOf MC MS) s m args below meth c H locs κ σ (MQ below (va_Qq Φ (fun u t => Po D cy A (mw u) t) A) args s MC MS A) (F0 m 2 ls [])
def Iw_mK_blockOf_e (p : Program) (l : Launch) (e : Env) (s : State) (m : MethodId) (args : Array Value) (below : List Frame) (meth : Method) (c : Code) (D : va_G) (cy : Nat → ClassId) (A : Nat → Prop) (ad : Nat → Nat) (mi MC MS : Nat) (Φ : Option Nat → Mm → Prop) (k : Nat → Nat → Mm → Nat → Nat → Int32 → Prop) : Prop :=
  ∀ (κ σ : Nat) (M : Mm) (a0 : Nat) (a1 : Nat) (a2 : Int32), k κ σ M a0 a1 a2 → κ ≤ MC → σ ≤ MS → ∀ (H : Heap) (locs : List Loc) (ls : Array Slot), va_P D classes (mw M) H → va_D A (mw M) → va_S A s.heap H locs → lv_has ls 4 [(0, .ref a0), (1, .ref a1), (2, .int a2)] → W p l e (rmw_mK_blockOf MC MS) s m args below meth c H locs κ σ (MQ below (va_Qq Φ (fun u t => Po D cy A (mw u) t) A) args s MC MS A) (F0 m 0 ls [])
set_option maxHeartbeats 8000000 in
set_option maxRecDepth 100000 in
theorem wv_mK_blockOf_2 {p : Program} {l : Launch} {e : Env} {s : State} {m : MethodId} {args : Array Value} {below : List Frame} {meth : Method} {c : Code} {D : va_G} {cy : Nat → ClassId} {A : Nat → Prop} {ad : Nat → Nat} {mi MC MS : Nat} {Φ : Option Nat → Mm → Prop} {fu : Nat} {k_2 : Nat → Nat → Mm → Nat → Nat → Int32 → Int32 → Prop} (F : FxM p s m args meth c b_K_blockOf 4 "CoinKeeper" "blockOf" (Option.some (Jvm.ClassFile.FieldType.object "CoinKeeper$Block")) D cy ad mi A) (hk_2 : Iw_mK_blockOf_2 p l e s m args below meth c D cy A ad mi MC MS Φ k_2) : Iw_mK_blockOf_2 p l e s m args below meth c D cy A ad mi MC MS Φ (xv_mK_blockOf_2 fu MC MS cy ad mi Φ k_2) := by
  obtain ⟨⟨hx, hb, hr, hml, hown, hts, hlocks, hK, hA, hSt, hnm, hex⟩, hT, hMi⟩ := id F
  intro κ σ M x0 x1 x2 x3 hf hkc hks H locs ls hP hD hS hl
  unfold xv_mK_blockOf_2 at hf
  refine lv_iload_n hx hb d_K_blockOf_2 rfl (lv_at hl 3 rfl) ?_
  refine lv_aload_n hx hb d_K_blockOf_3 rfl (lv_at hl 0 rfl) ?_
  obtain ⟨fs_, hm_, r1, hv_, hf⟩ := hf
  obtain ⟨ix_, hi_⟩ := m_ix hm_
  refine va_get (D := D) (ci := 0) (v := va_rf r1) (C := "CoinKeeper") (T := F_0) (N := 13) hx hb hts i_0 hown hK hP ix_ hi_ rfl 8 (by decide) (hts _ gw_508) (fun _ h9 => h9) hv_ d_K_blockOf_4 ?_
  clear hv_ hi_ hm_
  obtain ⟨q2, rfl, hf⟩ := hf
  refine W.eq (g2 := F0 m 7 ls [.ref q2, .int x3]) rfl ?_
  obtain ⟨fs_, hm_, hf⟩ := hf
  obtain ⟨ix_, hi_⟩ := m_ix hm_
  obtain ⟨mc3, ms4, ⟨hc_, hd_⟩, hf⟩ := hf
  refine mm_ai (va_runV (C := "java/util/ArrayList") (As := []) (rest := [.int x3]) ⟨hx, hb, hml, hown, hts⟩ (cw_mAl_size l D cy ad mi fu mc3 ms4 q2 M _ hf H.size) ⟨q_cB hts gw_551 gw_12 gw_673 hdq_13 ⟨Nat.le_of_ble_eq_true rfl, Nat.le_of_ble_eq_true rfl⟩, hts _ gw_549, hts _ gw_550⟩ (q_preVM (q_preM hP hD hK hSt hT hMi hS (m_free hD hS hA) _) (va_recv hK hP (ci := 11) (q0 := ix_) rfl hi_)) rfl rfl hl.1 rfl (lv_room (Nat.le_of_ble_eq_true rfl)) d_K_blockOf_7 ⟨hc_, hd_⟩) hD hS hA (fun v6 M5 H locs hf hP hD hS => ?_)
  have hkc : κ + mc3 ≤ MC := hc_
  have hks : σ + ms4 ≤ MS := hd_
  clear hc_ hd_
  refine lv_icmp_ge (tgt := 56) hx hb d_K_blockOf_10 (by decide) (fun cx => ?_) (fun cx => ?_)
  · have hf := ifpP cx hf
    refine lv_null hx hb d_K_blockOf_56 ?_
    refine W.widen (k := MC) (n := MS) hkc hks ?_
    exact m_ra hf rfl hx hb hr (Or.inl ⟨_, rfl⟩) hlocks hK hP hD hS d_K_blockOf_57
  · have hf := ifnP cx hf
    refine lv_aload_n hx hb d_K_blockOf_13 rfl (lv_at hl 0 rfl) ?_
    obtain ⟨fs_, hm_, r7, hv_, hf⟩ := hf
    obtain ⟨ix_, hi_⟩ := m_ix hm_
    refine va_get (D := D) (ci := 0) (v := va_rf r7) (C := "CoinKeeper") (T := F_0) (N := 13) hx hb hts i_0 hown hK hP ix_ hi_ rfl 8 (by decide) (hts _ gw_508) (fun _ h9 => h9) hv_ d_K_blockOf_14 ?_
    clear hv_ hi_ hm_
    obtain ⟨q8, rfl, hf⟩ := hf
    refine W.eq (g2 := F0 m 17 ls [.ref q8]) rfl ?_
    refine lv_iload_n hx hb d_K_blockOf_17 rfl (lv_at hl 3 rfl) ?_
    obtain ⟨fs_, hm_, hf⟩ := hf
    obtain ⟨ix_, hi_⟩ := m_ix hm_
    obtain ⟨mc9, ms10, ⟨hc_, hd_⟩, hf⟩ := hf
    refine m_aq (va_runV (C := "java/util/ArrayList") (As := [.int x3]) (rest := []) ⟨hx, hb, hml, hown, hts⟩ (cw_mAl_get l D cy ad mi fu mc9 ms10 q8 x3 M5 _ hf H.size) ⟨q_cB hts gw_555 gw_12 gw_743 hdq_14 ⟨Nat.le_of_ble_eq_true rfl, Nat.le_of_ble_eq_true rfl⟩, hts _ gw_553, hts _ gw_554⟩ (q_preVM (q_preM hP hD hK hSt hT hMi hS (m_free hD hS hA) _) (va_recv hK hP (ci := 11) (q0 := ix_) rfl hi_)) rfl rfl hl.1 rfl (lv_room (Nat.le_of_ble_eq_true rfl)) d_K_blockOf_18 ⟨hc_, hd_⟩) hD hS hA (fun v12 M11 H locs hf hP hD hS => ?_)
    have hkc : κ + mc3 + mc9 ≤ MC := hc_
    have hks : σ + ms4 + ms10 ≤ MS := hd_
    clear hc_ hd_
    obtain ⟨q13, rfl, hf⟩ := hf
    refine W.eq (g2 := F0 m 21 ls [.ref q13]) rfl ?_
    obtain ⟨fs_, hm_, hf⟩ := hf
    obtain ⟨ix_, hi_⟩ := m_ix hm_
    refine va_castY (C := "CoinKeeper$Block") hx hb hown (hts _ gw_374) (hSt.2.1 _ (List.mem_of_getElem? (i := 24) rfl)) (va_recv hK hP (ci := 1) (q0 := ix_) rfl hi_) d_K_blockOf_21 ?_
    clear hi_ hm_
    obtain ⟨fs_, hm_, r14, hv_, hf⟩ := hf
    obtain ⟨ix_, hi_⟩ := m_ix hm_
    refine va_get (D := D) (ci := 1) (v := va_rf r14) (C := "CoinKeeper$Block") (T := F_1) (N := 12) hx hb hts i_1 hown hK hP ix_ hi_ rfl 2 (by decide) (hts _ gw_396) (fun _ h9 => h9) hv_ d_K_blockOf_24 ?_
    clear hv_ hi_ hm_
    obtain ⟨q15, rfl, hf⟩ := hf
    refine W.eq (g2 := F0 m 27 ls [.ref q15]) rfl ?_
    refine lv_iconst (v := 0) hx hb d_K_blockOf_27 (by decide) ?_
    refine lv_aload_n hx hb d_K_blockOf_28 rfl (lv_at hl 1 rfl) ?_
    refine lv_iload_n hx hb d_K_blockOf_29 rfl (lv_at hl 2 rfl) ?_
    refine lv_bipush (v := 32) hx hb d_K_blockOf_30 (by decide) ?_
    by_cases cx : q15 = x1
    · have hg_ := ifpP cx hf
      clear hf
      subst cx
      have hf := hg_
      clear hg_
      obtain ⟨c16, c17, hal_, hnd_, v18, hc, hf⟩ := hf
      refine m_li (va_runS (As := [.ref q15, .int (0 : Int32), .ref q15, .int x2, .int (32 : Int32)]) (rest := []) ⟨hx, hb, hml, hown, hts⟩ (c_K_same_e20 l D cy ad fu q15 c16 c17 (0 : Int32) x2 (32 : Int32) _ hc H.size) ⟨q_cB hts gw_746 gw_1 gw_744 hdq_15 ⟨Nat.le_of_ble_eq_true rfl, Nat.le_of_ble_eq_true rfl⟩, hts _ gw_745⟩ (q_pre (m_subP hP hal_) (m_subD hD hal_ hnd_) hK hSt hS (m_lF hD hS hA hal_) _) rfl rfl hl.1 rfl (lv_room (Nat.le_of_ble_eq_true rfl)) d_K_blockOf_32 ⟨hkc, hks⟩) hP hD hS hA hal_ rfl (fun H locs hP hD hS => ?_)
      refine W.widen (k := κ + mc3 + mc9) (n := σ + ms4 + ms10) (Nat.le_refl _) (Nat.le_refl _) ?_
      obtain ⟨M19, eM_, hf⟩ := bnP hf
      have hP : va_P D classes (mw M19) H := by rw [eM_]; exact hP
      have hD : va_D A (mw M19) := by rw [eM_]; exact hD
      clear eM_ hal_ hnd_ hc
      refine lv_if_eq (tgt := 50) hx hb d_K_blockOf_35 (by decide) (fun cx => ?_) (fun cx => ?_)
      · have hf := ifpP cx hf
        obtain ⟨v20, ev, hf⟩ := bnP hf
        refine lv_iinc (v := v20) (lv' := [(3, .int v20), (0, .ref x0), (1, .ref q15), (2, .int x2)]) hx hb d_K_blockOf_50 hl (k := 3) rfl (by rw [ev]; rfl) (by decide) rfl (fun ls hl => ?_)
        clear ev
        refine lv_goto (tgt := 2) hx hb d_K_blockOf_53 (by decide) ?_
        exact hk_2 _ _ _ _ _ _ _ hf hkc hks _ _ _ hP hD hS (lv_sub hl [1, 2, 3, 0] rfl)
      · have hf := ifnP cx hf
        refine lv_aload_n hx hb d_K_blockOf_38 rfl (lv_at hl 0 rfl) ?_
        obtain ⟨fs_, hm_, r21, hv_, hf⟩ := hf
        obtain ⟨ix_, hi_⟩ := m_ix hm_
        refine va_get (D := D) (ci := 0) (v := va_rf r21) (C := "CoinKeeper") (T := F_0) (N := 13) hx hb hts i_0 hown hK hP ix_ hi_ rfl 8 (by decide) (hts _ gw_508) (fun _ h9 => h9) hv_ d_K_blockOf_39 ?_
        clear hv_ hi_ hm_
        obtain ⟨q22, rfl, hf⟩ := hf
        refine W.eq (g2 := F0 m 42 ls [.ref q22]) rfl ?_
        refine lv_iload_n hx hb d_K_blockOf_42 rfl (lv_at hl 3 rfl) ?_
        obtain ⟨fs_, hm_, hf⟩ := hf
        obtain ⟨ix_, hi_⟩ := m_ix hm_
        obtain ⟨mc23, ms24, ⟨hc_, hd_⟩, hf⟩ := hf
        refine m_aq (va_runV (C := "java/util/ArrayList") (As := [.int x3]) (rest := []) ⟨hx, hb, hml, hown, hts⟩ (cw_mAl_get l D cy ad mi fu mc23 ms24 q22 x3 M19 _ hf H.size) ⟨q_cB hts gw_555 gw_12 gw_743 hdq_14 ⟨Nat.le_of_ble_eq_true rfl, Nat.le_of_ble_eq_true rfl⟩, hts _ gw_553, hts _ gw_554⟩ (q_preVM (q_preM hP hD hK hSt hT hMi hS (m_free hD hS hA) _) (va_recv hK hP (ci := 11) (q0 := ix_) rfl hi_)) rfl rfl hl.1 rfl (lv_room (Nat.le_of_ble_eq_true rfl)) d_K_blockOf_43 ⟨hc_, hd_⟩) hD hS hA (fun v26 M25 H locs hf hP hD hS => ?_)
        have hkc : κ + mc3 + mc9 + mc23 ≤ MC := hc_
        have hks : σ + ms4 + ms10 + ms24 ≤ MS := hd_
        clear hc_ hd_
        obtain ⟨q27, rfl, hf⟩ := hf
        refine W.eq (g2 := F0 m 46 ls [.ref q27]) rfl ?_
        obtain ⟨fs_, hm_, hf⟩ := hf
        obtain ⟨ix_, hi_⟩ := m_ix hm_
        refine va_castY (C := "CoinKeeper$Block") hx hb hown (hts _ gw_374) (hSt.2.1 _ (List.mem_of_getElem? (i := 24) rfl)) (va_recv hK hP (ci := 1) (q0 := ix_) rfl hi_) d_K_blockOf_46 ?_
        clear hi_ hm_
        refine W.widen (k := MC) (n := MS) hkc hks ?_
        exact m_ra hf rfl hx hb hr (Or.inl ⟨_, rfl⟩) hlocks hK hP hD hS d_K_blockOf_49
    · have hf := ifnP cx hf
      obtain ⟨c28, c29, c30, c31, hal_, hnd_, v32, hc, hf⟩ := hf
      refine m_li (va_runS (As := [.ref q15, .int (0 : Int32), .ref x1, .int x2, .int (32 : Int32)]) (rest := []) ⟨hx, hb, hml, hown, hts⟩ (c_K_same l D cy ad fu q15 x1 c28 c29 c30 c31 (0 : Int32) x2 (32 : Int32) _ hc H.size) ⟨q_cB hts gw_746 gw_1 gw_744 hdq_15 ⟨Nat.le_of_ble_eq_true rfl, Nat.le_of_ble_eq_true rfl⟩, hts _ gw_745⟩ (q_pre (m_subP hP hal_) (m_subD hD hal_ hnd_) hK hSt hS (m_lF hD hS hA hal_) _) rfl rfl hl.1 rfl (lv_room (Nat.le_of_ble_eq_true rfl)) d_K_blockOf_32 ⟨hkc, hks⟩) hP hD hS hA hal_ rfl (fun H locs hP hD hS => ?_)
      refine W.widen (k := κ + mc3 + mc9) (n := σ + ms4 + ms10) (Nat.le_refl _) (Nat.le_refl _) ?_
      obtain ⟨M33, eM_, hf⟩ := bnP hf
      have hP : va_P D classes (mw M33) H := by rw [eM_]; exact hP
      have hD : va_D A (mw M33) := by rw [eM_]; exact hD
      clear eM_ hal_ hnd_ hc
      refine lv_if_eq (tgt := 50) hx hb d_K_blockOf_35 (by decide) (fun cx => ?_) (fun cx => ?_)
      · have hf := ifpP cx hf
        obtain ⟨v34, ev, hf⟩ := bnP hf
        refine lv_iinc (v := v34) (lv' := [(3, .int v34), (0, .ref x0), (1, .ref x1), (2, .int x2)]) hx hb d_K_blockOf_50 hl (k := 3) rfl (by rw [ev]; rfl) (by decide) rfl (fun ls hl => ?_)
        clear ev
        refine lv_goto (tgt := 2) hx hb d_K_blockOf_53 (by decide) ?_
        exact hk_2 _ _ _ _ _ _ _ hf hkc hks _ _ _ hP hD hS (lv_sub hl [1, 2, 3, 0] rfl)
      · have hf := ifnP cx hf
        refine lv_aload_n hx hb d_K_blockOf_38 rfl (lv_at hl 0 rfl) ?_
        obtain ⟨fs_, hm_, r35, hv_, hf⟩ := hf
        obtain ⟨ix_, hi_⟩ := m_ix hm_
        refine va_get (D := D) (ci := 0) (v := va_rf r35) (C := "CoinKeeper") (T := F_0) (N := 13) hx hb hts i_0 hown hK hP ix_ hi_ rfl 8 (by decide) (hts _ gw_508) (fun _ h9 => h9) hv_ d_K_blockOf_39 ?_
        clear hv_ hi_ hm_
        obtain ⟨q36, rfl, hf⟩ := hf
        refine W.eq (g2 := F0 m 42 ls [.ref q36]) rfl ?_
        refine lv_iload_n hx hb d_K_blockOf_42 rfl (lv_at hl 3 rfl) ?_
        obtain ⟨fs_, hm_, hf⟩ := hf
        obtain ⟨ix_, hi_⟩ := m_ix hm_
        obtain ⟨mc37, ms38, ⟨hc_, hd_⟩, hf⟩ := hf
        refine m_aq (va_runV (C := "java/util/ArrayList") (As := [.int x3]) (rest := []) ⟨hx, hb, hml, hown, hts⟩ (cw_mAl_get l D cy ad mi fu mc37 ms38 q36 x3 M33 _ hf H.size) ⟨q_cB hts gw_555 gw_12 gw_743 hdq_14 ⟨Nat.le_of_ble_eq_true rfl, Nat.le_of_ble_eq_true rfl⟩, hts _ gw_553, hts _ gw_554⟩ (q_preVM (q_preM hP hD hK hSt hT hMi hS (m_free hD hS hA) _) (va_recv hK hP (ci := 11) (q0 := ix_) rfl hi_)) rfl rfl hl.1 rfl (lv_room (Nat.le_of_ble_eq_true rfl)) d_K_blockOf_43 ⟨hc_, hd_⟩) hD hS hA (fun v40 M39 H locs hf hP hD hS => ?_)
        have hkc : κ + mc3 + mc9 + mc37 ≤ MC := hc_
        have hks : σ + ms4 + ms10 + ms38 ≤ MS := hd_
        clear hc_ hd_
        obtain ⟨q41, rfl, hf⟩ := hf
        refine W.eq (g2 := F0 m 46 ls [.ref q41]) rfl ?_
        obtain ⟨fs_, hm_, hf⟩ := hf
        obtain ⟨ix_, hi_⟩ := m_ix hm_
        refine va_castY (C := "CoinKeeper$Block") hx hb hown (hts _ gw_374) (hSt.2.1 _ (List.mem_of_getElem? (i := 24) rfl)) (va_recv hK hP (ci := 1) (q0 := ix_) rfl hi_) d_K_blockOf_46 ?_
        clear hi_ hm_
        refine W.widen (k := MC) (n := MS) hkc hks ?_
        exact m_ra hf rfl hx hb hr (Or.inl ⟨_, rfl⟩) hlocks hK hP hD hS d_K_blockOf_49
theorem ww_mK_blockOf_2 {p : Program} {l : Launch} {e : Env} {s : State} {m : MethodId} {args : Array Value} {below : List Frame} {meth : Method} {c : Code} {D : va_G} {cy : Nat → ClassId} {A : Nat → Prop} {ad : Nat → Nat} {mi MC MS : Nat} {Φ : Option Nat → Mm → Prop} {fu : Nat} (F : FxM p s m args meth c b_K_blockOf 4 "CoinKeeper" "blockOf" (Option.some (Jvm.ClassFile.FieldType.object "CoinKeeper$Block")) D cy ad mi A) : ∀ n : Nat, Iw_mK_blockOf_2 p l e s m args below meth c D cy A ad mi MC MS Φ (xw_mK_blockOf_2 fu MC MS cy ad mi Φ n)
  | 0 => fun _ _ _ _ _ _ _ hf => False.elim hf
  | n + 1 => wv_mK_blockOf_2 F (ww_mK_blockOf_2 F n)
set_option maxHeartbeats 8000000 in
set_option maxRecDepth 100000 in
theorem wew_mK_blockOf {p : Program} {l : Launch} {e : Env} {s : State} {m : MethodId} {args : Array Value} {below : List Frame} {meth : Method} {c : Code} {D : va_G} {cy : Nat → ClassId} {A : Nat → Prop} {ad : Nat → Nat} {mi MC MS : Nat} {Φ : Option Nat → Mm → Prop} {fu : Nat} (F : FxM p s m args meth c b_K_blockOf 4 "CoinKeeper" "blockOf" (Option.some (Jvm.ClassFile.FieldType.object "CoinKeeper$Block")) D cy ad mi A) : Iw_mK_blockOf_e p l e s m args below meth c D cy A ad mi MC MS Φ (xw_mK_blockOf fu MC MS cy ad mi Φ) := by
  obtain ⟨⟨hx, hb, hr, hml, hown, hts, hlocks, hK, hA, hSt, hnm, hex⟩, hT, hMi⟩ := id F
  intro κ σ M a0 a1 a2 hf hkc hks H locs ls hP hD hS hl
  unfold xw_mK_blockOf at hf
  refine lv_iconst (v := 0) hx hb d_K_blockOf_0 (by decide) ?_
  refine lv_istore_n (lv' := [(3, .int (0 : Int32)), (0, .ref a0), (1, .ref a1), (2, .int a2)]) hx hb d_K_blockOf_1 rfl hl (by decide) rfl (fun ls hl => ?_)
  exact ww_mK_blockOf_2 F fu _ _ _ _ _ _ _ hf hkc hks _ _ _ hP hD hS (lv_sub hl [1, 2, 3, 0] rfl)
theorem cw_mK_blockOf (l : Launch) (D : va_G) (cy : Nat → ClassId) (ad : Nat → Nat) (mi fu MC MS : Nat) (a0 : Nat) (a1 : Nat) (a2 : Int32) (M : Mm) (Φ : Option Nat → Mm → Prop) (hf : xw_mK_blockOf fu MC MS cy ad mi Φ 0 0 M a0 a1 a2) (sz : Nat) : Met l ({ cls := "CoinKeeper", name := "blockOf", desc := "([BI)LCoinKeeper$Block;" } : Jvm.MethodName) (.code ({ cls := "CoinKeeper", name := "blockOf", desc := "([BI)LCoinKeeper$Block;" } : Jvm.MethodName) b_K_blockOf 4 (Option.some (Jvm.ClassFile.FieldType.object "CoinKeeper$Block")) :: gw) (rmw_mK_blockOf MC MS) (va_Pc [.ref a0, .ref a1, .int a2] (PrM D cy ad mi (mw M) sz)) (va_Qq Φ (fun u t => Po D cy (va_A (mw M) sz) (mw u) t) (va_A (mw M) sz)) MC MS (va_A (mw M) sz) :=
  q_metM (Qc := fun A => va_Qq Φ (fun u t => Po D cy A (mw u) t) A) (by decide) rfl rfl (Nat.le_of_ble_eq_true rfl) (fun p e s m below meth c ls F hP hD hS hl => wew_mK_blockOf (fu := fu) F 0 0 M a0 a1 a2 hf (Nat.zero_le _) (Nat.zero_le _) _ _ _ hP hD hS hl) sz
abbrev b_K_badBlocks : ByteArray := prog_1_method_23_code
theorem d_K_badBlocks_0 : decode b_K_badBlocks 0 = .ok (.iconst 0, 1) := by decide +kernel
theorem d_K_badBlocks_1 : decode b_K_badBlocks 1 = .ok (.istore_n 1, 1) := by decide +kernel
theorem d_K_badBlocks_2 : decode b_K_badBlocks 2 = .ok (.iconst 0, 1) := by decide +kernel
theorem d_K_badBlocks_3 : decode b_K_badBlocks 3 = .ok (.istore_n 2, 1) := by decide +kernel
theorem d_K_badBlocks_4 : decode b_K_badBlocks 4 = .ok (.iload_n 2, 1) := by decide +kernel
theorem d_K_badBlocks_5 : decode b_K_badBlocks 5 = .ok (.aload_n 0, 1) := by decide +kernel
theorem d_K_badBlocks_6 : decode b_K_badBlocks 6 = .ok (.getfield 56, 3) := by decide +kernel
theorem d_K_badBlocks_9 : decode b_K_badBlocks 9 = .ok (.invokevirtual 93, 3) := by decide +kernel
theorem d_K_badBlocks_12 : decode b_K_badBlocks 12 = .ok (.if_icmp .ge 29, 3) := by decide +kernel
theorem d_K_badBlocks_15 : decode b_K_badBlocks 15 = .ok (.aload_n 0, 1) := by decide +kernel
theorem d_K_badBlocks_16 : decode b_K_badBlocks 16 = .ok (.getfield 56, 3) := by decide +kernel
theorem d_K_badBlocks_19 : decode b_K_badBlocks 19 = .ok (.iload_n 2, 1) := by decide +kernel
theorem d_K_badBlocks_20 : decode b_K_badBlocks 20 = .ok (.invokevirtual 232, 3) := by decide +kernel
theorem d_K_badBlocks_23 : decode b_K_badBlocks 23 = .ok (.checkcast 66, 3) := by decide +kernel
theorem d_K_badBlocks_26 : decode b_K_badBlocks 26 = .ok (.getfield 213, 3) := by decide +kernel
theorem d_K_badBlocks_29 : decode b_K_badBlocks 29 = .ok (.ifCond .eq 6, 3) := by decide +kernel
theorem d_K_badBlocks_32 : decode b_K_badBlocks 32 = .ok (.iinc 1 1, 3) := by decide +kernel
theorem d_K_badBlocks_35 : decode b_K_badBlocks 35 = .ok (.iinc 2 1, 3) := by decide +kernel
theorem d_K_badBlocks_38 : decode b_K_badBlocks 38 = .ok (.goto (-34), 3) := by decide +kernel
theorem d_K_badBlocks_41 : decode b_K_badBlocks 41 = .ok (.iload_n 1, 1) := by decide +kernel
theorem d_K_badBlocks_42 : decode b_K_badBlocks 42 = .ok (.ireturn, 1) := by decide +kernel
abbrev rmw_mK_badBlocks (MC MS : Nat) : Room := { frames := 3, cells := MC, slots := MS, locals := 64 }
def Iw_mK_badBlocks_35 (p : Program) (l : Launch) (e : Env) (s : State) (m : MethodId) (args : Array Value) (below : List Frame) (meth : Method) (c : Code) (D : va_G) (cy : Nat → ClassId) (A : Nat → Prop) (ad : Nat → Nat) (mi MC MS : Nat) (Φ : Int32 → Mm → Prop) (k : Nat → Nat → Mm → Nat → Int32 → Int32 → Prop) : Prop :=
  ∀ (κ σ : Nat) (M : Mm) (x0 : Nat) (x1 : Int32) (x2 : Int32), k κ σ M x0 x1 x2 → κ ≤ MC → σ ≤ MS → ∀ (H : Heap) (locs : List Loc) (ls : Array Slot), va_P D classes (mw M) H → va_D A (mw M) → va_S A s.heap H locs → lv_has ls 3 [(0, .ref x0), (1, .int x1), (2, .int x2)] → W p l e (rmw_mK_badBlocks MC MS) s m args below meth c H locs κ σ (MQ below (va_Qi Φ (fun u t => Po D cy A (mw u) t) A) args s MC MS A) (F0 m 35 ls [])
def Iw_mK_badBlocks_4 (p : Program) (l : Launch) (e : Env) (s : State) (m : MethodId) (args : Array Value) (below : List Frame) (meth : Method) (c : Code) (D : va_G) (cy : Nat → ClassId) (A : Nat → Prop) (ad : Nat → Nat) (mi MC MS : Nat) (Φ : Int32 → Mm → Prop) (k : Nat → Nat → Mm → Nat → Int32 → Int32 → Prop) : Prop :=
  ∀ (κ σ : Nat) (M : Mm) (x0 : Nat) (x1 : Int32) (x2 : Int32), k κ σ M x0 x1 x2 → κ ≤ MC → σ ≤ MS → ∀ (H : Heap) (locs : List Loc) (ls : Array Slot), va_P D classes (mw M) H → va_D A (mw M) → va_S A s.heap H locs → lv_has ls 3 [(0, .ref x0), (1, .int x1), (2, .int x2)] → W p l e (rmw_mK_badBlocks MC MS) s m args below meth c H locs κ σ (MQ below (va_Qi Φ (fun u t => Po D cy A (mw u) t) A) args s MC MS A) (F0 m 4 ls [])
def Iw_mK_badBlocks_e (p : Program) (l : Launch) (e : Env) (s : State) (m : MethodId) (args : Array Value) (below : List Frame) (meth : Method) (c : Code) (D : va_G) (cy : Nat → ClassId) (A : Nat → Prop) (ad : Nat → Nat) (mi MC MS : Nat) (Φ : Int32 → Mm → Prop) (k : Nat → Nat → Mm → Nat → Prop) : Prop :=
  ∀ (κ σ : Nat) (M : Mm) (a0 : Nat), k κ σ M a0 → κ ≤ MC → σ ≤ MS → ∀ (H : Heap) (locs : List Loc) (ls : Array Slot), va_P D classes (mw M) H → va_D A (mw M) → va_S A s.heap H locs → lv_has ls 3 [(0, .ref a0)] → W p l e (rmw_mK_badBlocks MC MS) s m args below meth c H locs κ σ (MQ below (va_Qi Φ (fun u t => Po D cy A (mw u) t) A) args s MC MS A) (F0 m 0 ls [])
set_option maxHeartbeats 8000000 in
set_option maxRecDepth 100000 in
theorem wv_mK_badBlocks_35 {p : Program} {l : Launch} {e : Env} {s : State} {m : MethodId} {args : Array Value} {below : List Frame} {meth : Method} {c : Code} {D : va_G} {cy : Nat → ClassId} {A : Nat → Prop} {ad : Nat → Nat} {mi MC MS : Nat} {Φ : Int32 → Mm → Prop} {fu : Nat} {k_4 : Nat → Nat → Mm → Nat → Int32 → Int32 → Prop} (F : FxM p s m args meth c b_K_badBlocks 3 "CoinKeeper" "badBlocks" (some .int) D cy ad mi A) (hk_4 : Iw_mK_badBlocks_4 p l e s m args below meth c D cy A ad mi MC MS Φ k_4) : Iw_mK_badBlocks_35 p l e s m args below meth c D cy A ad mi MC MS Φ (xv_mK_badBlocks_35 fu MC MS cy ad mi Φ k_4) := by
  obtain ⟨⟨hx, hb, hr, hml, hown, hts, hlocks, hK, hA, hSt, hnm, hex⟩, hT, hMi⟩ := id F
  intro κ σ M x0 x1 x2 hf hkc hks H locs ls hP hD hS hl
  unfold xv_mK_badBlocks_35 at hf
  obtain ⟨v1, ev, hf⟩ := bnP hf
  refine lv_iinc (v := v1) (lv' := [(2, .int v1), (0, .ref x0), (1, .int x1)]) hx hb d_K_badBlocks_35 hl (k := 2) rfl (by rw [ev]; rfl) (by decide) rfl (fun ls hl => ?_)
  clear ev
  refine lv_goto (tgt := 4) hx hb d_K_badBlocks_38 (by decide) ?_
  exact hk_4 _ _ _ _ _ _ hf hkc hks _ _ _ hP hD hS (lv_sub hl [1, 2, 0] rfl)
set_option maxHeartbeats 8000000 in
set_option maxRecDepth 100000 in
theorem wv_mK_badBlocks_4 {p : Program} {l : Launch} {e : Env} {s : State} {m : MethodId} {args : Array Value} {below : List Frame} {meth : Method} {c : Code} {D : va_G} {cy : Nat → ClassId} {A : Nat → Prop} {ad : Nat → Nat} {mi MC MS : Nat} {Φ : Int32 → Mm → Prop} {fu : Nat} {k_4 : Nat → Nat → Mm → Nat → Int32 → Int32 → Prop} (F : FxM p s m args meth c b_K_badBlocks 3 "CoinKeeper" "badBlocks" (some .int) D cy ad mi A) (hk_4 : Iw_mK_badBlocks_4 p l e s m args below meth c D cy A ad mi MC MS Φ k_4) : Iw_mK_badBlocks_4 p l e s m args below meth c D cy A ad mi MC MS Φ (xv_mK_badBlocks_4 fu MC MS cy ad mi Φ k_4) := by
  obtain ⟨⟨hx, hb, hr, hml, hown, hts, hlocks, hK, hA, hSt, hnm, hex⟩, hT, hMi⟩ := id F
  intro κ σ M x0 x1 x2 hf hkc hks H locs ls hP hD hS hl
  unfold xv_mK_badBlocks_4 at hf
  refine lv_iload_n hx hb d_K_badBlocks_4 rfl (lv_at hl 2 rfl) ?_
  refine lv_aload_n hx hb d_K_badBlocks_5 rfl (lv_at hl 0 rfl) ?_
  obtain ⟨fs_, hm_, r1, hv_, hf⟩ := hf
  obtain ⟨ix_, hi_⟩ := m_ix hm_
  refine va_get (D := D) (ci := 0) (v := va_rf r1) (C := "CoinKeeper") (T := F_0) (N := 13) hx hb hts i_0 hown hK hP ix_ hi_ rfl 8 (by decide) (hts _ gw_508) (fun _ h9 => h9) hv_ d_K_badBlocks_6 ?_
  clear hv_ hi_ hm_
  obtain ⟨q2, rfl, hf⟩ := hf
  refine W.eq (g2 := F0 m 9 ls [.ref q2, .int x2]) rfl ?_
  obtain ⟨fs_, hm_, hf⟩ := hf
  obtain ⟨ix_, hi_⟩ := m_ix hm_
  obtain ⟨mc3, ms4, ⟨hc_, hd_⟩, hf⟩ := hf
  refine mm_ai (va_runV (C := "java/util/ArrayList") (As := []) (rest := [.int x2]) ⟨hx, hb, hml, hown, hts⟩ (cw_mAl_size l D cy ad mi fu mc3 ms4 q2 M _ hf H.size) ⟨q_cB hts gw_551 gw_12 gw_673 hdq_13 ⟨Nat.le_of_ble_eq_true rfl, Nat.le_of_ble_eq_true rfl⟩, hts _ gw_549, hts _ gw_550⟩ (q_preVM (q_preM hP hD hK hSt hT hMi hS (m_free hD hS hA) _) (va_recv hK hP (ci := 11) (q0 := ix_) rfl hi_)) rfl rfl hl.1 rfl (lv_room (Nat.le_of_ble_eq_true rfl)) d_K_badBlocks_9 ⟨hc_, hd_⟩) hD hS hA (fun v6 M5 H locs hf hP hD hS => ?_)
  have hkc : κ + mc3 ≤ MC := hc_
  have hks : σ + ms4 ≤ MS := hd_
  clear hc_ hd_
  refine lv_icmp_ge (tgt := 41) hx hb d_K_badBlocks_12 (by decide) (fun cx => ?_) (fun cx => ?_)
  · have hf := ifpP cx hf
    refine lv_iload_n hx hb d_K_badBlocks_41 rfl (lv_at hl 1 rfl) ?_
    refine W.widen (k := MC) (n := MS) hkc hks ?_
    exact m_ri hf hx hb hr hlocks hK hP hD hS d_K_badBlocks_42
  · have hf := ifnP cx hf
    refine lv_aload_n hx hb d_K_badBlocks_15 rfl (lv_at hl 0 rfl) ?_
    obtain ⟨fs_, hm_, r7, hv_, hf⟩ := hf
    obtain ⟨ix_, hi_⟩ := m_ix hm_
    refine va_get (D := D) (ci := 0) (v := va_rf r7) (C := "CoinKeeper") (T := F_0) (N := 13) hx hb hts i_0 hown hK hP ix_ hi_ rfl 8 (by decide) (hts _ gw_508) (fun _ h9 => h9) hv_ d_K_badBlocks_16 ?_
    clear hv_ hi_ hm_
    obtain ⟨q8, rfl, hf⟩ := hf
    refine W.eq (g2 := F0 m 19 ls [.ref q8]) rfl ?_
    refine lv_iload_n hx hb d_K_badBlocks_19 rfl (lv_at hl 2 rfl) ?_
    obtain ⟨fs_, hm_, hf⟩ := hf
    obtain ⟨ix_, hi_⟩ := m_ix hm_
    obtain ⟨mc9, ms10, ⟨hc_, hd_⟩, hf⟩ := hf
    refine m_aq (va_runV (C := "java/util/ArrayList") (As := [.int x2]) (rest := []) ⟨hx, hb, hml, hown, hts⟩ (cw_mAl_get l D cy ad mi fu mc9 ms10 q8 x2 M5 _ hf H.size) ⟨q_cB hts gw_555 gw_12 gw_743 hdq_14 ⟨Nat.le_of_ble_eq_true rfl, Nat.le_of_ble_eq_true rfl⟩, hts _ gw_553, hts _ gw_554⟩ (q_preVM (q_preM hP hD hK hSt hT hMi hS (m_free hD hS hA) _) (va_recv hK hP (ci := 11) (q0 := ix_) rfl hi_)) rfl rfl hl.1 rfl (lv_room (Nat.le_of_ble_eq_true rfl)) d_K_badBlocks_20 ⟨hc_, hd_⟩) hD hS hA (fun v12 M11 H locs hf hP hD hS => ?_)
    have hkc : κ + mc3 + mc9 ≤ MC := hc_
    have hks : σ + ms4 + ms10 ≤ MS := hd_
    clear hc_ hd_
    obtain ⟨q13, rfl, hf⟩ := hf
    refine W.eq (g2 := F0 m 23 ls [.ref q13]) rfl ?_
    obtain ⟨fs_, hm_, hf⟩ := hf
    obtain ⟨ix_, hi_⟩ := m_ix hm_
    refine va_castY (C := "CoinKeeper$Block") hx hb hown (hts _ gw_374) (hSt.2.1 _ (List.mem_of_getElem? (i := 24) rfl)) (va_recv hK hP (ci := 1) (q0 := ix_) rfl hi_) d_K_badBlocks_23 ?_
    clear hi_ hm_
    obtain ⟨fs_, hm_, v14, hv_, hf⟩ := hf
    obtain ⟨ix_, hi_⟩ := m_ix hm_
    refine va_get (D := D) (ci := 1) (v := .int v14) (C := "CoinKeeper$Block") (T := F_1) (N := 12) hx hb hts i_1 hown hK hP ix_ hi_ rfl 9 (by decide) (hts _ gw_409) (fun _ h9 => h9) hv_ d_K_badBlocks_26 ?_
    clear hv_ hi_ hm_
    refine lv_if_eq (tgt := 35) hx hb d_K_badBlocks_29 (by decide) (fun cx => ?_) (fun cx => ?_)
    · have hf := ifpP cx hf
      exact wv_mK_badBlocks_35 (fu := fu) F hk_4 _ _ _ _ _ _ hf hkc hks _ _ _ hP hD hS (lv_sub hl [0, 1, 2] rfl)
    · have hf := ifnP cx hf
      obtain ⟨v15, ev, hf⟩ := bnP hf
      refine lv_iinc (v := v15) (lv' := [(1, .int v15), (0, .ref x0), (2, .int x2)]) hx hb d_K_badBlocks_32 hl (k := 1) rfl (by rw [ev]; rfl) (by decide) rfl (fun ls hl => ?_)
      clear ev
      exact wv_mK_badBlocks_35 (fu := fu) F hk_4 _ _ _ _ _ _ hf hkc hks _ _ _ hP hD hS (lv_sub hl [1, 0, 2] rfl)
theorem ww_mK_badBlocks_4 {p : Program} {l : Launch} {e : Env} {s : State} {m : MethodId} {args : Array Value} {below : List Frame} {meth : Method} {c : Code} {D : va_G} {cy : Nat → ClassId} {A : Nat → Prop} {ad : Nat → Nat} {mi MC MS : Nat} {Φ : Int32 → Mm → Prop} {fu : Nat} (F : FxM p s m args meth c b_K_badBlocks 3 "CoinKeeper" "badBlocks" (some .int) D cy ad mi A) : ∀ n : Nat, Iw_mK_badBlocks_4 p l e s m args below meth c D cy A ad mi MC MS Φ (xw_mK_badBlocks_4 fu MC MS cy ad mi Φ n)
  | 0 => fun _ _ _ _ _ _ hf => False.elim hf
  | n + 1 => wv_mK_badBlocks_4 F (ww_mK_badBlocks_4 F n)
set_option maxHeartbeats 8000000 in
set_option maxRecDepth 100000 in
theorem wew_mK_badBlocks {p : Program} {l : Launch} {e : Env} {s : State} {m : MethodId} {args : Array Value} {below : List Frame} {meth : Method} {c : Code} {D : va_G} {cy : Nat → ClassId} {A : Nat → Prop} {ad : Nat → Nat} {mi MC MS : Nat} {Φ : Int32 → Mm → Prop} {fu : Nat} (F : FxM p s m args meth c b_K_badBlocks 3 "CoinKeeper" "badBlocks" (some .int) D cy ad mi A) : Iw_mK_badBlocks_e p l e s m args below meth c D cy A ad mi MC MS Φ (xw_mK_badBlocks fu MC MS cy ad mi Φ) := by
  obtain ⟨⟨hx, hb, hr, hml, hown, hts, hlocks, hK, hA, hSt, hnm, hex⟩, hT, hMi⟩ := id F
  intro κ σ M a0 hf hkc hks H locs ls hP hD hS hl
  unfold xw_mK_badBlocks at hf
  refine lv_iconst (v := 0) hx hb d_K_badBlocks_0 (by decide) ?_
  refine lv_istore_n (lv' := [(1, .int (0 : Int32)), (0, .ref a0)]) hx hb d_K_badBlocks_1 rfl hl (by decide) rfl (fun ls hl => ?_)
  refine lv_iconst (v := 0) hx hb d_K_badBlocks_2 (by decide) ?_
  refine lv_istore_n (lv' := [(2, .int (0 : Int32)), (1, .int (0 : Int32)), (0, .ref a0)]) hx hb d_K_badBlocks_3 rfl hl (by decide) rfl (fun ls hl => ?_)
  exact ww_mK_badBlocks_4 F fu _ _ _ _ _ _ hf hkc hks _ _ _ hP hD hS (lv_sub hl [2, 1, 0] rfl)
theorem cw_mK_badBlocks (l : Launch) (D : va_G) (cy : Nat → ClassId) (ad : Nat → Nat) (mi fu MC MS : Nat) (a0 : Nat) (M : Mm) (Φ : Int32 → Mm → Prop) (hf : xw_mK_badBlocks fu MC MS cy ad mi Φ 0 0 M a0) (sz : Nat) : Met l ({ cls := "CoinKeeper", name := "badBlocks", desc := "()I" } : Jvm.MethodName) (.code ({ cls := "CoinKeeper", name := "badBlocks", desc := "()I" } : Jvm.MethodName) b_K_badBlocks 3 (some .int) :: gw) (rmw_mK_badBlocks MC MS) (va_Pc [.ref a0] (PrM D cy ad mi (mw M) sz)) (va_Qi Φ (fun u t => Po D cy (va_A (mw M) sz) (mw u) t) (va_A (mw M) sz)) MC MS (va_A (mw M) sz) :=
  q_metM (Qc := fun A => va_Qi Φ (fun u t => Po D cy A (mw u) t) A) (by decide) rfl rfl (Nat.le_of_ble_eq_true rfl) (fun p e s m below meth c ls F hP hD hS hl => wew_mK_badBlocks (fu := fu) F 0 0 M a0 hf (Nat.zero_le _) (Nat.zero_le _) _ _ _ hP hD hS hl) sz
abbrev b_K_spoil : ByteArray := prog_1_method_21_code
theorem d_K_spoil_0 : decode b_K_spoil 0 = .ok (.aload_n 1, 1) := by decide +kernel
theorem d_K_spoil_1 : decode b_K_spoil 1 = .ok (.iconst 1, 1) := by decide +kernel
theorem d_K_spoil_2 : decode b_K_spoil 2 = .ok (.putfield 213, 3) := by decide +kernel
theorem d_K_spoil_5 : decode b_K_spoil 5 = .ok (.iconst 1, 1) := by decide +kernel
theorem d_K_spoil_6 : decode b_K_spoil 6 = .ok (.istore_n 2, 1) := by decide +kernel
theorem d_K_spoil_7 : decode b_K_spoil 7 = .ok (.iload_n 2, 1) := by decide +kernel
theorem d_K_spoil_8 : decode b_K_spoil 8 = .ok (.aload_n 0, 1) := by decide +kernel
theorem d_K_spoil_9 : decode b_K_spoil 9 = .ok (.getfield 56, 3) := by decide +kernel
theorem d_K_spoil_12 : decode b_K_spoil 12 = .ok (.invokevirtual 93, 3) := by decide +kernel
theorem d_K_spoil_15 : decode b_K_spoil 15 = .ok (.if_icmp .ge 43, 3) := by decide +kernel
theorem d_K_spoil_18 : decode b_K_spoil 18 = .ok (.aload_n 0, 1) := by decide +kernel
theorem d_K_spoil_19 : decode b_K_spoil 19 = .ok (.getfield 56, 3) := by decide +kernel
theorem d_K_spoil_22 : decode b_K_spoil 22 = .ok (.iload_n 2, 1) := by decide +kernel
theorem d_K_spoil_23 : decode b_K_spoil 23 = .ok (.invokevirtual 232, 3) := by decide +kernel
theorem d_K_spoil_26 : decode b_K_spoil 26 = .ok (.checkcast 66, 3) := by decide +kernel
theorem d_K_spoil_29 : decode b_K_spoil 29 = .ok (.astore_n 3, 1) := by decide +kernel
theorem d_K_spoil_30 : decode b_K_spoil 30 = .ok (.aload_n 3, 1) := by decide +kernel
theorem d_K_spoil_31 : decode b_K_spoil 31 = .ok (.getfield 330, 3) := by decide +kernel
theorem d_K_spoil_34 : decode b_K_spoil 34 = .ok (.ifnull 18, 3) := by decide +kernel
theorem d_K_spoil_37 : decode b_K_spoil 37 = .ok (.aload_n 3, 1) := by decide +kernel
theorem d_K_spoil_38 : decode b_K_spoil 38 = .ok (.getfield 330, 3) := by decide +kernel
theorem d_K_spoil_41 : decode b_K_spoil 41 = .ok (.getfield 213, 3) := by decide +kernel
theorem d_K_spoil_44 : decode b_K_spoil 44 = .ok (.ifCond .eq 8, 3) := by decide +kernel
theorem d_K_spoil_47 : decode b_K_spoil 47 = .ok (.aload_n 3, 1) := by decide +kernel
theorem d_K_spoil_48 : decode b_K_spoil 48 = .ok (.iconst 1, 1) := by decide +kernel
theorem d_K_spoil_49 : decode b_K_spoil 49 = .ok (.putfield 213, 3) := by decide +kernel
theorem d_K_spoil_52 : decode b_K_spoil 52 = .ok (.iinc 2 1, 3) := by decide +kernel
theorem d_K_spoil_55 : decode b_K_spoil 55 = .ok (.goto (-48), 3) := by decide +kernel
theorem d_K_spoil_58 : decode b_K_spoil 58 = .ok (.return_, 1) := by decide +kernel
abbrev rmw_mK_spoil (MC MS : Nat) : Room := { frames := 3, cells := MC, slots := MS, locals := 64 }
def Iw_mK_spoil_52 (p : Program) (l : Launch) (e : Env) (s : State) (m : MethodId) (args : Array Value) (below : List Frame) (meth : Method) (c : Code) (D : va_G) (cy : Nat → ClassId) (A : Nat → Prop) (ad : Nat → Nat) (mi MC MS : Nat) (Φ : Mm → Prop) (k : Nat → Nat → Mm → Nat → Int32 → Prop) : Prop :=
  ∀ (κ σ : Nat) (M : Mm) (x0 : Nat) (x2 : Int32), k κ σ M x0 x2 → κ ≤ MC → σ ≤ MS → ∀ (H : Heap) (locs : List Loc) (ls : Array Slot), va_P D classes (mw M) H → va_D A (mw M) → va_S A s.heap H locs → lv_has ls 4 [(0, .ref x0), (2, .int x2)] → W p l e (rmw_mK_spoil MC MS) s m args below meth c H locs κ σ (MQ below (va_Qv Φ (fun u t => Po D cy A (mw u) t) A) args s MC MS A) (F0 m 52 ls [])
def Iw_mK_spoil_7 (p : Program) (l : Launch) (e : Env) (s : State) (m : MethodId) (args : Array Value) (below : List Frame) (meth : Method) (c : Code) (D : va_G) (cy : Nat → ClassId) (A : Nat → Prop) (ad : Nat → Nat) (mi MC MS : Nat) (Φ : Mm → Prop) (k : Nat → Nat → Mm → Nat → Int32 → Prop) : Prop :=
  ∀ (κ σ : Nat) (M : Mm) (x0 : Nat) (x2 : Int32), k κ σ M x0 x2 → κ ≤ MC → σ ≤ MS → ∀ (H : Heap) (locs : List Loc) (ls : Array Slot), va_P D classes (mw M) H → va_D A (mw M) → va_S A s.heap H locs → lv_has ls 4 [(0, .ref x0), (2, .int x2)] → W p l e (rmw_mK_spoil MC MS) s m args below meth c H locs κ σ (MQ below (va_Qv Φ (fun u t => Po D cy A (mw u) t) A) args s MC MS A) (F0 m 7 ls [])
def Iw_mK_spoil_e (p : Program) (l : Launch) (e : Env) (s : State) (m : MethodId) (args : Array Value) (below : List Frame) (meth : Method) (c : Code) (D : va_G) (cy : Nat → ClassId) (A : Nat → Prop) (ad : Nat → Nat) (mi MC MS : Nat) (Φ : Mm → Prop) (k : Nat → Nat → Mm → Nat → Nat → Prop) : Prop :=
  ∀ (κ σ : Nat) (M : Mm) (a0 : Nat) (a1 : Nat), k κ σ M a0 a1 → κ ≤ MC → σ ≤ MS → ∀ (H : Heap) (locs : List Loc) (ls : Array Slot), va_P D classes (mw M) H → va_D A (mw M) → va_S A s.heap H locs → lv_has ls 4 [(0, .ref a0), (1, .ref a1)] → W p l e (rmw_mK_spoil MC MS) s m args below meth c H locs κ σ (MQ below (va_Qv Φ (fun u t => Po D cy A (mw u) t) A) args s MC MS A) (F0 m 0 ls [])
set_option maxHeartbeats 8000000 in
set_option maxRecDepth 100000 in
theorem wv_mK_spoil_52 {p : Program} {l : Launch} {e : Env} {s : State} {m : MethodId} {args : Array Value} {below : List Frame} {meth : Method} {c : Code} {D : va_G} {cy : Nat → ClassId} {A : Nat → Prop} {ad : Nat → Nat} {mi MC MS : Nat} {Φ : Mm → Prop} {fu : Nat} {k_7 : Nat → Nat → Mm → Nat → Int32 → Prop} (F : FxM p s m args meth c b_K_spoil 4 "CoinKeeper" "spoil" none D cy ad mi A) (hk_7 : Iw_mK_spoil_7 p l e s m args below meth c D cy A ad mi MC MS Φ k_7) : Iw_mK_spoil_52 p l e s m args below meth c D cy A ad mi MC MS Φ (xv_mK_spoil_52 fu MC MS cy ad mi Φ k_7) := by
  obtain ⟨⟨hx, hb, hr, hml, hown, hts, hlocks, hK, hA, hSt, hnm, hex⟩, hT, hMi⟩ := id F
  intro κ σ M x0 x2 hf hkc hks H locs ls hP hD hS hl
  unfold xv_mK_spoil_52 at hf
  obtain ⟨v1, ev, hf⟩ := bnP hf
  refine lv_iinc (v := v1) (lv' := [(2, .int v1), (0, .ref x0)]) hx hb d_K_spoil_52 hl (k := 1) rfl (by rw [ev]; rfl) (by decide) rfl (fun ls hl => ?_)
  clear ev
  refine lv_goto (tgt := 7) hx hb d_K_spoil_55 (by decide) ?_
  exact hk_7 _ _ _ _ _ hf hkc hks _ _ _ hP hD hS (lv_sub hl [1, 0] rfl)
set_option maxHeartbeats 8000000 in
set_option maxRecDepth 100000 in
theorem wv_mK_spoil_7 {p : Program} {l : Launch} {e : Env} {s : State} {m : MethodId} {args : Array Value} {below : List Frame} {meth : Method} {c : Code} {D : va_G} {cy : Nat → ClassId} {A : Nat → Prop} {ad : Nat → Nat} {mi MC MS : Nat} {Φ : Mm → Prop} {fu : Nat} {k_7 : Nat → Nat → Mm → Nat → Int32 → Prop} (F : FxM p s m args meth c b_K_spoil 4 "CoinKeeper" "spoil" none D cy ad mi A) (hk_7 : Iw_mK_spoil_7 p l e s m args below meth c D cy A ad mi MC MS Φ k_7) : Iw_mK_spoil_7 p l e s m args below meth c D cy A ad mi MC MS Φ (xv_mK_spoil_7 fu MC MS cy ad mi Φ k_7) := by
  obtain ⟨⟨hx, hb, hr, hml, hown, hts, hlocks, hK, hA, hSt, hnm, hex⟩, hT, hMi⟩ := id F
  intro κ σ M x0 x2 hf hkc hks H locs ls hP hD hS hl
  unfold xv_mK_spoil_7 at hf
  refine lv_iload_n hx hb d_K_spoil_7 rfl (lv_at hl 1 rfl) ?_
  refine lv_aload_n hx hb d_K_spoil_8 rfl (lv_at hl 0 rfl) ?_
  obtain ⟨fs_, hm_, r1, hv_, hf⟩ := hf
  obtain ⟨ix_, hi_⟩ := m_ix hm_
  refine va_get (D := D) (ci := 0) (v := va_rf r1) (C := "CoinKeeper") (T := F_0) (N := 13) hx hb hts i_0 hown hK hP ix_ hi_ rfl 8 (by decide) (hts _ gw_508) (fun _ h9 => h9) hv_ d_K_spoil_9 ?_
  clear hv_ hi_ hm_
  obtain ⟨q2, rfl, hf⟩ := hf
  refine W.eq (g2 := F0 m 12 ls [.ref q2, .int x2]) rfl ?_
  obtain ⟨fs_, hm_, hf⟩ := hf
  obtain ⟨ix_, hi_⟩ := m_ix hm_
  obtain ⟨mc3, ms4, ⟨hc_, hd_⟩, hf⟩ := hf
  refine mm_ai (va_runV (C := "java/util/ArrayList") (As := []) (rest := [.int x2]) ⟨hx, hb, hml, hown, hts⟩ (cw_mAl_size l D cy ad mi fu mc3 ms4 q2 M _ hf H.size) ⟨q_cB hts gw_551 gw_12 gw_673 hdq_13 ⟨Nat.le_of_ble_eq_true rfl, Nat.le_of_ble_eq_true rfl⟩, hts _ gw_549, hts _ gw_550⟩ (q_preVM (q_preM hP hD hK hSt hT hMi hS (m_free hD hS hA) _) (va_recv hK hP (ci := 11) (q0 := ix_) rfl hi_)) rfl rfl hl.1 rfl (lv_room (Nat.le_of_ble_eq_true rfl)) d_K_spoil_12 ⟨hc_, hd_⟩) hD hS hA (fun v6 M5 H locs hf hP hD hS => ?_)
  have hkc : κ + mc3 ≤ MC := hc_
  have hks : σ + ms4 ≤ MS := hd_
  clear hc_ hd_
  refine lv_icmp_ge (tgt := 58) hx hb d_K_spoil_15 (by decide) (fun cx => ?_) (fun cx => ?_)
  · have hf := ifpP cx hf
    refine W.widen (k := MC) (n := MS) hkc hks ?_
    exact m_rv hf hx hb hr hlocks hK hP hD hS d_K_spoil_58
  · have hf := ifnP cx hf
    refine lv_aload_n hx hb d_K_spoil_18 rfl (lv_at hl 0 rfl) ?_
    obtain ⟨fs_, hm_, r7, hv_, hf⟩ := hf
    obtain ⟨ix_, hi_⟩ := m_ix hm_
    refine va_get (D := D) (ci := 0) (v := va_rf r7) (C := "CoinKeeper") (T := F_0) (N := 13) hx hb hts i_0 hown hK hP ix_ hi_ rfl 8 (by decide) (hts _ gw_508) (fun _ h9 => h9) hv_ d_K_spoil_19 ?_
    clear hv_ hi_ hm_
    obtain ⟨q8, rfl, hf⟩ := hf
    refine W.eq (g2 := F0 m 22 ls [.ref q8]) rfl ?_
    refine lv_iload_n hx hb d_K_spoil_22 rfl (lv_at hl 1 rfl) ?_
    obtain ⟨fs_, hm_, hf⟩ := hf
    obtain ⟨ix_, hi_⟩ := m_ix hm_
    obtain ⟨mc9, ms10, ⟨hc_, hd_⟩, hf⟩ := hf
    refine m_aq (va_runV (C := "java/util/ArrayList") (As := [.int x2]) (rest := []) ⟨hx, hb, hml, hown, hts⟩ (cw_mAl_get l D cy ad mi fu mc9 ms10 q8 x2 M5 _ hf H.size) ⟨q_cB hts gw_555 gw_12 gw_743 hdq_14 ⟨Nat.le_of_ble_eq_true rfl, Nat.le_of_ble_eq_true rfl⟩, hts _ gw_553, hts _ gw_554⟩ (q_preVM (q_preM hP hD hK hSt hT hMi hS (m_free hD hS hA) _) (va_recv hK hP (ci := 11) (q0 := ix_) rfl hi_)) rfl rfl hl.1 rfl (lv_room (Nat.le_of_ble_eq_true rfl)) d_K_spoil_23 ⟨hc_, hd_⟩) hD hS hA (fun v12 M11 H locs hf hP hD hS => ?_)
    have hkc : κ + mc3 + mc9 ≤ MC := hc_
    have hks : σ + ms4 + ms10 ≤ MS := hd_
    clear hc_ hd_
    obtain ⟨q13, rfl, hf⟩ := hf
    refine W.eq (g2 := F0 m 26 ls [.ref q13]) rfl ?_
    obtain ⟨fs_, hm_, hf⟩ := hf
    obtain ⟨ix_, hi_⟩ := m_ix hm_
    refine va_castY (C := "CoinKeeper$Block") hx hb hown (hts _ gw_374) (hSt.2.1 _ (List.mem_of_getElem? (i := 24) rfl)) (va_recv hK hP (ci := 1) (q0 := ix_) rfl hi_) d_K_spoil_26 ?_
    clear hi_ hm_
    refine lv_astore_n (lv' := [(3, .ref q13), (0, .ref x0), (2, .int x2)]) hx hb d_K_spoil_29 rfl hl (by decide) rfl (fun ls hl => ?_)
    refine lv_aload_n hx hb d_K_spoil_30 rfl (lv_at hl 0 rfl) ?_
    obtain ⟨fs_, hm_, r14, hv_, hf⟩ := hf
    obtain ⟨ix_, hi_⟩ := m_ix hm_
    refine va_get (D := D) (ci := 1) (v := va_rf r14) (C := "CoinKeeper$Block") (T := F_1) (N := 12) hx hb hts i_1 hown hK hP ix_ hi_ rfl 0 (by decide) (hts _ gw_391) (fun _ h9 => h9) hv_ d_K_spoil_31 ?_
    clear hv_ hi_ hm_
    have hq_ := ospp hf
    clear hf
    rcases hq_ with ⟨rfl, hf⟩ | ⟨q15, rfl, hf⟩
    · refine W.eq (g2 := F0 m 34 ls [.null]) rfl ?_
      refine lv_ifnullN (tgt := 52) hx hb d_K_spoil_34 (by decide) ?_
      exact wv_mK_spoil_52 (fu := fu) F hk_7 _ _ _ _ _ hf hkc hks _ _ _ hP hD hS (lv_sub hl [1, 2] rfl)
    · refine W.eq (g2 := F0 m 34 ls [.ref q15]) rfl ?_
      refine lv_ifnull hx hb d_K_spoil_34 ?_
      refine lv_aload_n hx hb d_K_spoil_37 rfl (lv_at hl 0 rfl) ?_
      obtain ⟨fs_, hm_, r16, hv_, hf⟩ := hf
      obtain ⟨ix_, hi_⟩ := m_ix hm_
      refine va_get (D := D) (ci := 1) (v := va_rf r16) (C := "CoinKeeper$Block") (T := F_1) (N := 12) hx hb hts i_1 hown hK hP ix_ hi_ rfl 0 (by decide) (hts _ gw_391) (fun _ h9 => h9) hv_ d_K_spoil_38 ?_
      clear hv_ hi_ hm_
      have hq_ := ospp hf
      clear hf
      rcases hq_ with ⟨rfl, hf⟩ | ⟨q17, rfl, hf⟩
      · refine W.eq (g2 := F0 m 41 ls [.null]) rfl ?_
        exact hf.elim
      · refine W.eq (g2 := F0 m 41 ls [.ref q17]) rfl ?_
        obtain ⟨fs_, hm_, v18, hv_, hf⟩ := hf
        obtain ⟨ix_, hi_⟩ := m_ix hm_
        refine va_get (D := D) (ci := 1) (v := .int v18) (C := "CoinKeeper$Block") (T := F_1) (N := 12) hx hb hts i_1 hown hK hP ix_ hi_ rfl 9 (by decide) (hts _ gw_409) (fun _ h9 => h9) hv_ d_K_spoil_41 ?_
        clear hv_ hi_ hm_
        refine lv_if_eq (tgt := 52) hx hb d_K_spoil_44 (by decide) (fun cx => ?_) (fun cx => ?_)
        · have hf := ifpP cx hf
          exact wv_mK_spoil_52 (fu := fu) F hk_7 _ _ _ _ _ hf hkc hks _ _ _ hP hD hS (lv_sub hl [1, 2] rfl)
        · have hf := ifnP cx hf
          refine lv_aload_n hx hb d_K_spoil_47 rfl (lv_at hl 0 rfl) ?_
          refine lv_iconst (v := 1) hx hb d_K_spoil_48 (by decide) ?_
          obtain ⟨fs_, hm_, hlen_, hf⟩ := hf
          obtain ⟨ix_, hi_⟩ := m_ix hm_
          have hE_ := m_set (y := .inr (1, fs_.set 9 (.int (1 : Int32)))) hD hi_
          refine va_put (D := D) (ci := 1) (v := .int (1 : Int32)) (ty := .boolean) (C := "CoinKeeper$Block") (T := F_1) (N := 12) hx hb hts i_1 t_1 t_1_ok n_1 hown hK hP hD hS ix_ hi_ rfl 9 (by decide) (hts _ gw_409) (fun _ h9 => h9) rfl (by decide +kernel) (isb_n (v := 1) (by decide)) (isb_f (v := 1) (by decide)) hlen_ d_K_spoil_49 (fun H locs hP hD hS => ?_)
          obtain ⟨M19, eM_⟩ : ∃ z, z = mu M11 q13 (.inr (1, fs_.set 9 (.int (1 : Int32)))) := ⟨_, rfl⟩
          rw [← eM_] at hf hE_
          rw [hE_] at hP hD
          clear hE_ eM_ hi_ hm_
          exact wv_mK_spoil_52 (fu := fu) F hk_7 _ _ _ _ _ hf hkc hks _ _ _ hP hD hS (lv_sub hl [1, 2] rfl)
theorem ww_mK_spoil_7 {p : Program} {l : Launch} {e : Env} {s : State} {m : MethodId} {args : Array Value} {below : List Frame} {meth : Method} {c : Code} {D : va_G} {cy : Nat → ClassId} {A : Nat → Prop} {ad : Nat → Nat} {mi MC MS : Nat} {Φ : Mm → Prop} {fu : Nat} (F : FxM p s m args meth c b_K_spoil 4 "CoinKeeper" "spoil" none D cy ad mi A) : ∀ n : Nat, Iw_mK_spoil_7 p l e s m args below meth c D cy A ad mi MC MS Φ (xw_mK_spoil_7 fu MC MS cy ad mi Φ n)
  | 0 => fun _ _ _ _ _ hf => False.elim hf
  | n + 1 => wv_mK_spoil_7 F (ww_mK_spoil_7 F n)
set_option maxHeartbeats 8000000 in
set_option maxRecDepth 100000 in
theorem wew_mK_spoil {p : Program} {l : Launch} {e : Env} {s : State} {m : MethodId} {args : Array Value} {below : List Frame} {meth : Method} {c : Code} {D : va_G} {cy : Nat → ClassId} {A : Nat → Prop} {ad : Nat → Nat} {mi MC MS : Nat} {Φ : Mm → Prop} {fu : Nat} (F : FxM p s m args meth c b_K_spoil 4 "CoinKeeper" "spoil" none D cy ad mi A) : Iw_mK_spoil_e p l e s m args below meth c D cy A ad mi MC MS Φ (xw_mK_spoil fu MC MS cy ad mi Φ) := by
  obtain ⟨⟨hx, hb, hr, hml, hown, hts, hlocks, hK, hA, hSt, hnm, hex⟩, hT, hMi⟩ := id F
  intro κ σ M a0 a1 hf hkc hks H locs ls hP hD hS hl
  unfold xw_mK_spoil at hf
  refine lv_aload_n hx hb d_K_spoil_0 rfl (lv_at hl 1 rfl) ?_
  refine lv_iconst (v := 1) hx hb d_K_spoil_1 (by decide) ?_
  obtain ⟨fs_, hm_, hlen_, hf⟩ := hf
  obtain ⟨ix_, hi_⟩ := m_ix hm_
  have hE_ := m_set (y := .inr (1, fs_.set 9 (.int (1 : Int32)))) hD hi_
  refine va_put (D := D) (ci := 1) (v := .int (1 : Int32)) (ty := .boolean) (C := "CoinKeeper$Block") (T := F_1) (N := 12) hx hb hts i_1 t_1 t_1_ok n_1 hown hK hP hD hS ix_ hi_ rfl 9 (by decide) (hts _ gw_409) (fun _ h9 => h9) rfl (by decide +kernel) (isb_n (v := 1) (by decide)) (isb_f (v := 1) (by decide)) hlen_ d_K_spoil_2 (fun H locs hP hD hS => ?_)
  obtain ⟨M1, eM_⟩ : ∃ z, z = mu M a1 (.inr (1, fs_.set 9 (.int (1 : Int32)))) := ⟨_, rfl⟩
  rw [← eM_] at hf hE_
  rw [hE_] at hP hD
  clear hE_ eM_ hi_ hm_
  refine lv_iconst (v := 1) hx hb d_K_spoil_5 (by decide) ?_
  refine lv_istore_n (lv' := [(2, .int (1 : Int32)), (0, .ref a0), (1, .ref a1)]) hx hb d_K_spoil_6 rfl hl (by decide) rfl (fun ls hl => ?_)
  exact ww_mK_spoil_7 F fu _ _ _ _ _ hf hkc hks _ _ _ hP hD hS (lv_sub hl [1, 0] rfl)
theorem cw_mK_spoil (l : Launch) (D : va_G) (cy : Nat → ClassId) (ad : Nat → Nat) (mi fu MC MS : Nat) (a0 : Nat) (a1 : Nat) (M : Mm) (Φ : Mm → Prop) (hf : xw_mK_spoil fu MC MS cy ad mi Φ 0 0 M a0 a1) (sz : Nat) : Met l ({ cls := "CoinKeeper", name := "spoil", desc := "(LCoinKeeper$Block;)V" } : Jvm.MethodName) (.code ({ cls := "CoinKeeper", name := "spoil", desc := "(LCoinKeeper$Block;)V" } : Jvm.MethodName) b_K_spoil 4 none :: gw) (rmw_mK_spoil MC MS) (va_Pc [.ref a0, .ref a1] (PrM D cy ad mi (mw M) sz)) (va_Qv Φ (fun u t => Po D cy (va_A (mw M) sz) (mw u) t) (va_A (mw M) sz)) MC MS (va_A (mw M) sz) :=
  q_metM (Qc := fun A => va_Qv Φ (fun u t => Po D cy A (mw u) t) A) (by decide) rfl rfl (Nat.le_of_ble_eq_true rfl) (fun p e s m below meth c ls F hP hD hS hl => wew_mK_spoil (fu := fu) F 0 0 M a0 a1 hf (Nat.zero_le _) (Nat.zero_le _) _ _ _ hP hD hS hl) sz
