abbrev b_La_ids : ByteArray := prog_5_method_7_code
theorem d_La_ids_0 : decode b_La_ids 0 = .ok (.bipush 32, 2) := by decide +kernel
theorem d_La_ids_2 : decode b_La_ids 2 = .ok (.aload_n 0, 1) := by decide +kernel
theorem d_La_ids_3 : decode b_La_ids 3 = .ok (.getfield 50, 3) := by decide +kernel
theorem d_La_ids_6 : decode b_La_ids 6 = .ok (.imul, 1) := by decide +kernel
theorem d_La_ids_7 : decode b_La_ids 7 = .ok (.bipush 32, 2) := by decide +kernel
theorem d_La_ids_9 : decode b_La_ids 9 = .ok (.iadd, 1) := by decide +kernel
theorem d_La_ids_10 : decode b_La_ids 10 = .ok (.newarray .byte, 2) := by decide +kernel
theorem d_La_ids_12 : decode b_La_ids 12 = .ok (.astore_n 2, 1) := by decide +kernel
theorem d_La_ids_13 : decode b_La_ids 13 = .ok (.iconst 0, 1) := by decide +kernel
theorem d_La_ids_14 : decode b_La_ids 14 = .ok (.istore_n 3, 1) := by decide +kernel
theorem d_La_ids_15 : decode b_La_ids 15 = .ok (.iload_n 3, 1) := by decide +kernel
theorem d_La_ids_16 : decode b_La_ids 16 = .ok (.aload_n 0, 1) := by decide +kernel
theorem d_La_ids_17 : decode b_La_ids 17 = .ok (.getfield 50, 3) := by decide +kernel
theorem d_La_ids_20 : decode b_La_ids 20 = .ok (.if_icmp .ge 43, 3) := by decide +kernel
theorem d_La_ids_23 : decode b_La_ids 23 = .ok (.aload_n 1, 1) := by decide +kernel
theorem d_La_ids_24 : decode b_La_ids 24 = .ok (.aload_n 0, 1) := by decide +kernel
theorem d_La_ids_25 : decode b_La_ids 25 = .ok (.getfield 39, 3) := by decide +kernel
theorem d_La_ids_28 : decode b_La_ids 28 = .ok (.aload_n 0, 1) := by decide +kernel
theorem d_La_ids_29 : decode b_La_ids 29 = .ok (.getfield 11, 3) := by decide +kernel
theorem d_La_ids_32 : decode b_La_ids 32 = .ok (.iload_n 3, 1) := by decide +kernel
theorem d_La_ids_33 : decode b_La_ids 33 = .ok (.iaload, 1) := by decide +kernel
theorem d_La_ids_34 : decode b_La_ids 34 = .ok (.aload_n 0, 1) := by decide +kernel
theorem d_La_ids_35 : decode b_La_ids 35 = .ok (.getfield 11, 3) := by decide +kernel
theorem d_La_ids_38 : decode b_La_ids 38 = .ok (.iload_n 3, 1) := by decide +kernel
theorem d_La_ids_39 : decode b_La_ids 39 = .ok (.iconst 1, 1) := by decide +kernel
theorem d_La_ids_40 : decode b_La_ids 40 = .ok (.iadd, 1) := by decide +kernel
theorem d_La_ids_41 : decode b_La_ids 41 = .ok (.iaload, 1) := by decide +kernel
theorem d_La_ids_42 : decode b_La_ids 42 = .ok (.aload_n 0, 1) := by decide +kernel
theorem d_La_ids_43 : decode b_La_ids 43 = .ok (.getfield 11, 3) := by decide +kernel
theorem d_La_ids_46 : decode b_La_ids 46 = .ok (.iload_n 3, 1) := by decide +kernel
theorem d_La_ids_47 : decode b_La_ids 47 = .ok (.iaload, 1) := by decide +kernel
theorem d_La_ids_48 : decode b_La_ids 48 = .ok (.isub, 1) := by decide +kernel
theorem d_La_ids_49 : decode b_La_ids 49 = .ok (.aload_n 2, 1) := by decide +kernel
theorem d_La_ids_50 : decode b_La_ids 50 = .ok (.bipush 32, 2) := by decide +kernel
theorem d_La_ids_52 : decode b_La_ids 52 = .ok (.iload_n 3, 1) := by decide +kernel
theorem d_La_ids_53 : decode b_La_ids 53 = .ok (.imul, 1) := by decide +kernel
theorem d_La_ids_54 : decode b_La_ids 54 = .ok (.invokevirtual 83, 3) := by decide +kernel
theorem d_La_ids_57 : decode b_La_ids 57 = .ok (.iinc 3 1, 3) := by decide +kernel
theorem d_La_ids_60 : decode b_La_ids 60 = .ok (.goto (-45), 3) := by decide +kernel
theorem d_La_ids_63 : decode b_La_ids 63 = .ok (.aload_n 2, 1) := by decide +kernel
theorem d_La_ids_64 : decode b_La_ids 64 = .ok (.areturn, 1) := by decide +kernel
abbrev rmw_mLa_ids (MC MS : Nat) : Room := { frames := 4, cells := MC, slots := MS, locals := 107 }
def Iw_mLa_ids_15 (p : Program) (l : Launch) (e : Env) (s : State) (m : MethodId) (args : Array Value) (below : List Frame) (meth : Method) (c : Code) (D : va_G) (cy : Nat → ClassId) (A : Nat → Prop) (ad : Nat → Nat) (mi MC MS : Nat) (Φ : Option Nat → Mm → Prop) (k : Nat → Nat → Mm → Nat → Nat → Nat → Int32 → Prop) : Prop :=
  ∀ (κ σ : Nat) (M : Mm) (x0 : Nat) (x1 : Nat) (x2 : Nat) (x3 : Int32), k κ σ M x0 x1 x2 x3 → κ ≤ MC → σ ≤ MS → ∀ (H : Heap) (locs : List Loc) (ls : Array Slot), va_P D classes (mw M) H → va_D A (mw M) → va_S A s.heap H locs → lv_has ls 4 [(0, .ref x0), (1, .ref x1), (2, .ref x2), (3, .int x3)] → W p l e (rmw_mLa_ids MC MS) s m args below meth c H locs κ σ (MQ below (va_Qq Φ (fun u t => Po D cy A (mw u) t) A) args s MC MS A) (F0 m 15 ls [])
def Iw_mLa_ids_e (p : Program) (l : Launch) (e : Env) (s : State) (m : MethodId) (args : Array Value) (below : List Frame) (meth : Method) (c : Code) (D : va_G) (cy : Nat → ClassId) (A : Nat → Prop) (ad : Nat → Nat) (mi MC MS : Nat) (Φ : Option Nat → Mm → Prop) (k : Nat → Nat → Mm → Nat → Nat → Prop) : Prop :=
  ∀ (κ σ : Nat) (M : Mm) (a0 : Nat) (a1 : Nat), k κ σ M a0 a1 → κ ≤ MC → σ ≤ MS → ∀ (H : Heap) (locs : List Loc) (ls : Array Slot), va_P D classes (mw M) H → va_D A (mw M) → va_S A s.heap H locs → lv_has ls 4 [(0, .ref a0), (1, .ref a1)] → W p l e (rmw_mLa_ids MC MS) s m args below meth c H locs κ σ (MQ below (va_Qq Φ (fun u t => Po D cy A (mw u) t) A) args s MC MS A) (F0 m 0 ls [])
theorem hdq_23 : ({ cls := "CoinKeeper$Sha256", name := "twice", desc := "([BII[BI)V" } : Jvm.MethodName).cls ≠ "java/lang/invoke/MethodHandle" ∧ ({ cls := "CoinKeeper$Sha256", name := "twice", desc := "([BII[BI)V" } : Jvm.MethodName).cls ≠ "java/lang/invoke/VarHandle" ∧ (parseMethodDescriptor ({ cls := "CoinKeeper$Sha256", name := "twice", desc := "([BII[BI)V" } : Jvm.MethodName).desc).map (fun d => d.parameters.length) = some 5 := by decide +kernel
set_option maxHeartbeats 8000000 in
set_option maxRecDepth 100000 in
theorem wv_mLa_ids_15 {p : Program} {l : Launch} {e : Env} {s : State} {m : MethodId} {args : Array Value} {below : List Frame} {meth : Method} {c : Code} {D : va_G} {cy : Nat → ClassId} {A : Nat → Prop} {ad : Nat → Nat} {mi MC MS : Nat} {Φ : Option Nat → Mm → Prop} {fu : Nat} {k_15 : Nat → Nat → Mm → Nat → Nat → Nat → Int32 → Prop} (F : FxM p s m args meth c b_La_ids 4 "CoinKeeper$Layout" "ids" (Option.some (Jvm.ClassFile.FieldType.array Jvm.ClassFile.FieldType.byte)) D cy ad mi A) (hk_15 : Iw_mLa_ids_15 p l e s m args below meth c D cy A ad mi MC MS Φ k_15) : Iw_mLa_ids_15 p l e s m args below meth c D cy A ad mi MC MS Φ (xv_mLa_ids_15 fu MC MS cy ad mi Φ k_15) := by
  obtain ⟨⟨hx, hb, hr, hml, hown, hts, hlocks, hK, hA, hSt, hnm, hex⟩, hT, hMi⟩ := id F
  intro κ σ M x0 x1 x2 x3 hf hkc hks H locs ls hP hD hS hl
  unfold xv_mLa_ids_15 at hf
  refine lv_iload_n hx hb d_La_ids_15 rfl (lv_at hl 3 rfl) ?_
  refine lv_aload_n hx hb d_La_ids_16 rfl (lv_at hl 0 rfl) ?_
  obtain ⟨fs_, hm_, v1, hv_, hf⟩ := hf
  obtain ⟨ix_, hi_⟩ := m_ix hm_
  refine va_get (D := D) (ci := 4) (v := .int v1) (C := "CoinKeeper$Layout") (T := F_4) (N := 15) hx hb hts i_4 hown hK hP ix_ hi_ rfl 1 (by decide) (hts _ gw_272) (fun _ h9 => h9) hv_ d_La_ids_17 ?_
  clear hv_ hi_ hm_
  refine lv_icmp_ge (tgt := 63) hx hb d_La_ids_20 (by decide) (fun cx => ?_) (fun cx => ?_)
  · have hf := ifpP cx hf
    refine lv_aload_n hx hb d_La_ids_63 rfl (lv_at hl 2 rfl) ?_
    refine W.widen (k := MC) (n := MS) hkc hks ?_
    exact m_ra hf rfl hx hb hr (Or.inr ⟨_, rfl⟩) hlocks hK hP hD hS d_La_ids_64
  · have hf := ifnP cx hf
    refine lv_aload_n hx hb d_La_ids_23 rfl (lv_at hl 1 rfl) ?_
    refine lv_aload_n hx hb d_La_ids_24 rfl (lv_at hl 0 rfl) ?_
    obtain ⟨fs_, hm_, r2, hv_, hf⟩ := hf
    obtain ⟨ix_, hi_⟩ := m_ix hm_
    refine va_get (D := D) (ci := 4) (v := va_rf r2) (C := "CoinKeeper$Layout") (T := F_4) (N := 15) hx hb hts i_4 hown hK hP ix_ hi_ rfl 0 (by decide) (hts _ gw_269) (fun _ h9 => h9) hv_ d_La_ids_25 ?_
    clear hv_ hi_ hm_
    have hq_ := ospp hf
    clear hf
    rcases hq_ with ⟨rfl, hf⟩ | ⟨q3, rfl, hf⟩
    · refine W.eq (g2 := F0 m 28 ls [.null, .ref x1]) rfl ?_
      refine lv_aload_n hx hb d_La_ids_28 rfl (lv_at hl 0 rfl) ?_
      obtain ⟨fs_, hm_, r4, hv_, hf⟩ := hf
      obtain ⟨ix_, hi_⟩ := m_ix hm_
      refine va_get (D := D) (ci := 4) (v := va_rf r4) (C := "CoinKeeper$Layout") (T := F_4) (N := 15) hx hb hts i_4 hown hK hP ix_ hi_ rfl 2 (by decide) (hts _ gw_274) (fun _ h9 => h9) hv_ d_La_ids_29 ?_
      clear hv_ hi_ hm_
      obtain ⟨q5, rfl, hf⟩ := hf
      refine W.eq (g2 := F0 m 32 ls [.ref q5, .null, .ref x1]) rfl ?_
      refine lv_iload_n hx hb d_La_ids_32 rfl (lv_at hl 3 rfl) ?_
      obtain ⟨n_, f_, hm_, hin_, hf⟩ := hf
      obtain ⟨ix_, hi_⟩ := m_ix hm_
      refine va_iald hx hb hK hP ix_ 1 hi_ rfl (inb_in hin_) d_La_ids_33 ?_
      obtain ⟨v6, ev⟩ : ∃ z, z = f_ x3.toNatClampNeg := ⟨_, rfl⟩
      first | rw [← ev] at hf ⊢ | rw [← ev]
      clear ev hi_ hm_ hin_
      refine lv_aload_n hx hb d_La_ids_34 rfl (lv_at hl 0 rfl) ?_
      obtain ⟨fs_, hm_, r7, hv_, hf⟩ := hf
      obtain ⟨ix_, hi_⟩ := m_ix hm_
      refine va_get (D := D) (ci := 4) (v := va_rf r7) (C := "CoinKeeper$Layout") (T := F_4) (N := 15) hx hb hts i_4 hown hK hP ix_ hi_ rfl 2 (by decide) (hts _ gw_274) (fun _ h9 => h9) hv_ d_La_ids_35 ?_
      clear hv_ hi_ hm_
      obtain ⟨q8, rfl, hf⟩ := hf
      refine W.eq (g2 := F0 m 38 ls [.ref q8, .int v6, .null, .ref x1]) rfl ?_
      refine lv_iload_n hx hb d_La_ids_38 rfl (lv_at hl 3 rfl) ?_
      refine lv_iconst (v := 1) hx hb d_La_ids_39 (by decide) ?_
      refine lv_iadd hx hb d_La_ids_40 ?_
      refine lv_topi (fun v9 ev => ?_)
      have hf := bnQ ev hf
      clear ev
      obtain ⟨n_, f_, hm_, hin_, hf⟩ := hf
      obtain ⟨ix_, hi_⟩ := m_ix hm_
      refine va_iald hx hb hK hP ix_ 1 hi_ rfl (inb_in hin_) d_La_ids_41 ?_
      obtain ⟨v10, ev⟩ : ∃ z, z = f_ v9.toNatClampNeg := ⟨_, rfl⟩
      first | rw [← ev] at hf ⊢ | rw [← ev]
      clear ev hi_ hm_ hin_
      refine lv_aload_n hx hb d_La_ids_42 rfl (lv_at hl 0 rfl) ?_
      obtain ⟨fs_, hm_, r11, hv_, hf⟩ := hf
      obtain ⟨ix_, hi_⟩ := m_ix hm_
      refine va_get (D := D) (ci := 4) (v := va_rf r11) (C := "CoinKeeper$Layout") (T := F_4) (N := 15) hx hb hts i_4 hown hK hP ix_ hi_ rfl 2 (by decide) (hts _ gw_274) (fun _ h9 => h9) hv_ d_La_ids_43 ?_
      clear hv_ hi_ hm_
      obtain ⟨q12, rfl, hf⟩ := hf
      refine W.eq (g2 := F0 m 46 ls [.ref q12, .int v10, .int v6, .null, .ref x1]) rfl ?_
      refine lv_iload_n hx hb d_La_ids_46 rfl (lv_at hl 3 rfl) ?_
      obtain ⟨n_, f_, hm_, hin_, hf⟩ := hf
      obtain ⟨ix_, hi_⟩ := m_ix hm_
      refine va_iald hx hb hK hP ix_ 1 hi_ rfl (inb_in hin_) d_La_ids_47 ?_
      obtain ⟨v13, ev⟩ : ∃ z, z = f_ x3.toNatClampNeg := ⟨_, rfl⟩
      first | rw [← ev] at hf ⊢ | rw [← ev]
      clear ev hi_ hm_ hin_
      refine lv_isub hx hb d_La_ids_48 ?_
      refine lv_topi (fun v14 ev => ?_)
      have hf := bnQ ev hf
      clear ev
      refine lv_aload_n hx hb d_La_ids_49 rfl (lv_at hl 2 rfl) ?_
      refine lv_bipush (v := 32) hx hb d_La_ids_50 (by decide) ?_
      refine lv_iload_n hx hb d_La_ids_52 rfl (lv_at hl 3 rfl) ?_
      refine lv_imul hx hb d_La_ids_53 ?_
      refine lv_topi (fun v15 ev => ?_)
      have hf := bnQ ev hf
      clear ev
      exact hf.elim
    · refine W.eq (g2 := F0 m 28 ls [.ref q3, .ref x1]) rfl ?_
      refine lv_aload_n hx hb d_La_ids_28 rfl (lv_at hl 0 rfl) ?_
      obtain ⟨fs_, hm_, r16, hv_, hf⟩ := hf
      obtain ⟨ix_, hi_⟩ := m_ix hm_
      refine va_get (D := D) (ci := 4) (v := va_rf r16) (C := "CoinKeeper$Layout") (T := F_4) (N := 15) hx hb hts i_4 hown hK hP ix_ hi_ rfl 2 (by decide) (hts _ gw_274) (fun _ h9 => h9) hv_ d_La_ids_29 ?_
      clear hv_ hi_ hm_
      obtain ⟨q17, rfl, hf⟩ := hf
      refine W.eq (g2 := F0 m 32 ls [.ref q17, .ref q3, .ref x1]) rfl ?_
      refine lv_iload_n hx hb d_La_ids_32 rfl (lv_at hl 3 rfl) ?_
      obtain ⟨n_, f_, hm_, hin_, hf⟩ := hf
      obtain ⟨ix_, hi_⟩ := m_ix hm_
      refine va_iald hx hb hK hP ix_ 1 hi_ rfl (inb_in hin_) d_La_ids_33 ?_
      obtain ⟨v18, ev⟩ : ∃ z, z = f_ x3.toNatClampNeg := ⟨_, rfl⟩
      first | rw [← ev] at hf ⊢ | rw [← ev]
      clear ev hi_ hm_ hin_
      refine lv_aload_n hx hb d_La_ids_34 rfl (lv_at hl 0 rfl) ?_
      obtain ⟨fs_, hm_, r19, hv_, hf⟩ := hf
      obtain ⟨ix_, hi_⟩ := m_ix hm_
      refine va_get (D := D) (ci := 4) (v := va_rf r19) (C := "CoinKeeper$Layout") (T := F_4) (N := 15) hx hb hts i_4 hown hK hP ix_ hi_ rfl 2 (by decide) (hts _ gw_274) (fun _ h9 => h9) hv_ d_La_ids_35 ?_
      clear hv_ hi_ hm_
      obtain ⟨q20, rfl, hf⟩ := hf
      refine W.eq (g2 := F0 m 38 ls [.ref q20, .int v18, .ref q3, .ref x1]) rfl ?_
      refine lv_iload_n hx hb d_La_ids_38 rfl (lv_at hl 3 rfl) ?_
      refine lv_iconst (v := 1) hx hb d_La_ids_39 (by decide) ?_
      refine lv_iadd hx hb d_La_ids_40 ?_
      refine lv_topi (fun v21 ev => ?_)
      have hf := bnQ ev hf
      clear ev
      obtain ⟨n_, f_, hm_, hin_, hf⟩ := hf
      obtain ⟨ix_, hi_⟩ := m_ix hm_
      refine va_iald hx hb hK hP ix_ 1 hi_ rfl (inb_in hin_) d_La_ids_41 ?_
      obtain ⟨v22, ev⟩ : ∃ z, z = f_ v21.toNatClampNeg := ⟨_, rfl⟩
      first | rw [← ev] at hf ⊢ | rw [← ev]
      clear ev hi_ hm_ hin_
      refine lv_aload_n hx hb d_La_ids_42 rfl (lv_at hl 0 rfl) ?_
      obtain ⟨fs_, hm_, r23, hv_, hf⟩ := hf
      obtain ⟨ix_, hi_⟩ := m_ix hm_
      refine va_get (D := D) (ci := 4) (v := va_rf r23) (C := "CoinKeeper$Layout") (T := F_4) (N := 15) hx hb hts i_4 hown hK hP ix_ hi_ rfl 2 (by decide) (hts _ gw_274) (fun _ h9 => h9) hv_ d_La_ids_43 ?_
      clear hv_ hi_ hm_
      obtain ⟨q24, rfl, hf⟩ := hf
      refine W.eq (g2 := F0 m 46 ls [.ref q24, .int v22, .int v18, .ref q3, .ref x1]) rfl ?_
      refine lv_iload_n hx hb d_La_ids_46 rfl (lv_at hl 3 rfl) ?_
      obtain ⟨n_, f_, hm_, hin_, hf⟩ := hf
      obtain ⟨ix_, hi_⟩ := m_ix hm_
      refine va_iald hx hb hK hP ix_ 1 hi_ rfl (inb_in hin_) d_La_ids_47 ?_
      obtain ⟨v25, ev⟩ : ∃ z, z = f_ x3.toNatClampNeg := ⟨_, rfl⟩
      first | rw [← ev] at hf ⊢ | rw [← ev]
      clear ev hi_ hm_ hin_
      refine lv_isub hx hb d_La_ids_48 ?_
      refine lv_topi (fun v26 ev => ?_)
      have hf := bnQ ev hf
      clear ev
      refine lv_aload_n hx hb d_La_ids_49 rfl (lv_at hl 2 rfl) ?_
      refine lv_bipush (v := 32) hx hb d_La_ids_50 (by decide) ?_
      refine lv_iload_n hx hb d_La_ids_52 rfl (lv_at hl 3 rfl) ?_
      refine lv_imul hx hb d_La_ids_53 ?_
      refine lv_topi (fun v27 ev => ?_)
      have hf := bnQ ev hf
      clear ev
      by_cases cx : q3 = x2
      · have hg_ := ifpP cx hf
        clear hf
        subst cx
        have hf := hg_
        clear hg_
        obtain ⟨b28, b29, b30, c31, c32, c33, c34, c35, c36, c37, hal_, hnd_, c38, c39, c40, c41, c42, c43, hc, hf⟩ := hf
        refine m_lv (va_runV (C := "CoinKeeper$Sha256") (As := [.ref q3, .int v18, .int v26, .ref q3, .int v27]) (rest := []) ⟨hx, hb, hml, hown, hts⟩ (c_Sh_twice_e41 l D cy ad fu x1 b28 b29 b30 q3 c31 v18 v26 v27 c32 c33 c34 c35 c36 c37 _ hc H.size) ⟨q_cB hts gw_707 gw_2 gw_787 hdq_23 ⟨Nat.le_of_ble_eq_true rfl, Nat.le_of_ble_eq_true rfl⟩, hts _ gw_705, hts _ gw_706⟩ (q_preV (q_pre (m_subP hP hal_) (m_subD hD hal_ hnd_) hK hSt hS (m_lF hD hS hA hal_) _) (va_recv hK (m_subP hP hal_) (ci := 9) (q0 := 0) rfl rfl)) rfl rfl hl.1 rfl (lv_room (Nat.le_of_ble_eq_true rfl)) d_La_ids_54 ⟨hkc, hks⟩) hP hD hS hA hal_ rfl (fun H locs hP hD hS => ?_)
        refine W.widen (k := κ) (n := σ) (Nat.le_refl _) (Nat.le_refl _) ?_
        obtain ⟨M44, eM_, hf⟩ := bnP hf
        have hP : va_P D classes (mw M44) H := by rw [eM_]; exact hP
        have hD : va_D A (mw M44) := by rw [eM_]; exact hD
        clear eM_ hal_ hnd_ hc
        obtain ⟨v45, ev, hf⟩ := bnP hf
        refine lv_iinc (v := v45) (lv' := [(3, .int v45), (0, .ref x0), (1, .ref x1), (2, .ref q3)]) hx hb d_La_ids_57 hl (k := 3) rfl (by rw [ev]; rfl) (by decide) rfl (fun ls hl => ?_)
        clear ev
        refine lv_goto (tgt := 15) hx hb d_La_ids_60 (by decide) ?_
        exact hk_15 _ _ _ _ _ _ _ hf hkc hks _ _ _ hP hD hS (lv_sub hl [1, 2, 3, 0] rfl)
      · have hf := ifnP cx hf
        obtain ⟨b46, b47, b48, c49, c50, c51, c52, c53, c54, c55, c56, c57, hal_, hnd_, c58, c59, c60, c61, c62, c63, hc, hf⟩ := hf
        refine m_lv (va_runV (C := "CoinKeeper$Sha256") (As := [.ref q3, .int v18, .int v26, .ref x2, .int v27]) (rest := []) ⟨hx, hb, hml, hown, hts⟩ (c_Sh_twice l D cy ad fu x1 b46 b47 b48 q3 x2 c49 c50 c51 v18 v26 v27 c52 c53 c54 c55 c56 c57 _ hc H.size) ⟨q_cB hts gw_707 gw_2 gw_787 hdq_23 ⟨Nat.le_of_ble_eq_true rfl, Nat.le_of_ble_eq_true rfl⟩, hts _ gw_705, hts _ gw_706⟩ (q_preV (q_pre (m_subP hP hal_) (m_subD hD hal_ hnd_) hK hSt hS (m_lF hD hS hA hal_) _) (va_recv hK (m_subP hP hal_) (ci := 9) (q0 := 0) rfl rfl)) rfl rfl hl.1 rfl (lv_room (Nat.le_of_ble_eq_true rfl)) d_La_ids_54 ⟨hkc, hks⟩) hP hD hS hA hal_ rfl (fun H locs hP hD hS => ?_)
        refine W.widen (k := κ) (n := σ) (Nat.le_refl _) (Nat.le_refl _) ?_
        obtain ⟨M64, eM_, hf⟩ := bnP hf
        have hP : va_P D classes (mw M64) H := by rw [eM_]; exact hP
        have hD : va_D A (mw M64) := by rw [eM_]; exact hD
        clear eM_ hal_ hnd_ hc
        obtain ⟨v65, ev, hf⟩ := bnP hf
        refine lv_iinc (v := v65) (lv' := [(3, .int v65), (0, .ref x0), (1, .ref x1), (2, .ref x2)]) hx hb d_La_ids_57 hl (k := 3) rfl (by rw [ev]; rfl) (by decide) rfl (fun ls hl => ?_)
        clear ev
        refine lv_goto (tgt := 15) hx hb d_La_ids_60 (by decide) ?_
        exact hk_15 _ _ _ _ _ _ _ hf hkc hks _ _ _ hP hD hS (lv_sub hl [1, 2, 3, 0] rfl)
theorem ww_mLa_ids_15 {p : Program} {l : Launch} {e : Env} {s : State} {m : MethodId} {args : Array Value} {below : List Frame} {meth : Method} {c : Code} {D : va_G} {cy : Nat → ClassId} {A : Nat → Prop} {ad : Nat → Nat} {mi MC MS : Nat} {Φ : Option Nat → Mm → Prop} {fu : Nat} (F : FxM p s m args meth c b_La_ids 4 "CoinKeeper$Layout" "ids" (Option.some (Jvm.ClassFile.FieldType.array Jvm.ClassFile.FieldType.byte)) D cy ad mi A) : ∀ n : Nat, Iw_mLa_ids_15 p l e s m args below meth c D cy A ad mi MC MS Φ (xw_mLa_ids_15 fu MC MS cy ad mi Φ n)
  | 0 => fun _ _ _ _ _ _ _ hf => False.elim hf
  | n + 1 => wv_mLa_ids_15 F (ww_mLa_ids_15 F n)
set_option maxHeartbeats 8000000 in
set_option maxRecDepth 100000 in
theorem wew_mLa_ids {p : Program} {l : Launch} {e : Env} {s : State} {m : MethodId} {args : Array Value} {below : List Frame} {meth : Method} {c : Code} {D : va_G} {cy : Nat → ClassId} {A : Nat → Prop} {ad : Nat → Nat} {mi MC MS : Nat} {Φ : Option Nat → Mm → Prop} {fu : Nat} (F : FxM p s m args meth c b_La_ids 4 "CoinKeeper$Layout" "ids" (Option.some (Jvm.ClassFile.FieldType.array Jvm.ClassFile.FieldType.byte)) D cy ad mi A) : Iw_mLa_ids_e p l e s m args below meth c D cy A ad mi MC MS Φ (xw_mLa_ids fu MC MS cy ad mi Φ) := by
  obtain ⟨⟨hx, hb, hr, hml, hown, hts, hlocks, hK, hA, hSt, hnm, hex⟩, hT, hMi⟩ := id F
  intro κ σ M a0 a1 hf hkc hks H locs ls hP hD hS hl
  unfold xw_mLa_ids at hf
  refine lv_bipush (v := 32) hx hb d_La_ids_0 (by decide) ?_
  refine lv_aload_n hx hb d_La_ids_2 rfl (lv_at hl 0 rfl) ?_
  obtain ⟨fs_, hm_, v1, hv_, hf⟩ := hf
  obtain ⟨ix_, hi_⟩ := m_ix hm_
  refine va_get (D := D) (ci := 4) (v := .int v1) (C := "CoinKeeper$Layout") (T := F_4) (N := 15) hx hb hts i_4 hown hK hP ix_ hi_ rfl 1 (by decide) (hts _ gw_272) (fun _ h9 => h9) hv_ d_La_ids_3 ?_
  clear hv_ hi_ hm_
  refine lv_imul hx hb d_La_ids_6 ?_
  refine lv_topi (fun v2 ev => ?_)
  have hf := bnQ ev hf
  clear ev
  refine lv_bipush (v := 32) hx hb d_La_ids_7 (by decide) ?_
  refine lv_iadd hx hb d_La_ids_9 ?_
  refine lv_topi (fun v3 ev => ?_)
  have hf := bnQ ev hf
  clear ev
  obtain ⟨⟨hn_, hby_⟩, hf⟩ := hf
  obtain ⟨⟨hkc, hks⟩, hf⟩ := hf
  refine q_newa (ty := .byte) (a0 := (v3.toNatClampNeg, .inl (fun _ => 0))) hx hb hts gw_60 rfl hK hP hD hS hA 0 rfl (fun _ h => h) (fun _ => rfl) hn_ rfl hby_ hkc hks d_La_ids_10 (fun w4 H hP hD hS => ?_)
  have hE_ := m_push (x := .inl (cy 0, (v3.toNatClampNeg, .inl (fun _ => 0)))) hD
  have hf := hf w4 (va_pl_fresh2 (X := []) (L := M.1) (f := M.2) hD) (ad_ne hSt hD)
  obtain ⟨M5, eM_⟩ : ∃ z, z = mp M w4 (.inl (cy 0, (v3.toNatClampNeg, .inl (fun _ => 0)))) := ⟨_, rfl⟩
  rw [← eM_] at hf hE_
  rw [hE_] at hP hD
  clear hE_ eM_
  refine lv_astore_n (lv' := [(2, .ref w4), (0, .ref a0), (1, .ref a1)]) hx hb d_La_ids_12 rfl hl (by decide) rfl (fun ls hl => ?_)
  refine lv_iconst (v := 0) hx hb d_La_ids_13 (by decide) ?_
  refine lv_istore_n (lv' := [(3, .int (0 : Int32)), (2, .ref w4), (0, .ref a0), (1, .ref a1)]) hx hb d_La_ids_14 rfl hl (by decide) rfl (fun ls hl => ?_)
  exact ww_mLa_ids_15 F fu _ _ _ _ _ _ _ hf hkc hks _ _ _ hP hD hS (lv_sub hl [2, 3, 1, 0] rfl)
theorem cw_mLa_ids (l : Launch) (D : va_G) (cy : Nat → ClassId) (ad : Nat → Nat) (mi fu MC MS : Nat) (a0 : Nat) (a1 : Nat) (M : Mm) (Φ : Option Nat → Mm → Prop) (hf : xw_mLa_ids fu MC MS cy ad mi Φ 0 0 M a0 a1) (sz : Nat) : Met l ({ cls := "CoinKeeper$Layout", name := "ids", desc := "(LCoinKeeper$Sha256;)[B" } : Jvm.MethodName) (.code ({ cls := "CoinKeeper$Layout", name := "ids", desc := "(LCoinKeeper$Sha256;)[B" } : Jvm.MethodName) b_La_ids 4 (Option.some (Jvm.ClassFile.FieldType.array Jvm.ClassFile.FieldType.byte)) :: gw) (rmw_mLa_ids MC MS) (va_Pc [.ref a0, .ref a1] (PrM D cy ad mi (mw M) sz)) (va_Qq Φ (fun u t => Po D cy (va_A (mw M) sz) (mw u) t) (va_A (mw M) sz)) MC MS (va_A (mw M) sz) :=
  q_metM (Qc := fun A => va_Qq Φ (fun u t => Po D cy A (mw u) t) A) (by decide) rfl rfl (Nat.le_of_ble_eq_true rfl) (fun p e s m below meth c ls F hP hD hS hl => wew_mLa_ids (fu := fu) F 0 0 M a0 a1 hf (Nat.zero_le _) (Nat.zero_le _) _ _ _ hP hD hS hl) sz
abbrev b_La_rootIsRight : ByteArray := prog_5_method_8_code
theorem d_La_rootIsRight_0 : decode b_La_rootIsRight 0 = .ok (.aload_n 0, 1) := by decide +kernel
theorem d_La_rootIsRight_1 : decode b_La_rootIsRight 1 = .ok (.aload_n 1, 1) := by decide +kernel
theorem d_La_rootIsRight_2 : decode b_La_rootIsRight 2 = .ok (.invokevirtual 89, 3) := by decide +kernel
theorem d_La_rootIsRight_5 : decode b_La_rootIsRight 5 = .ok (.astore_n 2, 1) := by decide +kernel
theorem d_La_rootIsRight_6 : decode b_La_rootIsRight 6 = .ok (.aload_n 0, 1) := by decide +kernel
theorem d_La_rootIsRight_7 : decode b_La_rootIsRight 7 = .ok (.getfield 50, 3) := by decide +kernel
theorem d_La_rootIsRight_10 : decode b_La_rootIsRight 10 = .ok (.istore_n 3, 1) := by decide +kernel
theorem d_La_rootIsRight_11 : decode b_La_rootIsRight 11 = .ok (.iload_n 3, 1) := by decide +kernel
theorem d_La_rootIsRight_12 : decode b_La_rootIsRight 12 = .ok (.iconst 1, 1) := by decide +kernel
theorem d_La_rootIsRight_13 : decode b_La_rootIsRight 13 = .ok (.if_icmp .le 101, 3) := by decide +kernel
theorem d_La_rootIsRight_16 : decode b_La_rootIsRight 16 = .ok (.iconst 0, 1) := by decide +kernel
theorem d_La_rootIsRight_17 : decode b_La_rootIsRight 17 = .ok (.istore 4, 2) := by decide +kernel
theorem d_La_rootIsRight_19 : decode b_La_rootIsRight 19 = .ok (.iload 4, 2) := by decide +kernel
theorem d_La_rootIsRight_21 : decode b_La_rootIsRight 21 = .ok (.iload_n 3, 1) := by decide +kernel
theorem d_La_rootIsRight_22 : decode b_La_rootIsRight 22 = .ok (.if_icmp .ge 83, 3) := by decide +kernel
theorem d_La_rootIsRight_25 : decode b_La_rootIsRight 25 = .ok (.iload 4, 2) := by decide +kernel
theorem d_La_rootIsRight_27 : decode b_La_rootIsRight 27 = .ok (.iconst 1, 1) := by decide +kernel
theorem d_La_rootIsRight_28 : decode b_La_rootIsRight 28 = .ok (.iadd, 1) := by decide +kernel
theorem d_La_rootIsRight_29 : decode b_La_rootIsRight 29 = .ok (.iload_n 3, 1) := by decide +kernel
theorem d_La_rootIsRight_30 : decode b_La_rootIsRight 30 = .ok (.if_icmp .ne 26, 3) := by decide +kernel
theorem d_La_rootIsRight_33 : decode b_La_rootIsRight 33 = .ok (.aload_n 2, 1) := by decide +kernel
theorem d_La_rootIsRight_34 : decode b_La_rootIsRight 34 = .ok (.bipush 32, 2) := by decide +kernel
theorem d_La_rootIsRight_36 : decode b_La_rootIsRight 36 = .ok (.iload 4, 2) := by decide +kernel
theorem d_La_rootIsRight_38 : decode b_La_rootIsRight 38 = .ok (.imul, 1) := by decide +kernel
theorem d_La_rootIsRight_39 : decode b_La_rootIsRight 39 = .ok (.aload_n 2, 1) := by decide +kernel
theorem d_La_rootIsRight_40 : decode b_La_rootIsRight 40 = .ok (.bipush 32, 2) := by decide +kernel
theorem d_La_rootIsRight_42 : decode b_La_rootIsRight 42 = .ok (.iload 4, 2) := by decide +kernel
theorem d_La_rootIsRight_44 : decode b_La_rootIsRight 44 = .ok (.imul, 1) := by decide +kernel
theorem d_La_rootIsRight_45 : decode b_La_rootIsRight 45 = .ok (.bipush 32, 2) := by decide +kernel
theorem d_La_rootIsRight_47 : decode b_La_rootIsRight 47 = .ok (.iadd, 1) := by decide +kernel
theorem d_La_rootIsRight_48 : decode b_La_rootIsRight 48 = .ok (.bipush 32, 2) := by decide +kernel
theorem d_La_rootIsRight_50 : decode b_La_rootIsRight 50 = .ok (.invokestatic 93, 3) := by decide +kernel
theorem d_La_rootIsRight_53 : decode b_La_rootIsRight 53 = .ok (.goto 28, 3) := by decide +kernel
theorem d_La_rootIsRight_56 : decode b_La_rootIsRight 56 = .ok (.aload_n 2, 1) := by decide +kernel
theorem d_La_rootIsRight_57 : decode b_La_rootIsRight 57 = .ok (.bipush 32, 2) := by decide +kernel
theorem d_La_rootIsRight_59 : decode b_La_rootIsRight 59 = .ok (.iload 4, 2) := by decide +kernel
theorem d_La_rootIsRight_61 : decode b_La_rootIsRight 61 = .ok (.imul, 1) := by decide +kernel
theorem d_La_rootIsRight_62 : decode b_La_rootIsRight 62 = .ok (.aload_n 2, 1) := by decide +kernel
theorem d_La_rootIsRight_63 : decode b_La_rootIsRight 63 = .ok (.bipush 32, 2) := by decide +kernel
theorem d_La_rootIsRight_65 : decode b_La_rootIsRight 65 = .ok (.iload 4, 2) := by decide +kernel
theorem d_La_rootIsRight_67 : decode b_La_rootIsRight 67 = .ok (.imul, 1) := by decide +kernel
theorem d_La_rootIsRight_68 : decode b_La_rootIsRight 68 = .ok (.bipush 32, 2) := by decide +kernel
theorem d_La_rootIsRight_70 : decode b_La_rootIsRight 70 = .ok (.iadd, 1) := by decide +kernel
theorem d_La_rootIsRight_71 : decode b_La_rootIsRight 71 = .ok (.bipush 32, 2) := by decide +kernel
theorem d_La_rootIsRight_73 : decode b_La_rootIsRight 73 = .ok (.invokestatic 99, 3) := by decide +kernel
theorem d_La_rootIsRight_76 : decode b_La_rootIsRight 76 = .ok (.ifCond .eq 5, 3) := by decide +kernel
theorem d_La_rootIsRight_79 : decode b_La_rootIsRight 79 = .ok (.iconst 0, 1) := by decide +kernel
theorem d_La_rootIsRight_80 : decode b_La_rootIsRight 80 = .ok (.ireturn, 1) := by decide +kernel
theorem d_La_rootIsRight_81 : decode b_La_rootIsRight 81 = .ok (.aload_n 1, 1) := by decide +kernel
theorem d_La_rootIsRight_82 : decode b_La_rootIsRight 82 = .ok (.aload_n 2, 1) := by decide +kernel
theorem d_La_rootIsRight_83 : decode b_La_rootIsRight 83 = .ok (.bipush 32, 2) := by decide +kernel
theorem d_La_rootIsRight_85 : decode b_La_rootIsRight 85 = .ok (.iload 4, 2) := by decide +kernel
theorem d_La_rootIsRight_87 : decode b_La_rootIsRight 87 = .ok (.imul, 1) := by decide +kernel
theorem d_La_rootIsRight_88 : decode b_La_rootIsRight 88 = .ok (.bipush 64, 2) := by decide +kernel
theorem d_La_rootIsRight_90 : decode b_La_rootIsRight 90 = .ok (.aload_n 2, 1) := by decide +kernel
theorem d_La_rootIsRight_91 : decode b_La_rootIsRight 91 = .ok (.bipush 16, 2) := by decide +kernel
theorem d_La_rootIsRight_93 : decode b_La_rootIsRight 93 = .ok (.iload 4, 2) := by decide +kernel
theorem d_La_rootIsRight_95 : decode b_La_rootIsRight 95 = .ok (.imul, 1) := by decide +kernel
theorem d_La_rootIsRight_96 : decode b_La_rootIsRight 96 = .ok (.invokevirtual 83, 3) := by decide +kernel
theorem d_La_rootIsRight_99 : decode b_La_rootIsRight 99 = .ok (.iinc 4 2, 3) := by decide +kernel
theorem d_La_rootIsRight_102 : decode b_La_rootIsRight 102 = .ok (.goto (-83), 3) := by decide +kernel
theorem d_La_rootIsRight_105 : decode b_La_rootIsRight 105 = .ok (.iload_n 3, 1) := by decide +kernel
theorem d_La_rootIsRight_106 : decode b_La_rootIsRight 106 = .ok (.iconst 1, 1) := by decide +kernel
theorem d_La_rootIsRight_107 : decode b_La_rootIsRight 107 = .ok (.iadd, 1) := by decide +kernel
theorem d_La_rootIsRight_108 : decode b_La_rootIsRight 108 = .ok (.iconst 2, 1) := by decide +kernel
theorem d_La_rootIsRight_109 : decode b_La_rootIsRight 109 = .ok (.idiv, 1) := by decide +kernel
theorem d_La_rootIsRight_110 : decode b_La_rootIsRight 110 = .ok (.istore_n 3, 1) := by decide +kernel
theorem d_La_rootIsRight_111 : decode b_La_rootIsRight 111 = .ok (.goto (-100), 3) := by decide +kernel
theorem d_La_rootIsRight_114 : decode b_La_rootIsRight 114 = .ok (.aload_n 2, 1) := by decide +kernel
theorem d_La_rootIsRight_115 : decode b_La_rootIsRight 115 = .ok (.iconst 0, 1) := by decide +kernel
theorem d_La_rootIsRight_116 : decode b_La_rootIsRight 116 = .ok (.aload_n 0, 1) := by decide +kernel
theorem d_La_rootIsRight_117 : decode b_La_rootIsRight 117 = .ok (.getfield 39, 3) := by decide +kernel
theorem d_La_rootIsRight_120 : decode b_La_rootIsRight 120 = .ok (.bipush 36, 2) := by decide +kernel
theorem d_La_rootIsRight_122 : decode b_La_rootIsRight 122 = .ok (.bipush 32, 2) := by decide +kernel
theorem d_La_rootIsRight_124 : decode b_La_rootIsRight 124 = .ok (.invokestatic 99, 3) := by decide +kernel
theorem d_La_rootIsRight_127 : decode b_La_rootIsRight 127 = .ok (.ireturn, 1) := by decide +kernel
abbrev rmw_mLa_rootIsRight (MC MS : Nat) : Room := { frames := 5, cells := MC, slots := MS, locals := 130 }
def Iw_mLa_rootIsRight_81 (p : Program) (l : Launch) (e : Env) (s : State) (m : MethodId) (args : Array Value) (below : List Frame) (meth : Method) (c : Code) (D : va_G) (cy : Nat → ClassId) (A : Nat → Prop) (ad : Nat → Nat) (mi MC MS : Nat) (Φ : Int32 → Mm → Prop) (k : Nat → Nat → Mm → Nat → Nat → Nat → Int32 → Int32 → Prop) : Prop :=
  ∀ (κ σ : Nat) (M : Mm) (x0 : Nat) (x1 : Nat) (x2 : Nat) (x3 : Int32) (x4 : Int32), k κ σ M x0 x1 x2 x3 x4 → κ ≤ MC → σ ≤ MS → ∀ (H : Heap) (locs : List Loc) (ls : Array Slot), va_P D classes (mw M) H → va_D A (mw M) → va_S A s.heap H locs → lv_has ls 5 [(0, .ref x0), (1, .ref x1), (2, .ref x2), (3, .int x3), (4, .int x4)] → W p l e (rmw_mLa_rootIsRight MC MS) s m args below meth c H locs κ σ (MQ below (va_Qi Φ (fun u t => Po D cy A (mw u) t) A) args s MC MS A) (F0 m 81 ls [])
def Iw_mLa_rootIsRight_19 (p : Program) (l : Launch) (e : Env) (s : State) (m : MethodId) (args : Array Value) (below : List Frame) (meth : Method) (c : Code) (D : va_G) (cy : Nat → ClassId) (A : Nat → Prop) (ad : Nat → Nat) (mi MC MS : Nat) (Φ : Int32 → Mm → Prop) (k : Nat → Nat → Mm → Nat → Nat → Nat → Int32 → Int32 → Prop) : Prop :=
  ∀ (κ σ : Nat) (M : Mm) (x0 : Nat) (x1 : Nat) (x2 : Nat) (x3 : Int32) (x4 : Int32), k κ σ M x0 x1 x2 x3 x4 → κ ≤ MC → σ ≤ MS → ∀ (H : Heap) (locs : List Loc) (ls : Array Slot), va_P D classes (mw M) H → va_D A (mw M) → va_S A s.heap H locs → lv_has ls 5 [(0, .ref x0), (1, .ref x1), (2, .ref x2), (3, .int x3), (4, .int x4)] → W p l e (rmw_mLa_rootIsRight MC MS) s m args below meth c H locs κ σ (MQ below (va_Qi Φ (fun u t => Po D cy A (mw u) t) A) args s MC MS A) (F0 m 19 ls [])
def Iw_mLa_rootIsRight_11 (p : Program) (l : Launch) (e : Env) (s : State) (m : MethodId) (args : Array Value) (below : List Frame) (meth : Method) (c : Code) (D : va_G) (cy : Nat → ClassId) (A : Nat → Prop) (ad : Nat → Nat) (mi MC MS : Nat) (Φ : Int32 → Mm → Prop) (k : Nat → Nat → Mm → Nat → Nat → Nat → Int32 → Prop) : Prop :=
  ∀ (κ σ : Nat) (M : Mm) (x0 : Nat) (x1 : Nat) (x2 : Nat) (x3 : Int32), k κ σ M x0 x1 x2 x3 → κ ≤ MC → σ ≤ MS → ∀ (H : Heap) (locs : List Loc) (ls : Array Slot), va_P D classes (mw M) H → va_D A (mw M) → va_S A s.heap H locs → lv_has ls 5 [(0, .ref x0), (1, .ref x1), (2, .ref x2), (3, .int x3)] → W p l e (rmw_mLa_rootIsRight MC MS) s m args below meth c H locs κ σ (MQ below (va_Qi Φ (fun u t => Po D cy A (mw u) t) A) args s MC MS A) (F0 m 11 ls [])
def Iw_mLa_rootIsRight_e (p : Program) (l : Launch) (e : Env) (s : State) (m : MethodId) (args : Array Value) (below : List Frame) (meth : Method) (c : Code) (D : va_G) (cy : Nat → ClassId) (A : Nat → Prop) (ad : Nat → Nat) (mi MC MS : Nat) (Φ : Int32 → Mm → Prop) (k : Nat → Nat → Mm → Nat → Nat → Prop) : Prop :=
  ∀ (κ σ : Nat) (M : Mm) (a0 : Nat) (a1 : Nat), k κ σ M a0 a1 → κ ≤ MC → σ ≤ MS → ∀ (H : Heap) (locs : List Loc) (ls : Array Slot), va_P D classes (mw M) H → va_D A (mw M) → va_S A s.heap H locs → lv_has ls 5 [(0, .ref a0), (1, .ref a1)] → W p l e (rmw_mLa_rootIsRight MC MS) s m args below meth c H locs κ σ (MQ below (va_Qi Φ (fun u t => Po D cy A (mw u) t) A) args s MC MS A) (F0 m 0 ls [])
set_option maxHeartbeats 8000000 in
set_option maxRecDepth 100000 in
theorem wv_mLa_rootIsRight_81 {p : Program} {l : Launch} {e : Env} {s : State} {m : MethodId} {args : Array Value} {below : List Frame} {meth : Method} {c : Code} {D : va_G} {cy : Nat → ClassId} {A : Nat → Prop} {ad : Nat → Nat} {mi MC MS : Nat} {Φ : Int32 → Mm → Prop} {fu : Nat} {k_11 : Nat → Nat → Mm → Nat → Nat → Nat → Int32 → Prop} {k_19 : Nat → Nat → Mm → Nat → Nat → Nat → Int32 → Int32 → Prop} (F : FxM p s m args meth c b_La_rootIsRight 5 "CoinKeeper$Layout" "rootIsRight" (some .boolean) D cy ad mi A) (hk_11 : Iw_mLa_rootIsRight_11 p l e s m args below meth c D cy A ad mi MC MS Φ k_11) (hk_19 : Iw_mLa_rootIsRight_19 p l e s m args below meth c D cy A ad mi MC MS Φ k_19) : Iw_mLa_rootIsRight_81 p l e s m args below meth c D cy A ad mi MC MS Φ (xv_mLa_rootIsRight_81 fu MC MS cy ad mi Φ k_11 k_19) := by
  obtain ⟨⟨hx, hb, hr, hml, hown, hts, hlocks, hK, hA, hSt, hnm, hex⟩, hT, hMi⟩ := id F
  intro κ σ M x0 x1 x2 x3 x4 hf hkc hks H locs ls hP hD hS hl
  unfold xv_mLa_rootIsRight_81 at hf
  refine lv_aload_n hx hb d_La_rootIsRight_81 rfl (lv_at hl 1 rfl) ?_
  refine lv_aload_n hx hb d_La_rootIsRight_82 rfl (lv_at hl 2 rfl) ?_
  refine lv_bipush (v := 32) hx hb d_La_rootIsRight_83 (by decide) ?_
  refine lv_iload hx hb d_La_rootIsRight_85 (lv_at hl 4 rfl) ?_
  refine lv_imul hx hb d_La_rootIsRight_87 ?_
  refine lv_topi (fun v1 ev => ?_)
  have hf := bnQ ev hf
  clear ev
  refine lv_bipush (v := 64) hx hb d_La_rootIsRight_88 (by decide) ?_
  refine lv_aload_n hx hb d_La_rootIsRight_90 rfl (lv_at hl 2 rfl) ?_
  refine lv_bipush (v := 16) hx hb d_La_rootIsRight_91 (by decide) ?_
  refine lv_iload hx hb d_La_rootIsRight_93 (lv_at hl 4 rfl) ?_
  refine lv_imul hx hb d_La_rootIsRight_95 ?_
  refine lv_topi (fun v2 ev => ?_)
  have hf := bnQ ev hf
  clear ev
  obtain ⟨b3, b4, b5, c6, c7, c8, c9, c10, c11, c12, hal_, hnd_, c13, c14, c15, c16, c17, c18, hc, hf⟩ := hf
  refine m_lv (va_runV (C := "CoinKeeper$Sha256") (As := [.ref x2, .int v1, .int (64 : Int32), .ref x2, .int v2]) (rest := []) ⟨hx, hb, hml, hown, hts⟩ (c_Sh_twice_e41 l D cy ad fu x1 b3 b4 b5 x2 c6 v1 (64 : Int32) v2 c7 c8 c9 c10 c11 c12 _ hc H.size) ⟨q_cB hts gw_707 gw_2 gw_787 hdq_23 ⟨Nat.le_of_ble_eq_true rfl, Nat.le_of_ble_eq_true rfl⟩, hts _ gw_705, hts _ gw_706⟩ (q_preV (q_pre (m_subP hP hal_) (m_subD hD hal_ hnd_) hK hSt hS (m_lF hD hS hA hal_) _) (va_recv hK (m_subP hP hal_) (ci := 9) (q0 := 0) rfl rfl)) rfl rfl hl.1 rfl (lv_room (Nat.le_of_ble_eq_true rfl)) d_La_rootIsRight_96 ⟨hkc, hks⟩) hP hD hS hA hal_ rfl (fun H locs hP hD hS => ?_)
  refine W.widen (k := κ) (n := σ) (Nat.le_refl _) (Nat.le_refl _) ?_
  obtain ⟨M19, eM_, hf⟩ := bnP hf
  have hP : va_P D classes (mw M19) H := by rw [eM_]; exact hP
  have hD : va_D A (mw M19) := by rw [eM_]; exact hD
  clear eM_ hal_ hnd_ hc
  obtain ⟨v20, ev, hf⟩ := bnP hf
  refine lv_iinc (v := v20) (lv' := [(4, .int v20), (0, .ref x0), (1, .ref x1), (2, .ref x2), (3, .int x3)]) hx hb d_La_rootIsRight_99 hl (k := 4) rfl (by rw [ev]; rfl) (by decide) rfl (fun ls hl => ?_)
  clear ev
  refine lv_goto (tgt := 19) hx hb d_La_rootIsRight_102 (by decide) ?_
  exact hk_19 _ _ _ _ _ _ _ _ hf hkc hks _ _ _ hP hD hS (lv_sub hl [1, 2, 3, 4, 0] rfl)
set_option maxHeartbeats 8000000 in
set_option maxRecDepth 100000 in
theorem wv_mLa_rootIsRight_19 {p : Program} {l : Launch} {e : Env} {s : State} {m : MethodId} {args : Array Value} {below : List Frame} {meth : Method} {c : Code} {D : va_G} {cy : Nat → ClassId} {A : Nat → Prop} {ad : Nat → Nat} {mi MC MS : Nat} {Φ : Int32 → Mm → Prop} {fu : Nat} {k_11 : Nat → Nat → Mm → Nat → Nat → Nat → Int32 → Prop} {k_19 : Nat → Nat → Mm → Nat → Nat → Nat → Int32 → Int32 → Prop} (F : FxM p s m args meth c b_La_rootIsRight 5 "CoinKeeper$Layout" "rootIsRight" (some .boolean) D cy ad mi A) (hk_11 : Iw_mLa_rootIsRight_11 p l e s m args below meth c D cy A ad mi MC MS Φ k_11) (hk_19 : Iw_mLa_rootIsRight_19 p l e s m args below meth c D cy A ad mi MC MS Φ k_19) : Iw_mLa_rootIsRight_19 p l e s m args below meth c D cy A ad mi MC MS Φ (xv_mLa_rootIsRight_19 fu MC MS cy ad mi Φ k_11 k_19) := by
  obtain ⟨⟨hx, hb, hr, hml, hown, hts, hlocks, hK, hA, hSt, hnm, hex⟩, hT, hMi⟩ := id F
  intro κ σ M x0 x1 x2 x3 x4 hf hkc hks H locs ls hP hD hS hl
  unfold xv_mLa_rootIsRight_19 at hf
  refine lv_iload hx hb d_La_rootIsRight_19 (lv_at hl 4 rfl) ?_
  refine lv_iload_n hx hb d_La_rootIsRight_21 rfl (lv_at hl 3 rfl) ?_
  refine lv_icmp_ge (tgt := 105) hx hb d_La_rootIsRight_22 (by decide) (fun cx => ?_) (fun cx => ?_)
  · have hf := ifpP cx hf
    refine lv_iload_n hx hb d_La_rootIsRight_105 rfl (lv_at hl 3 rfl) ?_
    refine lv_iconst (v := 1) hx hb d_La_rootIsRight_106 (by decide) ?_
    refine lv_iadd hx hb d_La_rootIsRight_107 ?_
    refine lv_topi (fun v1 ev => ?_)
    have hf := bnQ ev hf
    clear ev
    refine lv_iconst (v := 2) hx hb d_La_rootIsRight_108 (by decide) ?_
    refine lv_idiv hx hb d_La_rootIsRight_109 (by decide) ?_
    refine lv_topi (fun v2 ev => ?_)
    have hf := bnQ ev hf
    clear ev
    refine lv_istore_n (lv' := [(3, .int v2), (0, .ref x0), (1, .ref x1), (2, .ref x2), (4, .int x4)]) hx hb d_La_rootIsRight_110 rfl hl (by decide) rfl (fun ls hl => ?_)
    refine lv_goto (tgt := 11) hx hb d_La_rootIsRight_111 (by decide) ?_
    exact hk_11 _ _ _ _ _ _ _ hf hkc hks _ _ _ hP hD hS (lv_sub hl [1, 2, 3, 0] rfl)
  · have hf := ifnP cx hf
    refine lv_iload hx hb d_La_rootIsRight_25 (lv_at hl 4 rfl) ?_
    refine lv_iconst (v := 1) hx hb d_La_rootIsRight_27 (by decide) ?_
    refine lv_iadd hx hb d_La_rootIsRight_28 ?_
    refine lv_topi (fun v3 ev => ?_)
    have hf := bnQ ev hf
    clear ev
    refine lv_iload_n hx hb d_La_rootIsRight_29 rfl (lv_at hl 3 rfl) ?_
    refine lv_icmp_ne (tgt := 56) hx hb d_La_rootIsRight_30 (by decide) (fun cx => ?_) (fun cx => ?_)
    · have hf := ifnP cx hf
      refine lv_aload_n hx hb d_La_rootIsRight_56 rfl (lv_at hl 2 rfl) ?_
      refine lv_bipush (v := 32) hx hb d_La_rootIsRight_57 (by decide) ?_
      refine lv_iload hx hb d_La_rootIsRight_59 (lv_at hl 4 rfl) ?_
      refine lv_imul hx hb d_La_rootIsRight_61 ?_
      refine lv_topi (fun v4 ev => ?_)
      have hf := bnQ ev hf
      clear ev
      refine lv_aload_n hx hb d_La_rootIsRight_62 rfl (lv_at hl 2 rfl) ?_
      refine lv_bipush (v := 32) hx hb d_La_rootIsRight_63 (by decide) ?_
      refine lv_iload hx hb d_La_rootIsRight_65 (lv_at hl 4 rfl) ?_
      refine lv_imul hx hb d_La_rootIsRight_67 ?_
      refine lv_topi (fun v5 ev => ?_)
      have hf := bnQ ev hf
      clear ev
      refine lv_bipush (v := 32) hx hb d_La_rootIsRight_68 (by decide) ?_
      refine lv_iadd hx hb d_La_rootIsRight_70 ?_
      refine lv_topi (fun v6 ev => ?_)
      have hf := bnQ ev hf
      clear ev
      refine lv_bipush (v := 32) hx hb d_La_rootIsRight_71 (by decide) ?_
      obtain ⟨c7, c8, hal_, hnd_, v9, hc, hf⟩ := hf
      refine m_li (va_runSN (As := [.ref x2, .int v4, .ref x2, .int v6, .int (32 : Int32)]) (rest := []) ⟨hx, hb, hml, hown, hts⟩ (c_K_same_e20 l D cy ad fu x2 c7 c8 v4 v6 (32 : Int32) _ hc H.size) ⟨q_cN hts hSt.2.1 gw_746 gw_1 (List.mem_of_getElem? (i := 15) rfl) hdq_15 ⟨Nat.le_of_ble_eq_true rfl, Nat.le_of_ble_eq_true rfl⟩, hts _ gw_745, trivial⟩ (q_pre (m_subP hP hal_) (m_subD hD hal_ hnd_) hK hSt hS (m_lF hD hS hA hal_) _) rfl rfl hl.1 rfl (lv_room (Nat.le_of_ble_eq_true rfl)) d_La_rootIsRight_73 ⟨hkc, hks⟩) hP hD hS hA hal_ rfl (fun H locs hP hD hS => ?_)
      refine W.widen (k := κ) (n := σ) (Nat.le_refl _) (Nat.le_refl _) ?_
      obtain ⟨M10, eM_, hf⟩ := bnP hf
      have hP : va_P D classes (mw M10) H := by rw [eM_]; exact hP
      have hD : va_D A (mw M10) := by rw [eM_]; exact hD
      clear eM_ hal_ hnd_ hc
      refine lv_if_eq (tgt := 81) hx hb d_La_rootIsRight_76 (by decide) (fun cx => ?_) (fun cx => ?_)
      · have hf := ifpP cx hf
        exact wv_mLa_rootIsRight_81 (fu := fu) F hk_11 hk_19 _ _ _ _ _ _ _ _ hf hkc hks _ _ _ hP hD hS (lv_sub hl [0, 1, 2, 3, 4] rfl)
      · have hf := ifnP cx hf
        refine lv_iconst (v := 0) hx hb d_La_rootIsRight_79 (by decide) ?_
        refine W.widen (k := MC) (n := MS) hkc hks ?_
        exact m_rz hf hx hb hr hlocks hK hP hD hS (isb_n (v := 0) (by decide)) d_La_rootIsRight_80
    · have hf := ifpP cx hf
      refine lv_aload_n hx hb d_La_rootIsRight_33 rfl (lv_at hl 2 rfl) ?_
      refine lv_bipush (v := 32) hx hb d_La_rootIsRight_34 (by decide) ?_
      refine lv_iload hx hb d_La_rootIsRight_36 (lv_at hl 4 rfl) ?_
      refine lv_imul hx hb d_La_rootIsRight_38 ?_
      refine lv_topi (fun v11 ev => ?_)
      have hf := bnQ ev hf
      clear ev
      refine lv_aload_n hx hb d_La_rootIsRight_39 rfl (lv_at hl 2 rfl) ?_
      refine lv_bipush (v := 32) hx hb d_La_rootIsRight_40 (by decide) ?_
      refine lv_iload hx hb d_La_rootIsRight_42 (lv_at hl 4 rfl) ?_
      refine lv_imul hx hb d_La_rootIsRight_44 ?_
      refine lv_topi (fun v12 ev => ?_)
      have hf := bnQ ev hf
      clear ev
      refine lv_bipush (v := 32) hx hb d_La_rootIsRight_45 (by decide) ?_
      refine lv_iadd hx hb d_La_rootIsRight_47 ?_
      refine lv_topi (fun v13 ev => ?_)
      have hf := bnQ ev hf
      clear ev
      refine lv_bipush (v := 32) hx hb d_La_rootIsRight_48 (by decide) ?_
      obtain ⟨n0_, f0_, n1_, f1_, hs_, hm_, hcp_, hfi_, hf⟩ := hf
      obtain ⟨jx_, hj_⟩ := m_ix hs_
      obtain ⟨ix_, hi_⟩ := m_ix hm_
      have hE_ := m_set (y := .inl (cy 0, n1_, .inl (va_cpy f0_ f1_ v11.toNatClampNeg v13.toNatClampNeg (32 : Int32).toNatClampNeg))) hD hi_
      refine va_copyi (R := rmw_mLa_rootIsRight MC MS) (rest := []) hx hb (hml.trans hl.1.symm) hown (hts _ gw_788) (hts _ gw_497) (hts _ gw_496) (hts _ gw_17) hK hP hD hS jx_ ix_ 0 0 hj_ hi_ rfl rfl rfl (cpk_p hcp_).1 (cpk_p hcp_).2.1 (cpk_p hcp_).2.2.1 (cpk_p hcp_).2.2.2.1 (cpk_p hcp_).2.2.2.2 (bfit_p hfi_) (Nat.le_of_ble_eq_true rfl) (Nat.le_of_ble_eq_true rfl) d_La_rootIsRight_50 (fun H locs hP hD hS => ?_)
      obtain ⟨M14, eM_⟩ : ∃ z, z = mu M x2 (.inl (cy 0, n1_, .inl (va_cpy f0_ f1_ v11.toNatClampNeg v13.toNatClampNeg (32 : Int32).toNatClampNeg))) := ⟨_, rfl⟩
      rw [← eM_] at hf hE_
      rw [hE_] at hP hD
      clear hE_ eM_ hi_ hm_
      clear hj_ hs_ hcp_ hfi_
      refine lv_goto (tgt := 81) hx hb d_La_rootIsRight_53 (by decide) ?_
      exact wv_mLa_rootIsRight_81 (fu := fu) F hk_11 hk_19 _ _ _ _ _ _ _ _ hf hkc hks _ _ _ hP hD hS (lv_sub hl [0, 1, 2, 3, 4] rfl)
theorem ww_mLa_rootIsRight_19 {p : Program} {l : Launch} {e : Env} {s : State} {m : MethodId} {args : Array Value} {below : List Frame} {meth : Method} {c : Code} {D : va_G} {cy : Nat → ClassId} {A : Nat → Prop} {ad : Nat → Nat} {mi MC MS : Nat} {Φ : Int32 → Mm → Prop} {fu : Nat} {k_11 : Nat → Nat → Mm → Nat → Nat → Nat → Int32 → Prop} (F : FxM p s m args meth c b_La_rootIsRight 5 "CoinKeeper$Layout" "rootIsRight" (some .boolean) D cy ad mi A) (hk_11 : Iw_mLa_rootIsRight_11 p l e s m args below meth c D cy A ad mi MC MS Φ k_11) : ∀ n : Nat, Iw_mLa_rootIsRight_19 p l e s m args below meth c D cy A ad mi MC MS Φ (xw_mLa_rootIsRight_19 fu MC MS cy ad mi Φ k_11 n)
  | 0 => fun _ _ _ _ _ _ _ _ hf => False.elim hf
  | n + 1 => wv_mLa_rootIsRight_19 F hk_11 (ww_mLa_rootIsRight_19 F hk_11 n)
set_option maxHeartbeats 8000000 in
set_option maxRecDepth 100000 in
theorem wv_mLa_rootIsRight_11 {p : Program} {l : Launch} {e : Env} {s : State} {m : MethodId} {args : Array Value} {below : List Frame} {meth : Method} {c : Code} {D : va_G} {cy : Nat → ClassId} {A : Nat → Prop} {ad : Nat → Nat} {mi MC MS : Nat} {Φ : Int32 → Mm → Prop} {fu : Nat} {k_11 : Nat → Nat → Mm → Nat → Nat → Nat → Int32 → Prop} (F : FxM p s m args meth c b_La_rootIsRight 5 "CoinKeeper$Layout" "rootIsRight" (some .boolean) D cy ad mi A) (hk_11 : Iw_mLa_rootIsRight_11 p l e s m args below meth c D cy A ad mi MC MS Φ k_11) : Iw_mLa_rootIsRight_11 p l e s m args below meth c D cy A ad mi MC MS Φ (xv_mLa_rootIsRight_11 fu MC MS cy ad mi Φ k_11) := by
  obtain ⟨⟨hx, hb, hr, hml, hown, hts, hlocks, hK, hA, hSt, hnm, hex⟩, hT, hMi⟩ := id F
  intro κ σ M x0 x1 x2 x3 hf hkc hks H locs ls hP hD hS hl
  unfold xv_mLa_rootIsRight_11 at hf
  refine lv_iload_n hx hb d_La_rootIsRight_11 rfl (lv_at hl 3 rfl) ?_
  refine lv_iconst (v := 1) hx hb d_La_rootIsRight_12 (by decide) ?_
  refine lv_icmp_le (tgt := 114) hx hb d_La_rootIsRight_13 (by decide) (fun cx => ?_) (fun cx => ?_)
  · have hf := ifpP cx hf
    refine lv_aload_n hx hb d_La_rootIsRight_114 rfl (lv_at hl 2 rfl) ?_
    refine lv_iconst (v := 0) hx hb d_La_rootIsRight_115 (by decide) ?_
    refine lv_aload_n hx hb d_La_rootIsRight_116 rfl (lv_at hl 0 rfl) ?_
    obtain ⟨fs_, hm_, r1, hv_, hf⟩ := hf
    obtain ⟨ix_, hi_⟩ := m_ix hm_
    refine va_get (D := D) (ci := 4) (v := va_rf r1) (C := "CoinKeeper$Layout") (T := F_4) (N := 15) hx hb hts i_4 hown hK hP ix_ hi_ rfl 0 (by decide) (hts _ gw_269) (fun _ h9 => h9) hv_ d_La_rootIsRight_117 ?_
    clear hv_ hi_ hm_
    have hq_ := ospp hf
    clear hf
    rcases hq_ with ⟨rfl, hf⟩ | ⟨q2, rfl, hf⟩
    · refine W.eq (g2 := F0 m 120 ls [.null, .int (0 : Int32), .ref x2]) rfl ?_
      refine lv_bipush (v := 36) hx hb d_La_rootIsRight_120 (by decide) ?_
      refine lv_bipush (v := 32) hx hb d_La_rootIsRight_122 (by decide) ?_
      exact hf.elim
    · refine W.eq (g2 := F0 m 120 ls [.ref q2, .int (0 : Int32), .ref x2]) rfl ?_
      refine lv_bipush (v := 36) hx hb d_La_rootIsRight_120 (by decide) ?_
      refine lv_bipush (v := 32) hx hb d_La_rootIsRight_122 (by decide) ?_
      by_cases cx : x2 = q2
      · have hg_ := ifpP cx hf
        clear hf
        subst cx
        have hf := hg_
        clear hg_
        obtain ⟨c3, c4, hal_, hnd_, v5, hc, hf⟩ := hf
        refine m_li (va_runSN (As := [.ref x2, .int (0 : Int32), .ref x2, .int (36 : Int32), .int (32 : Int32)]) (rest := []) ⟨hx, hb, hml, hown, hts⟩ (c_K_same_e20 l D cy ad fu x2 c3 c4 (0 : Int32) (36 : Int32) (32 : Int32) _ hc H.size) ⟨q_cN hts hSt.2.1 gw_746 gw_1 (List.mem_of_getElem? (i := 15) rfl) hdq_15 ⟨Nat.le_of_ble_eq_true rfl, Nat.le_of_ble_eq_true rfl⟩, hts _ gw_745, trivial⟩ (q_pre (m_subP hP hal_) (m_subD hD hal_ hnd_) hK hSt hS (m_lF hD hS hA hal_) _) rfl rfl hl.1 rfl (lv_room (Nat.le_of_ble_eq_true rfl)) d_La_rootIsRight_124 ⟨hkc, hks⟩) hP hD hS hA hal_ rfl (fun H locs hP hD hS => ?_)
        refine W.widen (k := κ) (n := σ) (Nat.le_refl _) (Nat.le_refl _) ?_
        obtain ⟨M6, eM_, hf⟩ := bnP hf
        have hP : va_P D classes (mw M6) H := by rw [eM_]; exact hP
        have hD : va_D A (mw M6) := by rw [eM_]; exact hD
        clear eM_ hal_ hnd_ hc
        obtain ⟨hg, hf⟩ := hf
        refine W.widen (k := MC) (n := MS) hkc hks ?_
        exact m_rz hf hx hb hr hlocks hK hP hD hS (isb_n hg) d_La_rootIsRight_127
      · have hf := ifnP cx hf
        obtain ⟨c7, c8, c9, c10, hal_, hnd_, v11, hc, hf⟩ := hf
        refine m_li (va_runSN (As := [.ref x2, .int (0 : Int32), .ref q2, .int (36 : Int32), .int (32 : Int32)]) (rest := []) ⟨hx, hb, hml, hown, hts⟩ (c_K_same l D cy ad fu x2 q2 c7 c8 c9 c10 (0 : Int32) (36 : Int32) (32 : Int32) _ hc H.size) ⟨q_cN hts hSt.2.1 gw_746 gw_1 (List.mem_of_getElem? (i := 15) rfl) hdq_15 ⟨Nat.le_of_ble_eq_true rfl, Nat.le_of_ble_eq_true rfl⟩, hts _ gw_745, trivial⟩ (q_pre (m_subP hP hal_) (m_subD hD hal_ hnd_) hK hSt hS (m_lF hD hS hA hal_) _) rfl rfl hl.1 rfl (lv_room (Nat.le_of_ble_eq_true rfl)) d_La_rootIsRight_124 ⟨hkc, hks⟩) hP hD hS hA hal_ rfl (fun H locs hP hD hS => ?_)
        refine W.widen (k := κ) (n := σ) (Nat.le_refl _) (Nat.le_refl _) ?_
        obtain ⟨M12, eM_, hf⟩ := bnP hf
        have hP : va_P D classes (mw M12) H := by rw [eM_]; exact hP
        have hD : va_D A (mw M12) := by rw [eM_]; exact hD
        clear eM_ hal_ hnd_ hc
        obtain ⟨hg, hf⟩ := hf
        refine W.widen (k := MC) (n := MS) hkc hks ?_
        exact m_rz hf hx hb hr hlocks hK hP hD hS (isb_n hg) d_La_rootIsRight_127
  · have hf := ifnP cx hf
    refine lv_iconst (v := 0) hx hb d_La_rootIsRight_16 (by decide) ?_
    refine lv_istore (lv' := [(4, .int (0 : Int32)), (0, .ref x0), (1, .ref x1), (2, .ref x2), (3, .int x3)]) hx hb d_La_rootIsRight_17 hl (by decide) rfl (fun ls hl => ?_)
    exact ww_mLa_rootIsRight_19 F hk_11 fu _ _ _ _ _ _ _ _ hf hkc hks _ _ _ hP hD hS (lv_sub hl [1, 2, 3, 4, 0] rfl)
theorem ww_mLa_rootIsRight_11 {p : Program} {l : Launch} {e : Env} {s : State} {m : MethodId} {args : Array Value} {below : List Frame} {meth : Method} {c : Code} {D : va_G} {cy : Nat → ClassId} {A : Nat → Prop} {ad : Nat → Nat} {mi MC MS : Nat} {Φ : Int32 → Mm → Prop} {fu : Nat} (F : FxM p s m args meth c b_La_rootIsRight 5 "CoinKeeper$Layout" "rootIsRight" (some .boolean) D cy ad mi A) : ∀ n : Nat, Iw_mLa_rootIsRight_11 p l e s m args below meth c D cy A ad mi MC MS Φ (xw_mLa_rootIsRight_11 fu MC MS cy ad mi Φ n)
  | 0 => fun _ _ _ _ _ _ _ hf => False.elim hf
  | n + 1 => wv_mLa_rootIsRight_11 F (ww_mLa_rootIsRight_11 F n)
theorem hdq_24 : ({ cls := "CoinKeeper$Layout", name := "ids", desc := "(LCoinKeeper$Sha256;)[B" } : Jvm.MethodName).cls ≠ "java/lang/invoke/MethodHandle" ∧ ({ cls := "CoinKeeper$Layout", name := "ids", desc := "(LCoinKeeper$Sha256;)[B" } : Jvm.MethodName).cls ≠ "java/lang/invoke/VarHandle" ∧ (parseMethodDescriptor ({ cls := "CoinKeeper$Layout", name := "ids", desc := "(LCoinKeeper$Sha256;)[B" } : Jvm.MethodName).desc).map (fun d => d.parameters.length) = some 1 := by decide +kernel
set_option maxHeartbeats 8000000 in
set_option maxRecDepth 100000 in
theorem wew_mLa_rootIsRight {p : Program} {l : Launch} {e : Env} {s : State} {m : MethodId} {args : Array Value} {below : List Frame} {meth : Method} {c : Code} {D : va_G} {cy : Nat → ClassId} {A : Nat → Prop} {ad : Nat → Nat} {mi MC MS : Nat} {Φ : Int32 → Mm → Prop} {fu : Nat} (F : FxM p s m args meth c b_La_rootIsRight 5 "CoinKeeper$Layout" "rootIsRight" (some .boolean) D cy ad mi A) : Iw_mLa_rootIsRight_e p l e s m args below meth c D cy A ad mi MC MS Φ (xw_mLa_rootIsRight fu MC MS cy ad mi Φ) := by
  obtain ⟨⟨hx, hb, hr, hml, hown, hts, hlocks, hK, hA, hSt, hnm, hex⟩, hT, hMi⟩ := id F
  intro κ σ M a0 a1 hf hkc hks H locs ls hP hD hS hl
  unfold xw_mLa_rootIsRight at hf
  refine lv_aload_n hx hb d_La_rootIsRight_0 rfl (lv_at hl 0 rfl) ?_
  refine lv_aload_n hx hb d_La_rootIsRight_1 rfl (lv_at hl 1 rfl) ?_
  obtain ⟨fs_, hm_, hf⟩ := hf
  obtain ⟨ix_, hi_⟩ := m_ix hm_
  obtain ⟨mc1, ms2, ⟨hc_, hd_⟩, hf⟩ := hf
  refine m_aq (va_runV (C := "CoinKeeper$Layout") (As := [.ref a1]) (rest := []) ⟨hx, hb, hml, hown, hts⟩ (cw_mLa_ids l D cy ad mi fu mc1 ms2 a0 a1 M _ hf H.size) ⟨q_cB hts gw_786 gw_8 gw_783 hdq_24 ⟨Nat.le_of_ble_eq_true rfl, Nat.le_of_ble_eq_true rfl⟩, hts _ gw_784, hts _ gw_785⟩ (q_preVM (q_preM hP hD hK hSt hT hMi hS (m_free hD hS hA) _) (va_recv hK hP (ci := 4) (q0 := ix_) rfl hi_)) rfl rfl hl.1 rfl (lv_room (Nat.le_of_ble_eq_true rfl)) d_La_rootIsRight_2 ⟨hc_, hd_⟩) hD hS hA (fun v4 M3 H locs hf hP hD hS => ?_)
  have hkc : κ + mc1 ≤ MC := hc_
  have hks : σ + ms2 ≤ MS := hd_
  clear hc_ hd_
  obtain ⟨q5, rfl, hf⟩ := hf
  refine W.eq (g2 := F0 m 5 ls [.ref q5]) rfl ?_
  refine lv_astore_n (lv' := [(2, .ref q5), (0, .ref a0), (1, .ref a1)]) hx hb d_La_rootIsRight_5 rfl hl (by decide) rfl (fun ls hl => ?_)
  refine lv_aload_n hx hb d_La_rootIsRight_6 rfl (lv_at hl 1 rfl) ?_
  obtain ⟨fs_, hm_, v6, hv_, hf⟩ := hf
  obtain ⟨ix_, hi_⟩ := m_ix hm_
  refine va_get (D := D) (ci := 4) (v := .int v6) (C := "CoinKeeper$Layout") (T := F_4) (N := 15) hx hb hts i_4 hown hK hP ix_ hi_ rfl 1 (by decide) (hts _ gw_272) (fun _ h9 => h9) hv_ d_La_rootIsRight_7 ?_
  clear hv_ hi_ hm_
  refine lv_istore_n (lv' := [(3, .int v6), (2, .ref q5), (0, .ref a0), (1, .ref a1)]) hx hb d_La_rootIsRight_10 rfl hl (by decide) rfl (fun ls hl => ?_)
  exact ww_mLa_rootIsRight_11 F fu _ _ _ _ _ _ _ hf hkc hks _ _ _ hP hD hS (lv_sub hl [2, 3, 1, 0] rfl)
theorem cw_mLa_rootIsRight (l : Launch) (D : va_G) (cy : Nat → ClassId) (ad : Nat → Nat) (mi fu MC MS : Nat) (a0 : Nat) (a1 : Nat) (M : Mm) (Φ : Int32 → Mm → Prop) (hf : xw_mLa_rootIsRight fu MC MS cy ad mi Φ 0 0 M a0 a1) (sz : Nat) : Met l ({ cls := "CoinKeeper$Layout", name := "rootIsRight", desc := "(LCoinKeeper$Sha256;)Z" } : Jvm.MethodName) (.code ({ cls := "CoinKeeper$Layout", name := "rootIsRight", desc := "(LCoinKeeper$Sha256;)Z" } : Jvm.MethodName) b_La_rootIsRight 5 (some .boolean) :: gw) (rmw_mLa_rootIsRight MC MS) (va_Pc [.ref a0, .ref a1] (PrM D cy ad mi (mw M) sz)) (va_Qi Φ (fun u t => Po D cy (va_A (mw M) sz) (mw u) t) (va_A (mw M) sz)) MC MS (va_A (mw M) sz) :=
  q_metM (Qc := fun A => va_Qi Φ (fun u t => Po D cy A (mw u) t) A) (by decide) rfl rfl (Nat.le_of_ble_eq_true rfl) (fun p e s m below meth c ls F hP hD hS hl => wew_mLa_rootIsRight (fu := fu) F 0 0 M a0 a1 hf (Nat.zero_le _) (Nat.zero_le _) _ _ _ hP hD hS hl) sz
abbrev b_Co_init : ByteArray := prog_3_method_1_code
theorem d_Co_init_0 : decode b_Co_init 0 = .ok (.aload_n 0, 1) := by decide +kernel
theorem d_Co_init_1 : decode b_Co_init 1 = .ok (.invokespecial 1, 3) := by decide +kernel
theorem d_Co_init_4 : decode b_Co_init 4 = .ok (.aload_n 0, 1) := by decide +kernel
theorem d_Co_init_5 : decode b_Co_init 5 = .ok (.iconst (-1), 1) := by decide +kernel
theorem d_Co_init_6 : decode b_Co_init 6 = .ok (.putfield 7, 3) := by decide +kernel
theorem d_Co_init_9 : decode b_Co_init 9 = .ok (.aload_n 0, 1) := by decide +kernel
theorem d_Co_init_10 : decode b_Co_init 10 = .ok (.aload_n 1, 1) := by decide +kernel
theorem d_Co_init_11 : decode b_Co_init 11 = .ok (.putfield 13, 3) := by decide +kernel
theorem d_Co_init_14 : decode b_Co_init 14 = .ok (.aload_n 0, 1) := by decide +kernel
theorem d_Co_init_15 : decode b_Co_init 15 = .ok (.bipush 32, 2) := by decide +kernel
theorem d_Co_init_17 : decode b_Co_init 17 = .ok (.iload_n 2, 1) := by decide +kernel
theorem d_Co_init_18 : decode b_Co_init 18 = .ok (.imul, 1) := by decide +kernel
theorem d_Co_init_19 : decode b_Co_init 19 = .ok (.putfield 17, 3) := by decide +kernel
theorem d_Co_init_22 : decode b_Co_init 22 = .ok (.aload_n 0, 1) := by decide +kernel
theorem d_Co_init_23 : decode b_Co_init 23 = .ok (.aload_n 1, 1) := by decide +kernel
theorem d_Co_init_24 : decode b_Co_init 24 = .ok (.getfield 20, 3) := by decide +kernel
theorem d_Co_init_27 : decode b_Co_init 27 = .ok (.aload_n 0, 1) := by decide +kernel
theorem d_Co_init_28 : decode b_Co_init 28 = .ok (.getfield 17, 3) := by decide +kernel
theorem d_Co_init_31 : decode b_Co_init 31 = .ok (.invokestatic 26, 3) := by decide +kernel
theorem d_Co_init_34 : decode b_Co_init 34 = .ok (.putfield 32, 3) := by decide +kernel
theorem d_Co_init_37 : decode b_Co_init 37 = .ok (.aload_n 0, 1) := by decide +kernel
theorem d_Co_init_38 : decode b_Co_init 38 = .ok (.iload_n 3, 1) := by decide +kernel
theorem d_Co_init_39 : decode b_Co_init 39 = .ok (.aload 4, 2) := by decide +kernel
theorem d_Co_init_41 : decode b_Co_init 41 = .ok (.getfield 35, 3) := by decide +kernel
theorem d_Co_init_44 : decode b_Co_init 44 = .ok (.iload_n 2, 1) := by decide +kernel
theorem d_Co_init_45 : decode b_Co_init 45 = .ok (.iaload, 1) := by decide +kernel
theorem d_Co_init_46 : decode b_Co_init 46 = .ok (.isub, 1) := by decide +kernel
theorem d_Co_init_47 : decode b_Co_init 47 = .ok (.putfield 41, 3) := by decide +kernel
theorem d_Co_init_50 : decode b_Co_init 50 = .ok (.aload_n 0, 1) := by decide +kernel
theorem d_Co_init_51 : decode b_Co_init 51 = .ok (.aload 4, 2) := by decide +kernel
theorem d_Co_init_53 : decode b_Co_init 53 = .ok (.iload_n 3, 1) := by decide +kernel
theorem d_Co_init_54 : decode b_Co_init 54 = .ok (.invokevirtual 44, 3) := by decide +kernel
theorem d_Co_init_57 : decode b_Co_init 57 = .ok (.putfield 48, 3) := by decide +kernel
theorem d_Co_init_60 : decode b_Co_init 60 = .ok (.aload_n 0, 1) := by decide +kernel
theorem d_Co_init_61 : decode b_Co_init 61 = .ok (.iload_n 2, 1) := by decide +kernel
theorem d_Co_init_62 : decode b_Co_init 62 = .ok (.ifCond .ne 7, 3) := by decide +kernel
theorem d_Co_init_65 : decode b_Co_init 65 = .ok (.iconst 1, 1) := by decide +kernel
theorem d_Co_init_66 : decode b_Co_init 66 = .ok (.goto 4, 3) := by decide +kernel
theorem d_Co_init_69 : decode b_Co_init 69 = .ok (.iconst 0, 1) := by decide +kernel
theorem d_Co_init_70 : decode b_Co_init 70 = .ok (.putfield 51, 3) := by decide +kernel
theorem d_Co_init_73 : decode b_Co_init 73 = .ok (.aload_n 0, 1) := by decide +kernel
theorem d_Co_init_74 : decode b_Co_init 74 = .ok (.aload 4, 2) := by decide +kernel
theorem d_Co_init_76 : decode b_Co_init 76 = .ok (.getfield 55, 3) := by decide +kernel
theorem d_Co_init_79 : decode b_Co_init 79 = .ok (.iload_n 3, 1) := by decide +kernel
theorem d_Co_init_80 : decode b_Co_init 80 = .ok (.iaload, 1) := by decide +kernel
theorem d_Co_init_81 : decode b_Co_init 81 = .ok (.bipush 8, 2) := by decide +kernel
theorem d_Co_init_83 : decode b_Co_init 83 = .ok (.iadd, 1) := by decide +kernel
theorem d_Co_init_84 : decode b_Co_init 84 = .ok (.putfield 58, 3) := by decide +kernel
theorem d_Co_init_87 : decode b_Co_init 87 = .ok (.aload_n 0, 1) := by decide +kernel
theorem d_Co_init_88 : decode b_Co_init 88 = .ok (.aload 4, 2) := by decide +kernel
theorem d_Co_init_90 : decode b_Co_init 90 = .ok (.getfield 61, 3) := by decide +kernel
theorem d_Co_init_93 : decode b_Co_init 93 = .ok (.iload_n 3, 1) := by decide +kernel
theorem d_Co_init_94 : decode b_Co_init 94 = .ok (.iaload, 1) := by decide +kernel
theorem d_Co_init_95 : decode b_Co_init 95 = .ok (.putfield 64, 3) := by decide +kernel
theorem d_Co_init_98 : decode b_Co_init 98 = .ok (.aload_n 0, 1) := by decide +kernel
theorem d_Co_init_99 : decode b_Co_init 99 = .ok (.aload 4, 2) := by decide +kernel
theorem d_Co_init_101 : decode b_Co_init 101 = .ok (.getfield 67, 3) := by decide +kernel
theorem d_Co_init_104 : decode b_Co_init 104 = .ok (.iload_n 3, 1) := by decide +kernel
theorem d_Co_init_105 : decode b_Co_init 105 = .ok (.iaload, 1) := by decide +kernel
theorem d_Co_init_106 : decode b_Co_init 106 = .ok (.putfield 70, 3) := by decide +kernel
theorem d_Co_init_109 : decode b_Co_init 109 = .ok (.return_, 1) := by decide +kernel
abbrev rmw_mCo_init (MC MS : Nat) : Room := { frames := 2, cells := MC, slots := MS, locals := 42 }
def Iw_mCo_init_70 (p : Program) (l : Launch) (e : Env) (s : State) (m : MethodId) (args : Array Value) (below : List Frame) (meth : Method) (c : Code) (D : va_G) (cy : Nat → ClassId) (A : Nat → Prop) (ad : Nat → Nat) (mi MC MS : Nat) (Φ : Mm → Prop) (k : Nat → Nat → Mm → Nat → Int32 → Nat → Int32 → Nat → Prop) : Prop :=
  ∀ (κ σ : Nat) (M : Mm) (x0 : Nat) (x3 : Int32) (x4 : Nat) (y0 : Int32) (y1 : Nat), k κ σ M x0 x3 x4 y0 y1 → κ ≤ MC → σ ≤ MS → ∀ (H : Heap) (locs : List Loc) (ls : Array Slot), va_P D classes (mw M) H → va_D A (mw M) → va_S A s.heap H locs → lv_has ls 5 [(0, .ref x0), (3, .int x3), (4, .ref x4)] → W p l e (rmw_mCo_init MC MS) s m args below meth c H locs κ σ (MQ below (va_Qv Φ (fun u t => Po D cy A (mw u) t) A) args s MC MS A) (F0 m 70 ls [.int y0, .ref y1])
def Iw_mCo_init_e (p : Program) (l : Launch) (e : Env) (s : State) (m : MethodId) (args : Array Value) (below : List Frame) (meth : Method) (c : Code) (D : va_G) (cy : Nat → ClassId) (A : Nat → Prop) (ad : Nat → Nat) (mi MC MS : Nat) (Φ : Mm → Prop) (k : Nat → Nat → Mm → Nat → Nat → Int32 → Int32 → Nat → Prop) : Prop :=
  ∀ (κ σ : Nat) (M : Mm) (a0 : Nat) (a1 : Nat) (a2 : Int32) (a3 : Int32) (a4 : Nat), k κ σ M a0 a1 a2 a3 a4 → κ ≤ MC → σ ≤ MS → ∀ (H : Heap) (locs : List Loc) (ls : Array Slot), va_P D classes (mw M) H → va_D A (mw M) → va_S A s.heap H locs → lv_has ls 5 [(0, .ref a0), (1, .ref a1), (2, .int a2), (3, .int a3), (4, .ref a4)] → W p l e (rmw_mCo_init MC MS) s m args below meth c H locs κ σ (MQ below (va_Qv Φ (fun u t => Po D cy A (mw u) t) A) args s MC MS A) (F0 m 0 ls [])
set_option maxHeartbeats 8000000 in
set_option maxRecDepth 100000 in
theorem wv_mCo_init_70 {p : Program} {l : Launch} {e : Env} {s : State} {m : MethodId} {args : Array Value} {below : List Frame} {meth : Method} {c : Code} {D : va_G} {cy : Nat → ClassId} {A : Nat → Prop} {ad : Nat → Nat} {mi MC MS : Nat} {Φ : Mm → Prop} {fu : Nat} (F : FxM p s m args meth c b_Co_init 5 "CoinKeeper$Coin" "<init>" none D cy ad mi A) : Iw_mCo_init_70 p l e s m args below meth c D cy A ad mi MC MS Φ (xv_mCo_init_70 fu MC MS cy ad mi Φ) := by
  obtain ⟨⟨hx, hb, hr, hml, hown, hts, hlocks, hK, hA, hSt, hnm, hex⟩, hT, hMi⟩ := id F
  intro κ σ M x0 x3 x4 y0 y1 hf hkc hks H locs ls hP hD hS hl
  unfold xv_mCo_init_70 at hf
  obtain ⟨hg, hf⟩ := hf
  obtain ⟨fs_, hm_, hlen_, hf⟩ := hf
  obtain ⟨ix_, hi_⟩ := m_ix hm_
  have hE_ := m_set (y := .inr (2, fs_.set 5 (.int y0))) hD hi_
  refine va_putF (D := D) (ci := 2) (v := .int y0) (ty := .boolean) (C := "CoinKeeper$Coin") (T := F_2) (N := 10) hx hb hts i_2 t_2 t_2_ok n_2 hown hK hP hD hS ix_ hi_ rfl 5 (by decide) (hts _ gw_863) (fun _ h9 => h9) rfl hnm rfl (by decide +kernel) (isb_n hg) (isb_f hg) hlen_ d_Co_init_70 (fun H locs hP hD hS => ?_)
  obtain ⟨M1, eM_⟩ : ∃ z, z = mu M y1 (.inr (2, fs_.set 5 (.int y0))) := ⟨_, rfl⟩
  rw [← eM_] at hf hE_
  rw [hE_] at hP hD
  clear hE_ eM_ hi_ hm_
  refine lv_aload_n hx hb d_Co_init_73 rfl (lv_at hl 0 rfl) ?_
  refine lv_aload hx hb d_Co_init_74 (lv_at hl 2 rfl) ?_
  obtain ⟨fs_, hm_, r2, hv_, hf⟩ := hf
  obtain ⟨ix_, hi_⟩ := m_ix hm_
  refine va_get (D := D) (ci := 4) (v := va_rf r2) (C := "CoinKeeper$Layout") (T := F_4) (N := 15) hx hb hts i_4 hown hK hP ix_ hi_ rfl 8 (by decide) (hts _ gw_291) (fun _ h9 => h9) hv_ d_Co_init_76 ?_
  clear hv_ hi_ hm_
  obtain ⟨q3, rfl, hf⟩ := hf
  refine W.eq (g2 := F0 m 79 ls [.ref q3, .ref x0]) rfl ?_
  refine lv_iload_n hx hb d_Co_init_79 rfl (lv_at hl 1 rfl) ?_
  obtain ⟨n_, f_, hm_, hin_, hf⟩ := hf
  obtain ⟨ix_, hi_⟩ := m_ix hm_
  refine va_iald hx hb hK hP ix_ 1 hi_ rfl (inb_in hin_) d_Co_init_80 ?_
  obtain ⟨v4, ev⟩ : ∃ z, z = f_ x3.toNatClampNeg := ⟨_, rfl⟩
  first | rw [← ev] at hf ⊢ | rw [← ev]
  clear ev hi_ hm_ hin_
  refine lv_bipush (v := 8) hx hb d_Co_init_81 (by decide) ?_
  refine lv_iadd hx hb d_Co_init_83 ?_
  refine lv_topi (fun v5 ev => ?_)
  have hf := bnQ ev hf
  clear ev
  obtain ⟨fs_, hm_, hlen_, hf⟩ := hf
  obtain ⟨ix_, hi_⟩ := m_ix hm_
  have hE_ := m_set (y := .inr (2, fs_.set 6 (.int v5))) hD hi_
  refine va_putF (D := D) (ci := 2) (v := .int v5) (ty := .int) (C := "CoinKeeper$Coin") (T := F_2) (N := 10) hx hb hts i_2 t_2 t_2_ok n_2 hown hK hP hD hS ix_ hi_ rfl 6 (by decide) (hts _ gw_865) (fun _ h9 => h9) rfl hnm rfl (by decide +kernel) rfl rfl hlen_ d_Co_init_84 (fun H locs hP hD hS => ?_)
  obtain ⟨M6, eM_⟩ : ∃ z, z = mu M1 x0 (.inr (2, fs_.set 6 (.int v5))) := ⟨_, rfl⟩
  rw [← eM_] at hf hE_
  rw [hE_] at hP hD
  clear hE_ eM_ hi_ hm_
  refine lv_aload_n hx hb d_Co_init_87 rfl (lv_at hl 0 rfl) ?_
  refine lv_aload hx hb d_Co_init_88 (lv_at hl 2 rfl) ?_
  obtain ⟨fs_, hm_, r7, hv_, hf⟩ := hf
  obtain ⟨ix_, hi_⟩ := m_ix hm_
  refine va_get (D := D) (ci := 4) (v := va_rf r7) (C := "CoinKeeper$Layout") (T := F_4) (N := 15) hx hb hts i_4 hown hK hP ix_ hi_ rfl 9 (by decide) (hts _ gw_293) (fun _ h9 => h9) hv_ d_Co_init_90 ?_
  clear hv_ hi_ hm_
  obtain ⟨q8, rfl, hf⟩ := hf
  refine W.eq (g2 := F0 m 93 ls [.ref q8, .ref x0]) rfl ?_
  refine lv_iload_n hx hb d_Co_init_93 rfl (lv_at hl 1 rfl) ?_
  obtain ⟨n_, f_, hm_, hin_, hf⟩ := hf
  obtain ⟨ix_, hi_⟩ := m_ix hm_
  refine va_iald hx hb hK hP ix_ 1 hi_ rfl (inb_in hin_) d_Co_init_94 ?_
  obtain ⟨v9, ev⟩ : ∃ z, z = f_ x3.toNatClampNeg := ⟨_, rfl⟩
  first | rw [← ev] at hf ⊢ | rw [← ev]
  clear ev hi_ hm_ hin_
  obtain ⟨fs_, hm_, hlen_, hf⟩ := hf
  obtain ⟨ix_, hi_⟩ := m_ix hm_
  have hE_ := m_set (y := .inr (2, fs_.set 7 (.int v9))) hD hi_
  refine va_putF (D := D) (ci := 2) (v := .int v9) (ty := .int) (C := "CoinKeeper$Coin") (T := F_2) (N := 10) hx hb hts i_2 t_2 t_2_ok n_2 hown hK hP hD hS ix_ hi_ rfl 7 (by decide) (hts _ gw_867) (fun _ h9 => h9) rfl hnm rfl (by decide +kernel) rfl rfl hlen_ d_Co_init_95 (fun H locs hP hD hS => ?_)
  obtain ⟨M10, eM_⟩ : ∃ z, z = mu M6 x0 (.inr (2, fs_.set 7 (.int v9))) := ⟨_, rfl⟩
  rw [← eM_] at hf hE_
  rw [hE_] at hP hD
  clear hE_ eM_ hi_ hm_
  refine lv_aload_n hx hb d_Co_init_98 rfl (lv_at hl 0 rfl) ?_
  refine lv_aload hx hb d_Co_init_99 (lv_at hl 2 rfl) ?_
  obtain ⟨fs_, hm_, r11, hv_, hf⟩ := hf
  obtain ⟨ix_, hi_⟩ := m_ix hm_
  refine va_get (D := D) (ci := 4) (v := va_rf r11) (C := "CoinKeeper$Layout") (T := F_4) (N := 15) hx hb hts i_4 hown hK hP ix_ hi_ rfl 10 (by decide) (hts _ gw_295) (fun _ h9 => h9) hv_ d_Co_init_101 ?_
  clear hv_ hi_ hm_
  obtain ⟨q12, rfl, hf⟩ := hf
  refine W.eq (g2 := F0 m 104 ls [.ref q12, .ref x0]) rfl ?_
  refine lv_iload_n hx hb d_Co_init_104 rfl (lv_at hl 1 rfl) ?_
  obtain ⟨n_, f_, hm_, hin_, hf⟩ := hf
  obtain ⟨ix_, hi_⟩ := m_ix hm_
  refine va_iald hx hb hK hP ix_ 1 hi_ rfl (inb_in hin_) d_Co_init_105 ?_
  obtain ⟨v13, ev⟩ : ∃ z, z = f_ x3.toNatClampNeg := ⟨_, rfl⟩
  first | rw [← ev] at hf ⊢ | rw [← ev]
  clear ev hi_ hm_ hin_
  obtain ⟨fs_, hm_, hlen_, hf⟩ := hf
  obtain ⟨ix_, hi_⟩ := m_ix hm_
  have hE_ := m_set (y := .inr (2, fs_.set 8 (.int v13))) hD hi_
  refine va_putF (D := D) (ci := 2) (v := .int v13) (ty := .int) (C := "CoinKeeper$Coin") (T := F_2) (N := 10) hx hb hts i_2 t_2 t_2_ok n_2 hown hK hP hD hS ix_ hi_ rfl 8 (by decide) (hts _ gw_869) (fun _ h9 => h9) rfl hnm rfl (by decide +kernel) rfl rfl hlen_ d_Co_init_106 (fun H locs hP hD hS => ?_)
  obtain ⟨M14, eM_⟩ : ∃ z, z = mu M10 x0 (.inr (2, fs_.set 8 (.int v13))) := ⟨_, rfl⟩
  rw [← eM_] at hf hE_
  rw [hE_] at hP hD
  clear hE_ eM_ hi_ hm_
  refine W.widen (k := MC) (n := MS) hkc hks ?_
  exact m_rv hf hx hb hr hlocks hK hP hD hS d_Co_init_109
theorem hdq_25 : ({ cls := "CoinKeeper$Layout", name := "value", desc := "(I)J" } : Jvm.MethodName).cls ≠ "java/lang/invoke/MethodHandle" ∧ ({ cls := "CoinKeeper$Layout", name := "value", desc := "(I)J" } : Jvm.MethodName).cls ≠ "java/lang/invoke/VarHandle" ∧ (parseMethodDescriptor ({ cls := "CoinKeeper$Layout", name := "value", desc := "(I)J" } : Jvm.MethodName).desc).map (fun d => d.parameters.length) = some 1 := by decide +kernel
set_option maxHeartbeats 8000000 in
set_option maxRecDepth 100000 in
theorem wew_mCo_init {p : Program} {l : Launch} {e : Env} {s : State} {m : MethodId} {args : Array Value} {below : List Frame} {meth : Method} {c : Code} {D : va_G} {cy : Nat → ClassId} {A : Nat → Prop} {ad : Nat → Nat} {mi MC MS : Nat} {Φ : Mm → Prop} {fu : Nat} (F : FxM p s m args meth c b_Co_init 5 "CoinKeeper$Coin" "<init>" none D cy ad mi A) : Iw_mCo_init_e p l e s m args below meth c D cy A ad mi MC MS Φ (xw_mCo_init fu MC MS cy ad mi Φ) := by
  obtain ⟨⟨hx, hb, hr, hml, hown, hts, hlocks, hK, hA, hSt, hnm, hex⟩, hT, hMi⟩ := id F
  intro κ σ M a0 a1 a2 a3 a4 hf hkc hks H locs ls hP hD hS hl
  unfold xw_mCo_init at hf
  refine lv_aload_n hx hb d_Co_init_0 rfl (lv_at hl 0 rfl) ?_
  refine W.objInit hx hb hown (hts _ gw_847) (hts _ gw_36) (hts _ gw_37) rfl (by rw [hml]; exact hl.1) rfl d_Co_init_1 (Nat.le_of_ble_eq_true rfl) (Nat.le_of_ble_eq_true rfl) ?_
  refine W.eq (g2 := F0 m 4 ls []) rfl ?_
  refine lv_aload_n hx hb d_Co_init_4 rfl (lv_at hl 0 rfl) ?_
  refine lv_iconst (v := (-1)) hx hb d_Co_init_5 (by decide) ?_
  obtain ⟨fs_, hm_, hlen_, hf⟩ := hf
  obtain ⟨ix_, hi_⟩ := m_ix hm_
  have hE_ := m_set (y := .inr (2, fs_.set 9 (.int (-1 : Int32)))) hD hi_
  refine va_put (D := D) (ci := 2) (v := .int (-1 : Int32)) (ty := .int) (C := "CoinKeeper$Coin") (T := F_2) (N := 10) hx hb hts i_2 t_2 t_2_ok n_2 hown hK hP hD hS ix_ hi_ rfl 9 (by decide) (hts _ gw_872) (fun _ h9 => h9) rfl (by decide +kernel) rfl rfl hlen_ d_Co_init_6 (fun H locs hP hD hS => ?_)
  obtain ⟨M1, eM_⟩ : ∃ z, z = mu M a0 (.inr (2, fs_.set 9 (.int (-1 : Int32)))) := ⟨_, rfl⟩
  rw [← eM_] at hf hE_
  rw [hE_] at hP hD
  clear hE_ eM_ hi_ hm_
  refine lv_aload_n hx hb d_Co_init_9 rfl (lv_at hl 0 rfl) ?_
  refine lv_aload_n hx hb d_Co_init_10 rfl (lv_at hl 1 rfl) ?_
  obtain ⟨fs_, hm_, hlen_, hf⟩ := hf
  obtain ⟨ix_, hi_⟩ := m_ix hm_
  have hE_ := m_set (y := .inr (2, fs_.set 0 (.ref a1))) hD hi_
  refine va_putF (D := D) (ci := 2) (v := .ref a1) (ty := .object "CoinKeeper$Block") (C := "CoinKeeper$Coin") (T := F_2) (N := 10) hx hb hts i_2 t_2 t_2_ok n_2 hown hK hP hD hS ix_ hi_ rfl 0 (by decide) (hts _ gw_850) (fun _ h9 => h9) rfl hnm rfl (by decide +kernel) rfl rfl hlen_ d_Co_init_11 (fun H locs hP hD hS => ?_)
  obtain ⟨M2, eM_⟩ : ∃ z, z = mu M1 a0 (.inr (2, fs_.set 0 (.ref a1))) := ⟨_, rfl⟩
  rw [← eM_] at hf hE_
  rw [hE_] at hP hD
  clear hE_ eM_ hi_ hm_
  refine lv_aload_n hx hb d_Co_init_14 rfl (lv_at hl 0 rfl) ?_
  refine lv_bipush (v := 32) hx hb d_Co_init_15 (by decide) ?_
  refine lv_iload_n hx hb d_Co_init_17 rfl (lv_at hl 2 rfl) ?_
  refine lv_imul hx hb d_Co_init_18 ?_
  refine lv_topi (fun v3 ev => ?_)
  have hf := bnQ ev hf
  clear ev
  obtain ⟨fs_, hm_, hlen_, hf⟩ := hf
  obtain ⟨ix_, hi_⟩ := m_ix hm_
  have hE_ := m_set (y := .inr (2, fs_.set 1 (.int v3))) hD hi_
  refine va_putF (D := D) (ci := 2) (v := .int v3) (ty := .int) (C := "CoinKeeper$Coin") (T := F_2) (N := 10) hx hb hts i_2 t_2 t_2_ok n_2 hown hK hP hD hS ix_ hi_ rfl 1 (by decide) (hts _ gw_854) (fun _ h9 => h9) rfl hnm rfl (by decide +kernel) rfl rfl hlen_ d_Co_init_19 (fun H locs hP hD hS => ?_)
  obtain ⟨M4, eM_⟩ : ∃ z, z = mu M2 a0 (.inr (2, fs_.set 1 (.int v3))) := ⟨_, rfl⟩
  rw [← eM_] at hf hE_
  rw [hE_] at hP hD
  clear hE_ eM_ hi_ hm_
  refine lv_aload_n hx hb d_Co_init_22 rfl (lv_at hl 0 rfl) ?_
  refine lv_aload_n hx hb d_Co_init_23 rfl (lv_at hl 1 rfl) ?_
  obtain ⟨fs_, hm_, r5, hv_, hf⟩ := hf
  obtain ⟨ix_, hi_⟩ := m_ix hm_
  refine va_get (D := D) (ci := 1) (v := va_rf r5) (C := "CoinKeeper$Block") (T := F_1) (N := 12) hx hb hts i_1 hown hK hP ix_ hi_ rfl 3 (by decide) (hts _ gw_398) (fun _ h9 => h9) hv_ d_Co_init_24 ?_
  clear hv_ hi_ hm_
  obtain ⟨q6, rfl, hf⟩ := hf
  refine W.eq (g2 := F0 m 27 ls [.ref q6, .ref a0]) rfl ?_
  refine lv_aload_n hx hb d_Co_init_27 rfl (lv_at hl 0 rfl) ?_
  obtain ⟨fs_, hm_, v7, hv_, hf⟩ := hf
  obtain ⟨ix_, hi_⟩ := m_ix hm_
  refine va_get (D := D) (ci := 2) (v := .int v7) (C := "CoinKeeper$Coin") (T := F_2) (N := 10) hx hb hts i_2 hown hK hP ix_ hi_ rfl 1 (by decide) (hts _ gw_854) (fun _ h9 => h9) hv_ d_Co_init_28 ?_
  clear hv_ hi_ hm_
  obtain ⟨c8, c9, hal_, hnd_, v10, hc, hf⟩ := hf
  refine m_li (va_runSN (As := [.ref q6, .int v7]) (rest := [.ref a0]) ⟨hx, hb, hml, hown, hts⟩ (c_K_word l D cy ad fu q6 c8 c9 v7 _ hc H.size) ⟨q_cN hts hSt.2.1 gw_383 gw_1 (List.mem_of_getElem? (i := 18) rfl) hdq_16 ⟨Nat.le_of_ble_eq_true rfl, Nat.le_of_ble_eq_true rfl⟩, hts _ gw_382, trivial⟩ (q_pre (m_subP hP hal_) (m_subD hD hal_ hnd_) hK hSt hS (m_lF hD hS hA hal_) _) rfl rfl hl.1 rfl (lv_room (Nat.le_of_ble_eq_true rfl)) d_Co_init_31 ⟨hkc, hks⟩) hP hD hS hA hal_ rfl (fun H locs hP hD hS => ?_)
  refine W.widen (k := κ) (n := σ) (Nat.le_refl _) (Nat.le_refl _) ?_
  obtain ⟨M11, eM_, hf⟩ := bnP hf
  have hP : va_P D classes (mw M11) H := by rw [eM_]; exact hP
  have hD : va_D A (mw M11) := by rw [eM_]; exact hD
  clear eM_ hal_ hnd_ hc
  obtain ⟨fs_, hm_, hlen_, hf⟩ := hf
  obtain ⟨ix_, hi_⟩ := m_ix hm_
  have hE_ := m_set (y := .inr (2, fs_.set 2 (.int v10))) hD hi_
  refine va_putF (D := D) (ci := 2) (v := .int v10) (ty := .int) (C := "CoinKeeper$Coin") (T := F_2) (N := 10) hx hb hts i_2 t_2 t_2_ok n_2 hown hK hP hD hS ix_ hi_ rfl 2 (by decide) (hts _ gw_856) (fun _ h9 => h9) rfl hnm rfl (by decide +kernel) rfl rfl hlen_ d_Co_init_34 (fun H locs hP hD hS => ?_)
  obtain ⟨M12, eM_⟩ : ∃ z, z = mu M11 a0 (.inr (2, fs_.set 2 (.int v10))) := ⟨_, rfl⟩
  rw [← eM_] at hf hE_
  rw [hE_] at hP hD
  clear hE_ eM_ hi_ hm_
  refine lv_aload_n hx hb d_Co_init_37 rfl (lv_at hl 0 rfl) ?_
  refine lv_iload_n hx hb d_Co_init_38 rfl (lv_at hl 3 rfl) ?_
  refine lv_aload hx hb d_Co_init_39 (lv_at hl 4 rfl) ?_
  obtain ⟨fs_, hm_, r13, hv_, hf⟩ := hf
  obtain ⟨ix_, hi_⟩ := m_ix hm_
  refine va_get (D := D) (ci := 4) (v := va_rf r13) (C := "CoinKeeper$Layout") (T := F_4) (N := 15) hx hb hts i_4 hown hK hP ix_ hi_ rfl 4 (by decide) (hts _ gw_280) (fun _ h9 => h9) hv_ d_Co_init_41 ?_
  clear hv_ hi_ hm_
  obtain ⟨q14, rfl, hf⟩ := hf
  refine W.eq (g2 := F0 m 44 ls [.ref q14, .int a3, .ref a0]) rfl ?_
  refine lv_iload_n hx hb d_Co_init_44 rfl (lv_at hl 2 rfl) ?_
  obtain ⟨n_, f_, hm_, hin_, hf⟩ := hf
  obtain ⟨ix_, hi_⟩ := m_ix hm_
  refine va_iald hx hb hK hP ix_ 1 hi_ rfl (inb_in hin_) d_Co_init_45 ?_
  obtain ⟨v15, ev⟩ : ∃ z, z = f_ a2.toNatClampNeg := ⟨_, rfl⟩
  first | rw [← ev] at hf ⊢ | rw [← ev]
  clear ev hi_ hm_ hin_
  refine lv_isub hx hb d_Co_init_46 ?_
  refine lv_topi (fun v16 ev => ?_)
  have hf := bnQ ev hf
  clear ev
  obtain ⟨fs_, hm_, hlen_, hf⟩ := hf
  obtain ⟨ix_, hi_⟩ := m_ix hm_
  have hE_ := m_set (y := .inr (2, fs_.set 3 (.int v16))) hD hi_
  refine va_putF (D := D) (ci := 2) (v := .int v16) (ty := .int) (C := "CoinKeeper$Coin") (T := F_2) (N := 10) hx hb hts i_2 t_2 t_2_ok n_2 hown hK hP hD hS ix_ hi_ rfl 3 (by decide) (hts _ gw_858) (fun _ h9 => h9) rfl hnm rfl (by decide +kernel) rfl rfl hlen_ d_Co_init_47 (fun H locs hP hD hS => ?_)
  obtain ⟨M17, eM_⟩ : ∃ z, z = mu M12 a0 (.inr (2, fs_.set 3 (.int v16))) := ⟨_, rfl⟩
  rw [← eM_] at hf hE_
  rw [hE_] at hP hD
  clear hE_ eM_ hi_ hm_
  refine lv_aload_n hx hb d_Co_init_50 rfl (lv_at hl 0 rfl) ?_
  refine lv_aload hx hb d_Co_init_51 (lv_at hl 4 rfl) ?_
  refine lv_iload_n hx hb d_Co_init_53 rfl (lv_at hl 3 rfl) ?_
  obtain ⟨b18, b19, b20, b21, b22, b23, b24, b25, b26, b27, c28, c29, c30, c31, c32, c33, c34, c35, hal_, hnd_, v36, hc, hf⟩ := hf
  refine m_ll (va_runV (C := "CoinKeeper$Layout") (As := [.int a3]) (rest := [.ref a0]) ⟨hx, hb, hml, hown, hts⟩ (c_La_value l D cy ad fu a4 b18 b19 b20 b21 b22 b23 b24 b25 b26 b27 c28 c29 c30 c31 c32 c33 c34 c35 a3 _ hc H.size) ⟨q_cB hts gw_801 gw_8 gw_849 hdq_25 ⟨Nat.le_of_ble_eq_true rfl, Nat.le_of_ble_eq_true rfl⟩, hts _ gw_799, hts _ gw_800⟩ (q_preV (q_pre (m_subP hP hal_) (m_subD hD hal_ hnd_) hK hSt hS (m_lF hD hS hA hal_) _) (va_recv hK (m_subP hP hal_) (ci := 4) (q0 := 0) rfl rfl)) rfl rfl hl.1 rfl (lv_room (Nat.le_of_ble_eq_true rfl)) d_Co_init_54 ⟨hkc, hks⟩) hP hD hS hA hal_ rfl (fun H locs hP hD hS => ?_)
  refine W.widen (k := κ) (n := σ) (Nat.le_refl _) (Nat.le_refl _) ?_
  obtain ⟨M37, eM_, hf⟩ := bnP hf
  have hP : va_P D classes (mw M37) H := by rw [eM_]; exact hP
  have hD : va_D A (mw M37) := by rw [eM_]; exact hD
  clear eM_ hal_ hnd_ hc
  obtain ⟨fs_, hm_, hlen_, hf⟩ := hf
  obtain ⟨ix_, hi_⟩ := m_ix hm_
  have hE_ := m_set (y := .inr (2, fs_.set 4 (.long v36))) hD hi_
  refine va_putF (D := D) (ci := 2) (v := .long v36) (ty := .long) (C := "CoinKeeper$Coin") (T := F_2) (N := 10) hx hb hts i_2 t_2 t_2_ok n_2 hown hK hP hD hS ix_ hi_ rfl 4 (by decide) (hts _ gw_860) (fun _ h9 => h9) rfl hnm rfl (by decide +kernel) rfl rfl hlen_ d_Co_init_57 (fun H locs hP hD hS => ?_)
  obtain ⟨M38, eM_⟩ : ∃ z, z = mu M37 a0 (.inr (2, fs_.set 4 (.long v36))) := ⟨_, rfl⟩
  rw [← eM_] at hf hE_
  rw [hE_] at hP hD
  clear hE_ eM_ hi_ hm_
  refine lv_aload_n hx hb d_Co_init_60 rfl (lv_at hl 0 rfl) ?_
  refine lv_iload_n hx hb d_Co_init_61 rfl (lv_at hl 2 rfl) ?_
  refine lv_if_ne (tgt := 69) hx hb d_Co_init_62 (by decide) (fun cx => ?_) (fun cx => ?_)
  · have hf := ifnP cx hf
    refine lv_iconst (v := 0) hx hb d_Co_init_69 (by decide) ?_
    exact wv_mCo_init_70 (fu := fu) F _ _ _ _ _ _ _ _ hf hkc hks _ _ _ hP hD hS (lv_sub hl [0, 3, 4] rfl)
  · have hf := ifpP cx hf
    refine lv_iconst (v := 1) hx hb d_Co_init_65 (by decide) ?_
    refine lv_goto (tgt := 70) hx hb d_Co_init_66 (by decide) ?_
    exact wv_mCo_init_70 (fu := fu) F _ _ _ _ _ _ _ _ hf hkc hks _ _ _ hP hD hS (lv_sub hl [0, 3, 4] rfl)
theorem cw_mCo_init (l : Launch) (D : va_G) (cy : Nat → ClassId) (ad : Nat → Nat) (mi fu MC MS : Nat) (a0 : Nat) (a1 : Nat) (a2 : Int32) (a3 : Int32) (a4 : Nat) (M : Mm) (Φ : Mm → Prop) (hf : xw_mCo_init fu MC MS cy ad mi Φ 0 0 M a0 a1 a2 a3 a4) (sz : Nat) : Met l ({ cls := "CoinKeeper$Coin", name := "<init>", desc := "(LCoinKeeper$Block;IILCoinKeeper$Layout;)V" } : Jvm.MethodName) (.code ({ cls := "CoinKeeper$Coin", name := "<init>", desc := "(LCoinKeeper$Block;IILCoinKeeper$Layout;)V" } : Jvm.MethodName) b_Co_init 5 none :: gw) (rmw_mCo_init MC MS) (va_Pc [.ref a0, .ref a1, .int a2, .int a3, .ref a4] (PrM D cy ad mi (mw M) sz)) (va_Qv Φ (fun u t => Po D cy (va_A (mw M) sz) (mw u) t) (va_A (mw M) sz)) MC MS (va_A (mw M) sz) :=
  q_metM (Qc := fun A => va_Qv Φ (fun u t => Po D cy A (mw u) t) A) (by decide) rfl rfl (Nat.le_of_ble_eq_true rfl) (fun p e s m below meth c ls F hP hD hS hl => wew_mCo_init (fu := fu) F 0 0 M a0 a1 a2 a3 a4 hf (Nat.zero_le _) (Nat.zero_le _) _ _ _ hP hD hS hl) sz
abbrev rmw_mBl_init (MC MS : Nat) : Room := { frames := 1, cells := MC, slots := MS, locals := 27 }
def Iw_mBl_init_122 (p : Program) (l : Launch) (e : Env) (s : State) (m : MethodId) (args : Array Value) (below : List Frame) (meth : Method) (c : Code) (D : va_G) (cy : Nat → ClassId) (A : Nat → Prop) (ad : Nat → Nat) (mi MC MS : Nat) (Φ : Mm → Prop) (k : Nat → Nat → Mm → Int64 → Int64 → Nat → Prop) : Prop :=
  ∀ (κ σ : Nat) (M : Mm) (y0 : Int64) (y1 : Int64) (y2 : Nat), k κ σ M y0 y1 y2 → κ ≤ MC → σ ≤ MS → ∀ (H : Heap) (locs : List Loc) (ls : Array Slot), va_P D classes (mw M) H → va_D A (mw M) → va_S A s.heap H locs → lv_has ls 6 [] → W p l e (rmw_mBl_init MC MS) s m args below meth c H locs κ σ (MQ below (va_Qv Φ (fun u t => Po D cy A (mw u) t) A) args s MC MS A) (F0 m 122 ls [.long y0, .long y1, .ref y2])
def Iw_mBl_init_98 (p : Program) (l : Launch) (e : Env) (s : State) (m : MethodId) (args : Array Value) (below : List Frame) (meth : Method) (c : Code) (D : va_G) (cy : Nat → ClassId) (A : Nat → Prop) (ad : Nat → Nat) (mi MC MS : Nat) (Φ : Mm → Prop) (k : Nat → Nat → Mm → Nat → Nat → Int32 → Int32 → Nat → Prop) : Prop :=
  ∀ (κ σ : Nat) (M : Mm) (x0 : Nat) (x1 : Nat) (x5 : Int32) (y0 : Int32) (y1 : Nat), k κ σ M x0 x1 x5 y0 y1 → κ ≤ MC → σ ≤ MS → ∀ (H : Heap) (locs : List Loc) (ls : Array Slot), va_P D classes (mw M) H → va_D A (mw M) → va_S A s.heap H locs → lv_has ls 6 [(0, .ref x0), (1, .ref x1), (5, .int x5)] → W p l e (rmw_mBl_init MC MS) s m args below meth c H locs κ σ (MQ below (va_Qv Φ (fun u t => Po D cy A (mw u) t) A) args s MC MS A) (F0 m 98 ls [.int y0, .ref y1])
def Iw_mBl_init_78 (p : Program) (l : Launch) (e : Env) (s : State) (m : MethodId) (args : Array Value) (below : List Frame) (meth : Method) (c : Code) (D : va_G) (cy : Nat → ClassId) (A : Nat → Prop) (ad : Nat → Nat) (mi MC MS : Nat) (Φ : Mm → Prop) (k : Nat → Nat → Mm → Nat → Nat → Nat → Int32 → Int64 → Nat → Prop) : Prop :=
  ∀ (κ σ : Nat) (M : Mm) (x0 : Nat) (x1 : Nat) (x2 : Nat) (x5 : Int32) (y0 : Int64) (y1 : Nat), k κ σ M x0 x1 x2 x5 y0 y1 → κ ≤ MC → σ ≤ MS → ∀ (H : Heap) (locs : List Loc) (ls : Array Slot), va_P D classes (mw M) H → va_D A (mw M) → va_S A s.heap H locs → lv_has ls 6 [(0, .ref x0), (1, .ref x1), (2, .ref x2), (5, .int x5)] → W p l e (rmw_mBl_init MC MS) s m args below meth c H locs κ σ (MQ below (va_Qv Φ (fun u t => Po D cy A (mw u) t) A) args s MC MS A) (F0 m 78 ls [.long y0, .ref y1])
def Iw_mBl_init_52 (p : Program) (l : Launch) (e : Env) (s : State) (m : MethodId) (args : Array Value) (below : List Frame) (meth : Method) (c : Code) (D : va_G) (cy : Nat → ClassId) (A : Nat → Prop) (ad : Nat → Nat) (mi MC MS : Nat) (Φ : Mm → Prop) (k : Nat → Nat → Mm → Nat → Nat → Nat → Int32 → Int32 → Nat → Prop) : Prop :=
  ∀ (κ σ : Nat) (M : Mm) (x0 : Nat) (x1 : Nat) (x2 : Nat) (x5 : Int32) (y0 : Int32) (y1 : Nat), k κ σ M x0 x1 x2 x5 y0 y1 → κ ≤ MC → σ ≤ MS → ∀ (H : Heap) (locs : List Loc) (ls : Array Slot), va_P D classes (mw M) H → va_D A (mw M) → va_S A s.heap H locs → lv_has ls 6 [(0, .ref x0), (1, .ref x1), (2, .ref x2), (5, .int x5)] → W p l e (rmw_mBl_init MC MS) s m args below meth c H locs κ σ (MQ below (va_Qv Φ (fun u t => Po D cy A (mw u) t) A) args s MC MS A) (F0 m 52 ls [.int y0, .ref y1])
def Iw_mBl_init_34 (p : Program) (l : Launch) (e : Env) (s : State) (m : MethodId) (args : Array Value) (below : List Frame) (meth : Method) (c : Code) (D : va_G) (cy : Nat → ClassId) (A : Nat → Prop) (ad : Nat → Nat) (mi MC MS : Nat) (Φ : Mm → Prop) (k : Nat → Nat → Mm → Nat → Nat → Nat → Int32 → Prop) : Prop :=
  ∀ (κ σ : Nat) (M : Mm) (x0 : Nat) (x1 : Nat) (x2 : Nat) (y0 : Int32), k κ σ M x0 x1 x2 y0 → κ ≤ MC → σ ≤ MS → ∀ (H : Heap) (locs : List Loc) (ls : Array Slot), va_P D classes (mw M) H → va_D A (mw M) → va_S A s.heap H locs → lv_has ls 6 [(0, .ref x0), (1, .ref x1), (2, .ref x2)] → W p l e (rmw_mBl_init MC MS) s m args below meth c H locs κ σ (MQ below (va_Qv Φ (fun u t => Po D cy A (mw u) t) A) args s MC MS A) (F0 m 34 ls [.int y0])
def Iw_mBl_init_e (p : Program) (l : Launch) (e : Env) (s : State) (m : MethodId) (args : Array Value) (below : List Frame) (meth : Method) (c : Code) (D : va_G) (cy : Nat → ClassId) (A : Nat → Prop) (ad : Nat → Nat) (mi MC MS : Nat) (Φ : Mm → Prop) (k : Nat → Nat → Mm → Nat → Nat → Nat → Nat → Nat → Prop) : Prop :=
  ∀ (κ σ : Nat) (M : Mm) (a0 : Nat) (a1 : Nat) (a2 : Nat) (a3 : Nat) (a4 : Nat), k κ σ M a0 a1 a2 a3 a4 → κ ≤ MC → σ ≤ MS → ∀ (H : Heap) (locs : List Loc) (ls : Array Slot), va_P D classes (mw M) H → va_D A (mw M) → va_S A s.heap H locs → lv_has ls 6 [(0, .ref a0), (1, .ref a1), (2, .ref a2), (3, .ref a3), (4, .ref a4)] → W p l e (rmw_mBl_init MC MS) s m args below meth c H locs κ σ (MQ below (va_Qv Φ (fun u t => Po D cy A (mw u) t) A) args s MC MS A) (F0 m 0 ls [])
set_option maxHeartbeats 8000000 in
set_option maxRecDepth 100000 in
theorem wv_mBl_init_122 {p : Program} {l : Launch} {e : Env} {s : State} {m : MethodId} {args : Array Value} {below : List Frame} {meth : Method} {c : Code} {D : va_G} {cy : Nat → ClassId} {A : Nat → Prop} {ad : Nat → Nat} {mi MC MS : Nat} {Φ : Mm → Prop} {fu : Nat} (F : FxM p s m args meth c b_Bl_init 6 "CoinKeeper$Block" "<init>" none D cy ad mi A) : Iw_mBl_init_122 p l e s m args below meth c D cy A ad mi MC MS Φ (xv_mBl_init_122 fu MC MS cy ad mi Φ) := by
  obtain ⟨⟨hx, hb, hr, hml, hown, hts, hlocks, hK, hA, hSt, hnm, hex⟩, hT, hMi⟩ := id F
  intro κ σ M y0 y1 y2 hf hkc hks H locs ls hP hD hS hl
  unfold xv_mBl_init_122 at hf
  refine lv_ladd hx hb d_Bl_init_122 ?_
  refine lv_topl (fun v1 ev => ?_)
  have hf := bnQ ev hf
  clear ev
  obtain ⟨fs_, hm_, hlen_, hf⟩ := hf
  obtain ⟨ix_, hi_⟩ := m_ix hm_
  have hE_ := m_set (y := .inr (1, fs_.set 7 (.long v1))) hD hi_
  refine va_putF (D := D) (ci := 1) (v := .long v1) (ty := .long) (C := "CoinKeeper$Block") (T := F_1) (N := 12) hx hb hts i_1 t_1 t_1_ok n_1 hown hK hP hD hS ix_ hi_ rfl 7 (by decide) (hts _ gw_406) (fun _ h9 => h9) rfl hnm rfl (by decide +kernel) rfl rfl hlen_ d_Bl_init_123 (fun H locs hP hD hS => ?_)
  obtain ⟨M2, eM_⟩ : ∃ z, z = mu M y2 (.inr (1, fs_.set 7 (.long v1))) := ⟨_, rfl⟩
  rw [← eM_] at hf hE_
  rw [hE_] at hP hD
  clear hE_ eM_ hi_ hm_
  refine W.widen (k := MC) (n := MS) hkc hks ?_
  exact m_rv hf hx hb hr hlocks hK hP hD hS d_Bl_init_126
theorem hdq_26 : ({ cls := "CoinKeeper$Block", name := "workOf", desc := "(I)J" } : Jvm.MethodName).cls ≠ "java/lang/invoke/MethodHandle" ∧ ({ cls := "CoinKeeper$Block", name := "workOf", desc := "(I)J" } : Jvm.MethodName).cls ≠ "java/lang/invoke/VarHandle" ∧ (parseMethodDescriptor ({ cls := "CoinKeeper$Block", name := "workOf", desc := "(I)J" } : Jvm.MethodName).desc).map (fun d => d.parameters.length) = some 1 := by decide +kernel
set_option maxHeartbeats 8000000 in
set_option maxRecDepth 100000 in
theorem wv_mBl_init_98 {p : Program} {l : Launch} {e : Env} {s : State} {m : MethodId} {args : Array Value} {below : List Frame} {meth : Method} {c : Code} {D : va_G} {cy : Nat → ClassId} {A : Nat → Prop} {ad : Nat → Nat} {mi MC MS : Nat} {Φ : Mm → Prop} {fu : Nat} (F : FxM p s m args meth c b_Bl_init 6 "CoinKeeper$Block" "<init>" none D cy ad mi A) : Iw_mBl_init_98 p l e s m args below meth c D cy A ad mi MC MS Φ (xv_mBl_init_98 fu MC MS cy ad mi Φ) := by
  obtain ⟨⟨hx, hb, hr, hml, hown, hts, hlocks, hK, hA, hSt, hnm, hex⟩, hT, hMi⟩ := id F
  intro κ σ M x0 x1 x5 y0 y1 hf hkc hks H locs ls hP hD hS hl
  unfold xv_mBl_init_98 at hf
  obtain ⟨fs_, hm_, hlen_, hf⟩ := hf
  obtain ⟨ix_, hi_⟩ := m_ix hm_
  have hE_ := m_set (y := .inr (1, fs_.set 6 (.int y0))) hD hi_
  refine va_putF (D := D) (ci := 1) (v := .int y0) (ty := .int) (C := "CoinKeeper$Block") (T := F_1) (N := 12) hx hb hts i_1 t_1 t_1_ok n_1 hown hK hP hD hS ix_ hi_ rfl 6 (by decide) (hts _ gw_404) (fun _ h9 => h9) rfl hnm rfl (by decide +kernel) rfl rfl hlen_ d_Bl_init_98 (fun H locs hP hD hS => ?_)
  obtain ⟨M1, eM_⟩ : ∃ z, z = mu M y1 (.inr (1, fs_.set 6 (.int y0))) := ⟨_, rfl⟩
  rw [← eM_] at hf hE_
  rw [hE_] at hP hD
  clear hE_ eM_ hi_ hm_
  refine lv_aload_n hx hb d_Bl_init_101 rfl (lv_at hl 0 rfl) ?_
  refine lv_aload_n hx hb d_Bl_init_102 rfl (lv_at hl 0 rfl) ?_
  obtain ⟨fs_, hm_, v2, hv_, hf⟩ := hf
  obtain ⟨ix_, hi_⟩ := m_ix hm_
  refine va_get (D := D) (ci := 1) (v := .int v2) (C := "CoinKeeper$Block") (T := F_1) (N := 12) hx hb hts i_1 hown hK hP ix_ hi_ rfl 6 (by decide) (hts _ gw_404) (fun _ h9 => h9) hv_ d_Bl_init_103 ?_
  clear hv_ hi_ hm_
  obtain ⟨hal_, hnd_, v3, hc, hf⟩ := hf
  refine m_ll (va_runS (As := [.int v2]) (rest := [.ref x0]) ⟨hx, hb, hml, hown, hts⟩ (c_Bl_workOf l D cy ad fu v2 _ hc H.size) ⟨q_cB hts gw_388 gw_13 gw_386 hdq_26 ⟨Nat.le_of_ble_eq_true rfl, Nat.le_of_ble_eq_true rfl⟩, hts _ gw_387⟩ (q_pre (m_subP hP hal_) (m_subD hD hal_ hnd_) hK hSt hS (m_lF hD hS hA hal_) _) rfl rfl hl.1 rfl (lv_room (Nat.le_of_ble_eq_true rfl)) d_Bl_init_106 ⟨hkc, hks⟩) hP hD hS hA hal_ rfl (fun H locs hP hD hS => ?_)
  refine W.widen (k := κ) (n := σ) (Nat.le_refl _) (Nat.le_refl _) ?_
  obtain ⟨M4, eM_, hf⟩ := bnP hf
  have hP : va_P D classes (mw M4) H := by rw [eM_]; exact hP
  have hD : va_D A (mw M4) := by rw [eM_]; exact hD
  clear eM_ hal_ hnd_ hc
  refine lv_iload hx hb d_Bl_init_109 (lv_at hl 2 rfl) ?_
  refine lv_if_eq (tgt := 118) hx hb d_Bl_init_111 (by decide) (fun cx => ?_) (fun cx => ?_)
  · have hf := ifpP cx hf
    refine lv_aload_n hx hb d_Bl_init_118 rfl (lv_at hl 1 rfl) ?_
    obtain ⟨fs_, hm_, v5, hv_, hf⟩ := hf
    obtain ⟨ix_, hi_⟩ := m_ix hm_
    refine va_get (D := D) (ci := 1) (v := .long v5) (C := "CoinKeeper$Block") (T := F_1) (N := 12) hx hb hts i_1 hown hK hP ix_ hi_ rfl 7 (by decide) (hts _ gw_406) (fun _ h9 => h9) hv_ d_Bl_init_119 ?_
    clear hv_ hi_ hm_
    exact wv_mBl_init_122 (fu := fu) F _ _ _ _ _ _ hf hkc hks _ _ _ hP hD hS (lv_sub hl [] rfl)
  · have hf := ifnP cx hf
    refine lv_lconst (v := 0) hx hb d_Bl_init_114 (by decide) ?_
    refine lv_goto (tgt := 122) hx hb d_Bl_init_115 (by decide) ?_
    exact wv_mBl_init_122 (fu := fu) F _ _ _ _ _ _ hf hkc hks _ _ _ hP hD hS (lv_sub hl [] rfl)
set_option maxHeartbeats 8000000 in
set_option maxRecDepth 100000 in
theorem wv_mBl_init_78 {p : Program} {l : Launch} {e : Env} {s : State} {m : MethodId} {args : Array Value} {below : List Frame} {meth : Method} {c : Code} {D : va_G} {cy : Nat → ClassId} {A : Nat → Prop} {ad : Nat → Nat} {mi MC MS : Nat} {Φ : Mm → Prop} {fu : Nat} (F : FxM p s m args meth c b_Bl_init 6 "CoinKeeper$Block" "<init>" none D cy ad mi A) : Iw_mBl_init_78 p l e s m args below meth c D cy A ad mi MC MS Φ (xv_mBl_init_78 fu MC MS cy ad mi Φ) := by
  obtain ⟨⟨hx, hb, hr, hml, hown, hts, hlocks, hK, hA, hSt, hnm, hex⟩, hT, hMi⟩ := id F
  intro κ σ M x0 x1 x2 x5 y0 y1 hf hkc hks H locs ls hP hD hS hl
  unfold xv_mBl_init_78 at hf
  obtain ⟨fs_, hm_, hlen_, hf⟩ := hf
  obtain ⟨ix_, hi_⟩ := m_ix hm_
  have hE_ := m_set (y := .inr (1, fs_.set 5 (.long y0))) hD hi_
  refine va_putF (D := D) (ci := 1) (v := .long y0) (ty := .long) (C := "CoinKeeper$Block") (T := F_1) (N := 12) hx hb hts i_1 t_1 t_1_ok n_1 hown hK hP hD hS ix_ hi_ rfl 5 (by decide) (hts _ gw_402) (fun _ h9 => h9) rfl hnm rfl (by decide +kernel) rfl rfl hlen_ d_Bl_init_78 (fun H locs hP hD hS => ?_)
  obtain ⟨M1, eM_⟩ : ∃ z, z = mu M y1 (.inr (1, fs_.set 5 (.long y0))) := ⟨_, rfl⟩
  rw [← eM_] at hf hE_
  rw [hE_] at hP hD
  clear hE_ eM_ hi_ hm_
  refine lv_aload_n hx hb d_Bl_init_81 rfl (lv_at hl 0 rfl) ?_
  refine lv_iload hx hb d_Bl_init_82 (lv_at hl 3 rfl) ?_
  refine lv_if_eq (tgt := 92) hx hb d_Bl_init_84 (by decide) (fun cx => ?_) (fun cx => ?_)
  · have hf := ifpP cx hf
    refine lv_aload_n hx hb d_Bl_init_92 rfl (lv_at hl 2 rfl) ?_
    refine lv_bipush (v := 72) hx hb d_Bl_init_93 (by decide) ?_
    obtain ⟨c2, c3, hal_, hnd_, v4, hc, hf⟩ := hf
    refine m_li (va_runSN (As := [.ref x2, .int (72 : Int32)]) (rest := [.ref x0]) ⟨hx, hb, hml, hown, hts⟩ (c_K_word l D cy ad fu x2 c2 c3 (72 : Int32) _ hc H.size) ⟨q_cN hts hSt.2.1 gw_383 gw_1 (List.mem_of_getElem? (i := 6) rfl) hdq_16 ⟨Nat.le_of_ble_eq_true rfl, Nat.le_of_ble_eq_true rfl⟩, hts _ gw_382, trivial⟩ (q_pre (m_subP hP hal_) (m_subD hD hal_ hnd_) hK hSt hS (m_lF hD hS hA hal_) _) rfl rfl hl.1 rfl (lv_room (Nat.le_of_ble_eq_true rfl)) d_Bl_init_95 ⟨hkc, hks⟩) hP hD hS hA hal_ rfl (fun H locs hP hD hS => ?_)
    refine W.widen (k := κ) (n := σ) (Nat.le_refl _) (Nat.le_refl _) ?_
    obtain ⟨M5, eM_, hf⟩ := bnP hf
    have hP : va_P D classes (mw M5) H := by rw [eM_]; exact hP
    have hD : va_D A (mw M5) := by rw [eM_]; exact hD
    clear eM_ hal_ hnd_ hc
    exact wv_mBl_init_98 (fu := fu) F _ _ _ _ _ _ _ _ hf hkc hks _ _ _ hP hD hS (lv_sub hl [0, 1, 3] rfl)
  · have hf := ifnP cx hf
    refine lv_ldc (v := 545259519) hx hb hown (hts _ gw_385) d_Bl_init_87 ?_
    refine lv_goto (tgt := 98) hx hb d_Bl_init_89 (by decide) ?_
    exact wv_mBl_init_98 (fu := fu) F _ _ _ _ _ _ _ _ hf hkc hks _ _ _ hP hD hS (lv_sub hl [0, 1, 3] rfl)
set_option maxHeartbeats 8000000 in
set_option maxRecDepth 100000 in
theorem wv_mBl_init_52 {p : Program} {l : Launch} {e : Env} {s : State} {m : MethodId} {args : Array Value} {below : List Frame} {meth : Method} {c : Code} {D : va_G} {cy : Nat → ClassId} {A : Nat → Prop} {ad : Nat → Nat} {mi MC MS : Nat} {Φ : Mm → Prop} {fu : Nat} (F : FxM p s m args meth c b_Bl_init 6 "CoinKeeper$Block" "<init>" none D cy ad mi A) : Iw_mBl_init_52 p l e s m args below meth c D cy A ad mi MC MS Φ (xv_mBl_init_52 fu MC MS cy ad mi Φ) := by
  obtain ⟨⟨hx, hb, hr, hml, hown, hts, hlocks, hK, hA, hSt, hnm, hex⟩, hT, hMi⟩ := id F
  intro κ σ M x0 x1 x2 x5 y0 y1 hf hkc hks H locs ls hP hD hS hl
  unfold xv_mBl_init_52 at hf
  obtain ⟨fs_, hm_, hlen_, hf⟩ := hf
  obtain ⟨ix_, hi_⟩ := m_ix hm_
  have hE_ := m_set (y := .inr (1, fs_.set 4 (.int y0))) hD hi_
  refine va_putF (D := D) (ci := 1) (v := .int y0) (ty := .int) (C := "CoinKeeper$Block") (T := F_1) (N := 12) hx hb hts i_1 t_1 t_1_ok n_1 hown hK hP hD hS ix_ hi_ rfl 4 (by decide) (hts _ gw_400) (fun _ h9 => h9) rfl hnm rfl (by decide +kernel) rfl rfl hlen_ d_Bl_init_52 (fun H locs hP hD hS => ?_)
  obtain ⟨M1, eM_⟩ : ∃ z, z = mu M y1 (.inr (1, fs_.set 4 (.int y0))) := ⟨_, rfl⟩
  rw [← eM_] at hf hE_
  rw [hE_] at hP hD
  clear hE_ eM_ hi_ hm_
  refine lv_aload_n hx hb d_Bl_init_55 rfl (lv_at hl 0 rfl) ?_
  refine lv_iload hx hb d_Bl_init_56 (lv_at hl 3 rfl) ?_
  refine lv_if_eq (tgt := 67) hx hb d_Bl_init_58 (by decide) (fun cx => ?_) (fun cx => ?_)
  · have hf := ifpP cx hf
    refine lv_aload_n hx hb d_Bl_init_67 rfl (lv_at hl 2 rfl) ?_
    refine lv_bipush (v := 68) hx hb d_Bl_init_68 (by decide) ?_
    obtain ⟨c2, c3, hal_, hnd_, v4, hc, hf⟩ := hf
    refine m_li (va_runSN (As := [.ref x2, .int (68 : Int32)]) (rest := [.ref x0]) ⟨hx, hb, hml, hown, hts⟩ (c_K_word l D cy ad fu x2 c2 c3 (68 : Int32) _ hc H.size) ⟨q_cN hts hSt.2.1 gw_383 gw_1 (List.mem_of_getElem? (i := 6) rfl) hdq_16 ⟨Nat.le_of_ble_eq_true rfl, Nat.le_of_ble_eq_true rfl⟩, hts _ gw_382, trivial⟩ (q_pre (m_subP hP hal_) (m_subD hD hal_ hnd_) hK hSt hS (m_lF hD hS hA hal_) _) rfl rfl hl.1 rfl (lv_room (Nat.le_of_ble_eq_true rfl)) d_Bl_init_70 ⟨hkc, hks⟩) hP hD hS hA hal_ rfl (fun H locs hP hD hS => ?_)
    refine W.widen (k := κ) (n := σ) (Nat.le_refl _) (Nat.le_refl _) ?_
    obtain ⟨M5, eM_, hf⟩ := bnP hf
    have hP : va_P D classes (mw M5) H := by rw [eM_]; exact hP
    have hD : va_D A (mw M5) := by rw [eM_]; exact hD
    clear eM_ hal_ hnd_ hc
    refine lv_i2l hx hb d_Bl_init_73 rfl ?_
    refine lv_topl (fun v6 ev => ?_)
    have hf := bnQ ev hf
    clear ev
    refine lv_ldc2 (v := 4294967295) hx hb hown (hts _ gw_384) d_Bl_init_74 ?_
    refine lv_land hx hb d_Bl_init_77 ?_
    exact wv_mBl_init_78 (fu := fu) F _ _ _ _ _ _ _ _ _ hf hkc hks _ _ _ hP hD hS (lv_sub hl [0, 1, 2, 3] rfl)
  · have hf := ifnP cx hf
    refine lv_ldc2 (v := 1000000) hx hb hown (hts _ gw_380) d_Bl_init_61 ?_
    refine lv_goto (tgt := 78) hx hb d_Bl_init_64 (by decide) ?_
    exact wv_mBl_init_78 (fu := fu) F _ _ _ _ _ _ _ _ _ hf hkc hks _ _ _ hP hD hS (lv_sub hl [0, 1, 2, 3] rfl)
set_option maxHeartbeats 8000000 in
set_option maxRecDepth 100000 in
theorem wv_mBl_init_34 {p : Program} {l : Launch} {e : Env} {s : State} {m : MethodId} {args : Array Value} {below : List Frame} {meth : Method} {c : Code} {D : va_G} {cy : Nat → ClassId} {A : Nat → Prop} {ad : Nat → Nat} {mi MC MS : Nat} {Φ : Mm → Prop} {fu : Nat} (F : FxM p s m args meth c b_Bl_init 6 "CoinKeeper$Block" "<init>" none D cy ad mi A) : Iw_mBl_init_34 p l e s m args below meth c D cy A ad mi MC MS Φ (xv_mBl_init_34 fu MC MS cy ad mi Φ) := by
  obtain ⟨⟨hx, hb, hr, hml, hown, hts, hlocks, hK, hA, hSt, hnm, hex⟩, hT, hMi⟩ := id F
  intro κ σ M x0 x1 x2 y0 hf hkc hks H locs ls hP hD hS hl
  unfold xv_mBl_init_34 at hf
  refine lv_istore (lv' := [(5, .int y0), (0, .ref x0), (1, .ref x1), (2, .ref x2)]) hx hb d_Bl_init_34 hl (by decide) rfl (fun ls hl => ?_)
  refine lv_aload_n hx hb d_Bl_init_36 rfl (lv_at hl 1 rfl) ?_
  refine lv_iload hx hb d_Bl_init_37 (lv_at hl 0 rfl) ?_
  refine lv_if_eq (tgt := 46) hx hb d_Bl_init_39 (by decide) (fun cx => ?_) (fun cx => ?_)
  · have hf := ifpP cx hf
    refine lv_aload_n hx hb d_Bl_init_46 rfl (lv_at hl 2 rfl) ?_
    obtain ⟨fs_, hm_, v1, hv_, hf⟩ := hf
    obtain ⟨ix_, hi_⟩ := m_ix hm_
    refine va_get (D := D) (ci := 1) (v := .int v1) (C := "CoinKeeper$Block") (T := F_1) (N := 12) hx hb hts i_1 hown hK hP ix_ hi_ rfl 4 (by decide) (hts _ gw_400) (fun _ h9 => h9) hv_ d_Bl_init_47 ?_
    clear hv_ hi_ hm_
    refine lv_iconst (v := 1) hx hb d_Bl_init_50 (by decide) ?_
    refine lv_iadd hx hb d_Bl_init_51 ?_
    exact wv_mBl_init_52 (fu := fu) F _ _ _ _ _ _ _ _ _ hf hkc hks _ _ _ hP hD hS (lv_sub hl [1, 2, 3, 0] rfl)
  · have hf := ifnP cx hf
    refine lv_iconst (v := 0) hx hb d_Bl_init_42 (by decide) ?_
    refine lv_goto (tgt := 52) hx hb d_Bl_init_43 (by decide) ?_
    exact wv_mBl_init_52 (fu := fu) F _ _ _ _ _ _ _ _ _ hf hkc hks _ _ _ hP hD hS (lv_sub hl [1, 2, 3, 0] rfl)
set_option maxHeartbeats 8000000 in
set_option maxRecDepth 100000 in
theorem wew_mBl_init {p : Program} {l : Launch} {e : Env} {s : State} {m : MethodId} {args : Array Value} {below : List Frame} {meth : Method} {c : Code} {D : va_G} {cy : Nat → ClassId} {A : Nat → Prop} {ad : Nat → Nat} {mi MC MS : Nat} {Φ : Mm → Prop} {fu : Nat} (F : FxM p s m args meth c b_Bl_init 6 "CoinKeeper$Block" "<init>" none D cy ad mi A) : Iw_mBl_init_e p l e s m args below meth c D cy A ad mi MC MS Φ (xw_mBl_init fu MC MS cy ad mi Φ) := by
  obtain ⟨⟨hx, hb, hr, hml, hown, hts, hlocks, hK, hA, hSt, hnm, hex⟩, hT, hMi⟩ := id F
  intro κ σ M a0 a1 a2 a3 a4 hf hkc hks H locs ls hP hD hS hl
  unfold xw_mBl_init at hf
  refine lv_aload_n hx hb d_Bl_init_0 rfl (lv_at hl 0 rfl) ?_
  refine W.objInit hx hb hown (hts _ gw_379) (hts _ gw_36) (hts _ gw_37) rfl (by rw [hml]; exact hl.1) rfl d_Bl_init_1 (Nat.le_of_ble_eq_true rfl) (Nat.le_of_ble_eq_true rfl) ?_
  refine W.eq (g2 := F0 m 4 ls []) rfl ?_
  refine lv_aload_n hx hb d_Bl_init_4 rfl (lv_at hl 0 rfl) ?_
  refine lv_aload_n hx hb d_Bl_init_5 rfl (lv_at hl 1 rfl) ?_
  obtain ⟨fs_, hm_, hlen_, hf⟩ := hf
  obtain ⟨ix_, hi_⟩ := m_ix hm_
  have hE_ := m_set (y := .inr (1, fs_.set 0 (.ref a1))) hD hi_
  refine va_putF (D := D) (ci := 1) (v := .ref a1) (ty := .object "CoinKeeper$Block") (C := "CoinKeeper$Block") (T := F_1) (N := 12) hx hb hts i_1 t_1 t_1_ok n_1 hown hK hP hD hS ix_ hi_ rfl 0 (by decide) (hts _ gw_390) (fun _ h9 => h9) rfl hnm rfl (by decide +kernel) rfl rfl hlen_ d_Bl_init_6 (fun H locs hP hD hS => ?_)
  obtain ⟨M1, eM_⟩ : ∃ z, z = mu M a0 (.inr (1, fs_.set 0 (.ref a1))) := ⟨_, rfl⟩
  rw [← eM_] at hf hE_
  rw [hE_] at hP hD
  clear hE_ eM_ hi_ hm_
  refine lv_aload_n hx hb d_Bl_init_9 rfl (lv_at hl 0 rfl) ?_
  refine lv_aload_n hx hb d_Bl_init_10 rfl (lv_at hl 2 rfl) ?_
  obtain ⟨fs_, hm_, hlen_, hf⟩ := hf
  obtain ⟨ix_, hi_⟩ := m_ix hm_
  have hE_ := m_set (y := .inr (1, fs_.set 1 (.ref a2))) hD hi_
  refine va_putF (D := D) (ci := 1) (v := .ref a2) (ty := .array .byte) (C := "CoinKeeper$Block") (T := F_1) (N := 12) hx hb hts i_1 t_1 t_1_ok n_1 hown hK hP hD hS ix_ hi_ rfl 1 (by decide) (hts _ gw_392) (fun _ h9 => h9) rfl hnm rfl (by decide +kernel) rfl rfl hlen_ d_Bl_init_11 (fun H locs hP hD hS => ?_)
  obtain ⟨M2, eM_⟩ : ∃ z, z = mu M1 a0 (.inr (1, fs_.set 1 (.ref a2))) := ⟨_, rfl⟩
  rw [← eM_] at hf hE_
  rw [hE_] at hP hD
  clear hE_ eM_ hi_ hm_
  refine lv_aload_n hx hb d_Bl_init_14 rfl (lv_at hl 0 rfl) ?_
  refine lv_aload_n hx hb d_Bl_init_15 rfl (lv_at hl 3 rfl) ?_
  obtain ⟨fs_, hm_, hlen_, hf⟩ := hf
  obtain ⟨ix_, hi_⟩ := m_ix hm_
  have hE_ := m_set (y := .inr (1, fs_.set 2 (.ref a3))) hD hi_
  refine va_putF (D := D) (ci := 1) (v := .ref a3) (ty := .array .byte) (C := "CoinKeeper$Block") (T := F_1) (N := 12) hx hb hts i_1 t_1 t_1_ok n_1 hown hK hP hD hS ix_ hi_ rfl 2 (by decide) (hts _ gw_395) (fun _ h9 => h9) rfl hnm rfl (by decide +kernel) rfl rfl hlen_ d_Bl_init_16 (fun H locs hP hD hS => ?_)
  obtain ⟨M3, eM_⟩ : ∃ z, z = mu M2 a0 (.inr (1, fs_.set 2 (.ref a3))) := ⟨_, rfl⟩
  rw [← eM_] at hf hE_
  rw [hE_] at hP hD
  clear hE_ eM_ hi_ hm_
  refine lv_aload_n hx hb d_Bl_init_19 rfl (lv_at hl 0 rfl) ?_
  refine lv_aload hx hb d_Bl_init_20 (lv_at hl 4 rfl) ?_
  obtain ⟨fs_, hm_, hlen_, hf⟩ := hf
  obtain ⟨ix_, hi_⟩ := m_ix hm_
  have hE_ := m_set (y := .inr (1, fs_.set 3 (.ref a4))) hD hi_
  refine va_putF (D := D) (ci := 1) (v := .ref a4) (ty := .array .byte) (C := "CoinKeeper$Block") (T := F_1) (N := 12) hx hb hts i_1 t_1 t_1_ok n_1 hown hK hP hD hS ix_ hi_ rfl 3 (by decide) (hts _ gw_397) (fun _ h9 => h9) rfl hnm rfl (by decide +kernel) rfl rfl hlen_ d_Bl_init_22 (fun H locs hP hD hS => ?_)
  obtain ⟨M4, eM_⟩ : ∃ z, z = mu M3 a0 (.inr (1, fs_.set 3 (.ref a4))) := ⟨_, rfl⟩
  rw [← eM_] at hf hE_
  rw [hE_] at hP hD
  clear hE_ eM_ hi_ hm_
  refine lv_aload_n hx hb d_Bl_init_25 rfl (lv_at hl 1 rfl) ?_
  refine lv_ifnonnull (tgt := 33) hx hb d_Bl_init_26 (by decide) ?_
  refine lv_iconst (v := 0) hx hb d_Bl_init_33 (by decide) ?_
  exact wv_mBl_init_34 (fu := fu) F _ _ _ _ _ _ _ hf hkc hks _ _ _ hP hD hS (lv_sub hl [0, 1, 2] rfl)
theorem cw_mBl_init (l : Launch) (D : va_G) (cy : Nat → ClassId) (ad : Nat → Nat) (mi fu MC MS : Nat) (a0 : Nat) (a1 : Nat) (a2 : Nat) (a3 : Nat) (a4 : Nat) (M : Mm) (Φ : Mm → Prop) (hf : xw_mBl_init fu MC MS cy ad mi Φ 0 0 M a0 a1 a2 a3 a4) (sz : Nat) : Met l ({ cls := "CoinKeeper$Block", name := "<init>", desc := "(LCoinKeeper$Block;[B[B[B)V" } : Jvm.MethodName) (.code ({ cls := "CoinKeeper$Block", name := "<init>", desc := "(LCoinKeeper$Block;[B[B[B)V" } : Jvm.MethodName) b_Bl_init 6 none :: gw) (rmw_mBl_init MC MS) (va_Pc [.ref a0, .ref a1, .ref a2, .ref a3, .ref a4] (PrM D cy ad mi (mw M) sz)) (va_Qv Φ (fun u t => Po D cy (va_A (mw M) sz) (mw u) t) (va_A (mw M) sz)) MC MS (va_A (mw M) sz) :=
  q_metM (Qc := fun A => va_Qv Φ (fun u t => Po D cy A (mw u) t) A) (by decide) rfl rfl (Nat.le_of_ble_eq_true rfl) (fun p e s m below meth c ls F hP hD hS hl => wew_mBl_init (fu := fu) F 0 0 M a0 a1 a2 a3 a4 hf (Nat.zero_le _) (Nat.zero_le _) _ _ _ hP hD hS hl) sz
abbrev rmw_mBl_init_z1 (MC MS : Nat) : Room := { frames := 1, cells := MC, slots := MS, locals := 27 }
def Iw_mBl_init_z1_122 (p : Program) (l : Launch) (e : Env) (s : State) (m : MethodId) (args : Array Value) (below : List Frame) (meth : Method) (c : Code) (D : va_G) (cy : Nat → ClassId) (A : Nat → Prop) (ad : Nat → Nat) (mi MC MS : Nat) (Φ : Mm → Prop) (k : Nat → Nat → Mm → Int64 → Int64 → Nat → Prop) : Prop :=
  ∀ (κ σ : Nat) (M : Mm) (y0 : Int64) (y1 : Int64) (y2 : Nat), k κ σ M y0 y1 y2 → κ ≤ MC → σ ≤ MS → ∀ (H : Heap) (locs : List Loc) (ls : Array Slot), va_P D classes (mw M) H → va_D A (mw M) → va_S A s.heap H locs → lv_has ls 6 [] → W p l e (rmw_mBl_init_z1 MC MS) s m args below meth c H locs κ σ (MQ below (va_Qv Φ (fun u t => Po D cy A (mw u) t) A) args s MC MS A) (F0 m 122 ls [.long y0, .long y1, .ref y2])
def Iw_mBl_init_z1_98 (p : Program) (l : Launch) (e : Env) (s : State) (m : MethodId) (args : Array Value) (below : List Frame) (meth : Method) (c : Code) (D : va_G) (cy : Nat → ClassId) (A : Nat → Prop) (ad : Nat → Nat) (mi MC MS : Nat) (Φ : Mm → Prop) (k : Nat → Nat → Mm → Nat → Int32 → Int32 → Nat → Prop) : Prop :=
  ∀ (κ σ : Nat) (M : Mm) (x0 : Nat) (x5 : Int32) (y0 : Int32) (y1 : Nat), k κ σ M x0 x5 y0 y1 → κ ≤ MC → σ ≤ MS → ∀ (H : Heap) (locs : List Loc) (ls : Array Slot), va_P D classes (mw M) H → va_D A (mw M) → va_S A s.heap H locs → lv_has ls 6 [(0, .ref x0), (1, .null), (5, .int x5)] → W p l e (rmw_mBl_init_z1 MC MS) s m args below meth c H locs κ σ (MQ below (va_Qv Φ (fun u t => Po D cy A (mw u) t) A) args s MC MS A) (F0 m 98 ls [.int y0, .ref y1])
def Iw_mBl_init_z1_78 (p : Program) (l : Launch) (e : Env) (s : State) (m : MethodId) (args : Array Value) (below : List Frame) (meth : Method) (c : Code) (D : va_G) (cy : Nat → ClassId) (A : Nat → Prop) (ad : Nat → Nat) (mi MC MS : Nat) (Φ : Mm → Prop) (k : Nat → Nat → Mm → Nat → Nat → Int32 → Int64 → Nat → Prop) : Prop :=
  ∀ (κ σ : Nat) (M : Mm) (x0 : Nat) (x2 : Nat) (x5 : Int32) (y0 : Int64) (y1 : Nat), k κ σ M x0 x2 x5 y0 y1 → κ ≤ MC → σ ≤ MS → ∀ (H : Heap) (locs : List Loc) (ls : Array Slot), va_P D classes (mw M) H → va_D A (mw M) → va_S A s.heap H locs → lv_has ls 6 [(0, .ref x0), (1, .null), (2, .ref x2), (5, .int x5)] → W p l e (rmw_mBl_init_z1 MC MS) s m args below meth c H locs κ σ (MQ below (va_Qv Φ (fun u t => Po D cy A (mw u) t) A) args s MC MS A) (F0 m 78 ls [.long y0, .ref y1])
def Iw_mBl_init_z1_52 (p : Program) (l : Launch) (e : Env) (s : State) (m : MethodId) (args : Array Value) (below : List Frame) (meth : Method) (c : Code) (D : va_G) (cy : Nat → ClassId) (A : Nat → Prop) (ad : Nat → Nat) (mi MC MS : Nat) (Φ : Mm → Prop) (k : Nat → Nat → Mm → Nat → Nat → Int32 → Int32 → Nat → Prop) : Prop :=
  ∀ (κ σ : Nat) (M : Mm) (x0 : Nat) (x2 : Nat) (x5 : Int32) (y0 : Int32) (y1 : Nat), k κ σ M x0 x2 x5 y0 y1 → κ ≤ MC → σ ≤ MS → ∀ (H : Heap) (locs : List Loc) (ls : Array Slot), va_P D classes (mw M) H → va_D A (mw M) → va_S A s.heap H locs → lv_has ls 6 [(0, .ref x0), (1, .null), (2, .ref x2), (5, .int x5)] → W p l e (rmw_mBl_init_z1 MC MS) s m args below meth c H locs κ σ (MQ below (va_Qv Φ (fun u t => Po D cy A (mw u) t) A) args s MC MS A) (F0 m 52 ls [.int y0, .ref y1])
def Iw_mBl_init_z1_34 (p : Program) (l : Launch) (e : Env) (s : State) (m : MethodId) (args : Array Value) (below : List Frame) (meth : Method) (c : Code) (D : va_G) (cy : Nat → ClassId) (A : Nat → Prop) (ad : Nat → Nat) (mi MC MS : Nat) (Φ : Mm → Prop) (k : Nat → Nat → Mm → Nat → Nat → Int32 → Prop) : Prop :=
  ∀ (κ σ : Nat) (M : Mm) (x0 : Nat) (x2 : Nat) (y0 : Int32), k κ σ M x0 x2 y0 → κ ≤ MC → σ ≤ MS → ∀ (H : Heap) (locs : List Loc) (ls : Array Slot), va_P D classes (mw M) H → va_D A (mw M) → va_S A s.heap H locs → lv_has ls 6 [(0, .ref x0), (1, .null), (2, .ref x2)] → W p l e (rmw_mBl_init_z1 MC MS) s m args below meth c H locs κ σ (MQ below (va_Qv Φ (fun u t => Po D cy A (mw u) t) A) args s MC MS A) (F0 m 34 ls [.int y0])
def Iw_mBl_init_z1_e (p : Program) (l : Launch) (e : Env) (s : State) (m : MethodId) (args : Array Value) (below : List Frame) (meth : Method) (c : Code) (D : va_G) (cy : Nat → ClassId) (A : Nat → Prop) (ad : Nat → Nat) (mi MC MS : Nat) (Φ : Mm → Prop) (k : Nat → Nat → Mm → Nat → Nat → Nat → Nat → Prop) : Prop :=
  ∀ (κ σ : Nat) (M : Mm) (a0 : Nat) (a2 : Nat) (a3 : Nat) (a4 : Nat), k κ σ M a0 a2 a3 a4 → κ ≤ MC → σ ≤ MS → ∀ (H : Heap) (locs : List Loc) (ls : Array Slot), va_P D classes (mw M) H → va_D A (mw M) → va_S A s.heap H locs → lv_has ls 6 [(0, .ref a0), (1, .null), (2, .ref a2), (3, .ref a3), (4, .ref a4)] → W p l e (rmw_mBl_init_z1 MC MS) s m args below meth c H locs κ σ (MQ below (va_Qv Φ (fun u t => Po D cy A (mw u) t) A) args s MC MS A) (F0 m 0 ls [])
set_option maxHeartbeats 8000000 in
set_option maxRecDepth 100000 in
theorem wv_mBl_init_z1_122 {p : Program} {l : Launch} {e : Env} {s : State} {m : MethodId} {args : Array Value} {below : List Frame} {meth : Method} {c : Code} {D : va_G} {cy : Nat → ClassId} {A : Nat → Prop} {ad : Nat → Nat} {mi MC MS : Nat} {Φ : Mm → Prop} {fu : Nat} (F : FxM p s m args meth c b_Bl_init 6 "CoinKeeper$Block" "<init>" none D cy ad mi A) : Iw_mBl_init_z1_122 p l e s m args below meth c D cy A ad mi MC MS Φ (xv_mBl_init_z1_122 fu MC MS cy ad mi Φ) := by
  obtain ⟨⟨hx, hb, hr, hml, hown, hts, hlocks, hK, hA, hSt, hnm, hex⟩, hT, hMi⟩ := id F
  intro κ σ M y0 y1 y2 hf hkc hks H locs ls hP hD hS hl
  unfold xv_mBl_init_z1_122 at hf
  refine lv_ladd hx hb d_Bl_init_122 ?_
  refine lv_topl (fun v1 ev => ?_)
  have hf := bnQ ev hf
  clear ev
  obtain ⟨fs_, hm_, hlen_, hf⟩ := hf
  obtain ⟨ix_, hi_⟩ := m_ix hm_
  have hE_ := m_set (y := .inr (1, fs_.set 7 (.long v1))) hD hi_
  refine va_putF (D := D) (ci := 1) (v := .long v1) (ty := .long) (C := "CoinKeeper$Block") (T := F_1) (N := 12) hx hb hts i_1 t_1 t_1_ok n_1 hown hK hP hD hS ix_ hi_ rfl 7 (by decide) (hts _ gw_406) (fun _ h9 => h9) rfl hnm rfl (by decide +kernel) rfl rfl hlen_ d_Bl_init_123 (fun H locs hP hD hS => ?_)
  obtain ⟨M2, eM_⟩ : ∃ z, z = mu M y2 (.inr (1, fs_.set 7 (.long v1))) := ⟨_, rfl⟩
  rw [← eM_] at hf hE_
  rw [hE_] at hP hD
  clear hE_ eM_ hi_ hm_
  refine W.widen (k := MC) (n := MS) hkc hks ?_
  exact m_rv hf hx hb hr hlocks hK hP hD hS d_Bl_init_126
set_option maxHeartbeats 8000000 in
set_option maxRecDepth 100000 in
theorem wv_mBl_init_z1_98 {p : Program} {l : Launch} {e : Env} {s : State} {m : MethodId} {args : Array Value} {below : List Frame} {meth : Method} {c : Code} {D : va_G} {cy : Nat → ClassId} {A : Nat → Prop} {ad : Nat → Nat} {mi MC MS : Nat} {Φ : Mm → Prop} {fu : Nat} (F : FxM p s m args meth c b_Bl_init 6 "CoinKeeper$Block" "<init>" none D cy ad mi A) : Iw_mBl_init_z1_98 p l e s m args below meth c D cy A ad mi MC MS Φ (xv_mBl_init_z1_98 fu MC MS cy ad mi Φ) := by
  obtain ⟨⟨hx, hb, hr, hml, hown, hts, hlocks, hK, hA, hSt, hnm, hex⟩, hT, hMi⟩ := id F
  intro κ σ M x0 x5 y0 y1 hf hkc hks H locs ls hP hD hS hl
  unfold xv_mBl_init_z1_98 at hf
  obtain ⟨fs_, hm_, hlen_, hf⟩ := hf
  obtain ⟨ix_, hi_⟩ := m_ix hm_
  have hE_ := m_set (y := .inr (1, fs_.set 6 (.int y0))) hD hi_
  refine va_putF (D := D) (ci := 1) (v := .int y0) (ty := .int) (C := "CoinKeeper$Block") (T := F_1) (N := 12) hx hb hts i_1 t_1 t_1_ok n_1 hown hK hP hD hS ix_ hi_ rfl 6 (by decide) (hts _ gw_404) (fun _ h9 => h9) rfl hnm rfl (by decide +kernel) rfl rfl hlen_ d_Bl_init_98 (fun H locs hP hD hS => ?_)
  obtain ⟨M1, eM_⟩ : ∃ z, z = mu M y1 (.inr (1, fs_.set 6 (.int y0))) := ⟨_, rfl⟩
  rw [← eM_] at hf hE_
  rw [hE_] at hP hD
  clear hE_ eM_ hi_ hm_
  refine lv_aload_n hx hb d_Bl_init_101 rfl (lv_at hl 0 rfl) ?_
  refine lv_aload_n hx hb d_Bl_init_102 rfl (lv_at hl 0 rfl) ?_
  obtain ⟨fs_, hm_, v2, hv_, hf⟩ := hf
  obtain ⟨ix_, hi_⟩ := m_ix hm_
  refine va_get (D := D) (ci := 1) (v := .int v2) (C := "CoinKeeper$Block") (T := F_1) (N := 12) hx hb hts i_1 hown hK hP ix_ hi_ rfl 6 (by decide) (hts _ gw_404) (fun _ h9 => h9) hv_ d_Bl_init_103 ?_
  clear hv_ hi_ hm_
  obtain ⟨hal_, hnd_, v3, hc, hf⟩ := hf
  refine m_ll (va_runS (As := [.int v2]) (rest := [.ref x0]) ⟨hx, hb, hml, hown, hts⟩ (c_Bl_workOf l D cy ad fu v2 _ hc H.size) ⟨q_cB hts gw_388 gw_13 gw_386 hdq_26 ⟨Nat.le_of_ble_eq_true rfl, Nat.le_of_ble_eq_true rfl⟩, hts _ gw_387⟩ (q_pre (m_subP hP hal_) (m_subD hD hal_ hnd_) hK hSt hS (m_lF hD hS hA hal_) _) rfl rfl hl.1 rfl (lv_room (Nat.le_of_ble_eq_true rfl)) d_Bl_init_106 ⟨hkc, hks⟩) hP hD hS hA hal_ rfl (fun H locs hP hD hS => ?_)
  refine W.widen (k := κ) (n := σ) (Nat.le_refl _) (Nat.le_refl _) ?_
  obtain ⟨M4, eM_, hf⟩ := bnP hf
  have hP : va_P D classes (mw M4) H := by rw [eM_]; exact hP
  have hD : va_D A (mw M4) := by rw [eM_]; exact hD
  clear eM_ hal_ hnd_ hc
  refine lv_iload hx hb d_Bl_init_109 (lv_at hl 2 rfl) ?_
  refine lv_if_eq (tgt := 118) hx hb d_Bl_init_111 (by decide) (fun cx => ?_) (fun cx => ?_)
  · have hf := ifpP cx hf
    refine lv_aload_nN hx hb d_Bl_init_118 rfl (lv_at hl 1 rfl) ?_
    exact hf.elim
  · have hf := ifnP cx hf
    refine lv_lconst (v := 0) hx hb d_Bl_init_114 (by decide) ?_
    refine lv_goto (tgt := 122) hx hb d_Bl_init_115 (by decide) ?_
    exact wv_mBl_init_z1_122 (fu := fu) F _ _ _ _ _ _ hf hkc hks _ _ _ hP hD hS (lv_sub hl [] rfl)
set_option maxHeartbeats 8000000 in
set_option maxRecDepth 100000 in
theorem wv_mBl_init_z1_78 {p : Program} {l : Launch} {e : Env} {s : State} {m : MethodId} {args : Array Value} {below : List Frame} {meth : Method} {c : Code} {D : va_G} {cy : Nat → ClassId} {A : Nat → Prop} {ad : Nat → Nat} {mi MC MS : Nat} {Φ : Mm → Prop} {fu : Nat} (F : FxM p s m args meth c b_Bl_init 6 "CoinKeeper$Block" "<init>" none D cy ad mi A) : Iw_mBl_init_z1_78 p l e s m args below meth c D cy A ad mi MC MS Φ (xv_mBl_init_z1_78 fu MC MS cy ad mi Φ) := by
  obtain ⟨⟨hx, hb, hr, hml, hown, hts, hlocks, hK, hA, hSt, hnm, hex⟩, hT, hMi⟩ := id F
  intro κ σ M x0 x2 x5 y0 y1 hf hkc hks H locs ls hP hD hS hl
  unfold xv_mBl_init_z1_78 at hf
  obtain ⟨fs_, hm_, hlen_, hf⟩ := hf
  obtain ⟨ix_, hi_⟩ := m_ix hm_
  have hE_ := m_set (y := .inr (1, fs_.set 5 (.long y0))) hD hi_
  refine va_putF (D := D) (ci := 1) (v := .long y0) (ty := .long) (C := "CoinKeeper$Block") (T := F_1) (N := 12) hx hb hts i_1 t_1 t_1_ok n_1 hown hK hP hD hS ix_ hi_ rfl 5 (by decide) (hts _ gw_402) (fun _ h9 => h9) rfl hnm rfl (by decide +kernel) rfl rfl hlen_ d_Bl_init_78 (fun H locs hP hD hS => ?_)
  obtain ⟨M1, eM_⟩ : ∃ z, z = mu M y1 (.inr (1, fs_.set 5 (.long y0))) := ⟨_, rfl⟩
  rw [← eM_] at hf hE_
  rw [hE_] at hP hD
  clear hE_ eM_ hi_ hm_
  refine lv_aload_n hx hb d_Bl_init_81 rfl (lv_at hl 0 rfl) ?_
  refine lv_iload hx hb d_Bl_init_82 (lv_at hl 3 rfl) ?_
  refine lv_if_eq (tgt := 92) hx hb d_Bl_init_84 (by decide) (fun cx => ?_) (fun cx => ?_)
  · have hf := ifpP cx hf
    refine lv_aload_n hx hb d_Bl_init_92 rfl (lv_at hl 2 rfl) ?_
    refine lv_bipush (v := 72) hx hb d_Bl_init_93 (by decide) ?_
    obtain ⟨c2, c3, hal_, hnd_, v4, hc, hf⟩ := hf
    refine m_li (va_runSN (As := [.ref x2, .int (72 : Int32)]) (rest := [.ref x0]) ⟨hx, hb, hml, hown, hts⟩ (c_K_word l D cy ad fu x2 c2 c3 (72 : Int32) _ hc H.size) ⟨q_cN hts hSt.2.1 gw_383 gw_1 (List.mem_of_getElem? (i := 6) rfl) hdq_16 ⟨Nat.le_of_ble_eq_true rfl, Nat.le_of_ble_eq_true rfl⟩, hts _ gw_382, trivial⟩ (q_pre (m_subP hP hal_) (m_subD hD hal_ hnd_) hK hSt hS (m_lF hD hS hA hal_) _) rfl rfl hl.1 rfl (lv_room (Nat.le_of_ble_eq_true rfl)) d_Bl_init_95 ⟨hkc, hks⟩) hP hD hS hA hal_ rfl (fun H locs hP hD hS => ?_)
    refine W.widen (k := κ) (n := σ) (Nat.le_refl _) (Nat.le_refl _) ?_
    obtain ⟨M5, eM_, hf⟩ := bnP hf
    have hP : va_P D classes (mw M5) H := by rw [eM_]; exact hP
    have hD : va_D A (mw M5) := by rw [eM_]; exact hD
    clear eM_ hal_ hnd_ hc
    exact wv_mBl_init_z1_98 (fu := fu) F _ _ _ _ _ _ _ hf hkc hks _ _ _ hP hD hS (lv_sub hl [0, 1, 3] rfl)
  · have hf := ifnP cx hf
    refine lv_ldc (v := 545259519) hx hb hown (hts _ gw_385) d_Bl_init_87 ?_
    refine lv_goto (tgt := 98) hx hb d_Bl_init_89 (by decide) ?_
    exact wv_mBl_init_z1_98 (fu := fu) F _ _ _ _ _ _ _ hf hkc hks _ _ _ hP hD hS (lv_sub hl [0, 1, 3] rfl)
set_option maxHeartbeats 8000000 in
set_option maxRecDepth 100000 in
theorem wv_mBl_init_z1_52 {p : Program} {l : Launch} {e : Env} {s : State} {m : MethodId} {args : Array Value} {below : List Frame} {meth : Method} {c : Code} {D : va_G} {cy : Nat → ClassId} {A : Nat → Prop} {ad : Nat → Nat} {mi MC MS : Nat} {Φ : Mm → Prop} {fu : Nat} (F : FxM p s m args meth c b_Bl_init 6 "CoinKeeper$Block" "<init>" none D cy ad mi A) : Iw_mBl_init_z1_52 p l e s m args below meth c D cy A ad mi MC MS Φ (xv_mBl_init_z1_52 fu MC MS cy ad mi Φ) := by
  obtain ⟨⟨hx, hb, hr, hml, hown, hts, hlocks, hK, hA, hSt, hnm, hex⟩, hT, hMi⟩ := id F
  intro κ σ M x0 x2 x5 y0 y1 hf hkc hks H locs ls hP hD hS hl
  unfold xv_mBl_init_z1_52 at hf
  obtain ⟨fs_, hm_, hlen_, hf⟩ := hf
  obtain ⟨ix_, hi_⟩ := m_ix hm_
  have hE_ := m_set (y := .inr (1, fs_.set 4 (.int y0))) hD hi_
  refine va_putF (D := D) (ci := 1) (v := .int y0) (ty := .int) (C := "CoinKeeper$Block") (T := F_1) (N := 12) hx hb hts i_1 t_1 t_1_ok n_1 hown hK hP hD hS ix_ hi_ rfl 4 (by decide) (hts _ gw_400) (fun _ h9 => h9) rfl hnm rfl (by decide +kernel) rfl rfl hlen_ d_Bl_init_52 (fun H locs hP hD hS => ?_)
  obtain ⟨M1, eM_⟩ : ∃ z, z = mu M y1 (.inr (1, fs_.set 4 (.int y0))) := ⟨_, rfl⟩
  rw [← eM_] at hf hE_
  rw [hE_] at hP hD
  clear hE_ eM_ hi_ hm_
  refine lv_aload_n hx hb d_Bl_init_55 rfl (lv_at hl 0 rfl) ?_
  refine lv_iload hx hb d_Bl_init_56 (lv_at hl 3 rfl) ?_
  refine lv_if_eq (tgt := 67) hx hb d_Bl_init_58 (by decide) (fun cx => ?_) (fun cx => ?_)
  · have hf := ifpP cx hf
    refine lv_aload_n hx hb d_Bl_init_67 rfl (lv_at hl 2 rfl) ?_
    refine lv_bipush (v := 68) hx hb d_Bl_init_68 (by decide) ?_
    obtain ⟨c2, c3, hal_, hnd_, v4, hc, hf⟩ := hf
    refine m_li (va_runSN (As := [.ref x2, .int (68 : Int32)]) (rest := [.ref x0]) ⟨hx, hb, hml, hown, hts⟩ (c_K_word l D cy ad fu x2 c2 c3 (68 : Int32) _ hc H.size) ⟨q_cN hts hSt.2.1 gw_383 gw_1 (List.mem_of_getElem? (i := 6) rfl) hdq_16 ⟨Nat.le_of_ble_eq_true rfl, Nat.le_of_ble_eq_true rfl⟩, hts _ gw_382, trivial⟩ (q_pre (m_subP hP hal_) (m_subD hD hal_ hnd_) hK hSt hS (m_lF hD hS hA hal_) _) rfl rfl hl.1 rfl (lv_room (Nat.le_of_ble_eq_true rfl)) d_Bl_init_70 ⟨hkc, hks⟩) hP hD hS hA hal_ rfl (fun H locs hP hD hS => ?_)
    refine W.widen (k := κ) (n := σ) (Nat.le_refl _) (Nat.le_refl _) ?_
    obtain ⟨M5, eM_, hf⟩ := bnP hf
    have hP : va_P D classes (mw M5) H := by rw [eM_]; exact hP
    have hD : va_D A (mw M5) := by rw [eM_]; exact hD
    clear eM_ hal_ hnd_ hc
    refine lv_i2l hx hb d_Bl_init_73 rfl ?_
    refine lv_topl (fun v6 ev => ?_)
    have hf := bnQ ev hf
    clear ev
    refine lv_ldc2 (v := 4294967295) hx hb hown (hts _ gw_384) d_Bl_init_74 ?_
    refine lv_land hx hb d_Bl_init_77 ?_
    exact wv_mBl_init_z1_78 (fu := fu) F _ _ _ _ _ _ _ _ hf hkc hks _ _ _ hP hD hS (lv_sub hl [0, 1, 2, 3] rfl)
  · have hf := ifnP cx hf
    refine lv_ldc2 (v := 1000000) hx hb hown (hts _ gw_380) d_Bl_init_61 ?_
    refine lv_goto (tgt := 78) hx hb d_Bl_init_64 (by decide) ?_
    exact wv_mBl_init_z1_78 (fu := fu) F _ _ _ _ _ _ _ _ hf hkc hks _ _ _ hP hD hS (lv_sub hl [0, 1, 2, 3] rfl)
set_option maxHeartbeats 8000000 in
set_option maxRecDepth 100000 in
theorem wv_mBl_init_z1_34 {p : Program} {l : Launch} {e : Env} {s : State} {m : MethodId} {args : Array Value} {below : List Frame} {meth : Method} {c : Code} {D : va_G} {cy : Nat → ClassId} {A : Nat → Prop} {ad : Nat → Nat} {mi MC MS : Nat} {Φ : Mm → Prop} {fu : Nat} (F : FxM p s m args meth c b_Bl_init 6 "CoinKeeper$Block" "<init>" none D cy ad mi A) : Iw_mBl_init_z1_34 p l e s m args below meth c D cy A ad mi MC MS Φ (xv_mBl_init_z1_34 fu MC MS cy ad mi Φ) := by
  obtain ⟨⟨hx, hb, hr, hml, hown, hts, hlocks, hK, hA, hSt, hnm, hex⟩, hT, hMi⟩ := id F
  intro κ σ M x0 x2 y0 hf hkc hks H locs ls hP hD hS hl
  unfold xv_mBl_init_z1_34 at hf
  refine lv_istore (lv' := [(5, .int y0), (0, .ref x0), (1, .null), (2, .ref x2)]) hx hb d_Bl_init_34 hl (by decide) rfl (fun ls hl => ?_)
  refine lv_aload_n hx hb d_Bl_init_36 rfl (lv_at hl 1 rfl) ?_
  refine lv_iload hx hb d_Bl_init_37 (lv_at hl 0 rfl) ?_
  refine lv_if_eq (tgt := 46) hx hb d_Bl_init_39 (by decide) (fun cx => ?_) (fun cx => ?_)
  · have hf := ifpP cx hf
    refine lv_aload_nN hx hb d_Bl_init_46 rfl (lv_at hl 2 rfl) ?_
    exact hf.elim
  · have hf := ifnP cx hf
    refine lv_iconst (v := 0) hx hb d_Bl_init_42 (by decide) ?_
    refine lv_goto (tgt := 52) hx hb d_Bl_init_43 (by decide) ?_
    exact wv_mBl_init_z1_52 (fu := fu) F _ _ _ _ _ _ _ _ hf hkc hks _ _ _ hP hD hS (lv_sub hl [1, 2, 3, 0] rfl)
set_option maxHeartbeats 8000000 in
set_option maxRecDepth 100000 in
theorem wew_mBl_init_z1 {p : Program} {l : Launch} {e : Env} {s : State} {m : MethodId} {args : Array Value} {below : List Frame} {meth : Method} {c : Code} {D : va_G} {cy : Nat → ClassId} {A : Nat → Prop} {ad : Nat → Nat} {mi MC MS : Nat} {Φ : Mm → Prop} {fu : Nat} (F : FxM p s m args meth c b_Bl_init 6 "CoinKeeper$Block" "<init>" none D cy ad mi A) : Iw_mBl_init_z1_e p l e s m args below meth c D cy A ad mi MC MS Φ (xw_mBl_init_z1 fu MC MS cy ad mi Φ) := by
  obtain ⟨⟨hx, hb, hr, hml, hown, hts, hlocks, hK, hA, hSt, hnm, hex⟩, hT, hMi⟩ := id F
  intro κ σ M a0 a2 a3 a4 hf hkc hks H locs ls hP hD hS hl
  unfold xw_mBl_init_z1 at hf
  refine lv_aload_n hx hb d_Bl_init_0 rfl (lv_at hl 0 rfl) ?_
  refine W.objInit hx hb hown (hts _ gw_379) (hts _ gw_36) (hts _ gw_37) rfl (by rw [hml]; exact hl.1) rfl d_Bl_init_1 (Nat.le_of_ble_eq_true rfl) (Nat.le_of_ble_eq_true rfl) ?_
  refine W.eq (g2 := F0 m 4 ls []) rfl ?_
  refine lv_aload_n hx hb d_Bl_init_4 rfl (lv_at hl 0 rfl) ?_
  refine lv_aload_nN hx hb d_Bl_init_5 rfl (lv_at hl 1 rfl) ?_
  obtain ⟨fs_, hm_, hlen_, hf⟩ := hf
  obtain ⟨ix_, hi_⟩ := m_ix hm_
  have hE_ := m_set (y := .inr (1, fs_.set 0 (.null))) hD hi_
  refine va_putF (D := D) (ci := 1) (v := .null) (ty := .object "CoinKeeper$Block") (C := "CoinKeeper$Block") (T := F_1) (N := 12) hx hb hts i_1 t_1 t_1_ok n_1 hown hK hP hD hS ix_ hi_ rfl 0 (by decide) (hts _ gw_390) (fun _ h9 => h9) rfl hnm rfl (by decide +kernel) rfl rfl hlen_ d_Bl_init_6 (fun H locs hP hD hS => ?_)
  obtain ⟨M1, eM_⟩ : ∃ z, z = mu M a0 (.inr (1, fs_.set 0 (.null))) := ⟨_, rfl⟩
  rw [← eM_] at hf hE_
  rw [hE_] at hP hD
  clear hE_ eM_ hi_ hm_
  refine lv_aload_n hx hb d_Bl_init_9 rfl (lv_at hl 0 rfl) ?_
  refine lv_aload_n hx hb d_Bl_init_10 rfl (lv_at hl 2 rfl) ?_
  obtain ⟨fs_, hm_, hlen_, hf⟩ := hf
  obtain ⟨ix_, hi_⟩ := m_ix hm_
  have hE_ := m_set (y := .inr (1, fs_.set 1 (.ref a2))) hD hi_
  refine va_putF (D := D) (ci := 1) (v := .ref a2) (ty := .array .byte) (C := "CoinKeeper$Block") (T := F_1) (N := 12) hx hb hts i_1 t_1 t_1_ok n_1 hown hK hP hD hS ix_ hi_ rfl 1 (by decide) (hts _ gw_392) (fun _ h9 => h9) rfl hnm rfl (by decide +kernel) rfl rfl hlen_ d_Bl_init_11 (fun H locs hP hD hS => ?_)
  obtain ⟨M2, eM_⟩ : ∃ z, z = mu M1 a0 (.inr (1, fs_.set 1 (.ref a2))) := ⟨_, rfl⟩
  rw [← eM_] at hf hE_
  rw [hE_] at hP hD
  clear hE_ eM_ hi_ hm_
  refine lv_aload_n hx hb d_Bl_init_14 rfl (lv_at hl 0 rfl) ?_
  refine lv_aload_n hx hb d_Bl_init_15 rfl (lv_at hl 3 rfl) ?_
  obtain ⟨fs_, hm_, hlen_, hf⟩ := hf
  obtain ⟨ix_, hi_⟩ := m_ix hm_
  have hE_ := m_set (y := .inr (1, fs_.set 2 (.ref a3))) hD hi_
  refine va_putF (D := D) (ci := 1) (v := .ref a3) (ty := .array .byte) (C := "CoinKeeper$Block") (T := F_1) (N := 12) hx hb hts i_1 t_1 t_1_ok n_1 hown hK hP hD hS ix_ hi_ rfl 2 (by decide) (hts _ gw_395) (fun _ h9 => h9) rfl hnm rfl (by decide +kernel) rfl rfl hlen_ d_Bl_init_16 (fun H locs hP hD hS => ?_)
  obtain ⟨M3, eM_⟩ : ∃ z, z = mu M2 a0 (.inr (1, fs_.set 2 (.ref a3))) := ⟨_, rfl⟩
  rw [← eM_] at hf hE_
  rw [hE_] at hP hD
  clear hE_ eM_ hi_ hm_
  refine lv_aload_n hx hb d_Bl_init_19 rfl (lv_at hl 0 rfl) ?_
  refine lv_aload hx hb d_Bl_init_20 (lv_at hl 4 rfl) ?_
  obtain ⟨fs_, hm_, hlen_, hf⟩ := hf
  obtain ⟨ix_, hi_⟩ := m_ix hm_
  have hE_ := m_set (y := .inr (1, fs_.set 3 (.ref a4))) hD hi_
  refine va_putF (D := D) (ci := 1) (v := .ref a4) (ty := .array .byte) (C := "CoinKeeper$Block") (T := F_1) (N := 12) hx hb hts i_1 t_1 t_1_ok n_1 hown hK hP hD hS ix_ hi_ rfl 3 (by decide) (hts _ gw_397) (fun _ h9 => h9) rfl hnm rfl (by decide +kernel) rfl rfl hlen_ d_Bl_init_22 (fun H locs hP hD hS => ?_)
  obtain ⟨M4, eM_⟩ : ∃ z, z = mu M3 a0 (.inr (1, fs_.set 3 (.ref a4))) := ⟨_, rfl⟩
  rw [← eM_] at hf hE_
  rw [hE_] at hP hD
  clear hE_ eM_ hi_ hm_
  refine lv_aload_nN hx hb d_Bl_init_25 rfl (lv_at hl 1 rfl) ?_
  refine lv_ifnonnullN hx hb d_Bl_init_26 ?_
  refine lv_iconst (v := 1) hx hb d_Bl_init_29 (by decide) ?_
  refine lv_goto (tgt := 34) hx hb d_Bl_init_30 (by decide) ?_
  exact wv_mBl_init_z1_34 (fu := fu) F _ _ _ _ _ _ hf hkc hks _ _ _ hP hD hS (lv_sub hl [0, 1, 2] rfl)
theorem cw_mBl_init_z1 (l : Launch) (D : va_G) (cy : Nat → ClassId) (ad : Nat → Nat) (mi fu MC MS : Nat) (a0 : Nat) (a2 : Nat) (a3 : Nat) (a4 : Nat) (M : Mm) (Φ : Mm → Prop) (hf : xw_mBl_init_z1 fu MC MS cy ad mi Φ 0 0 M a0 a2 a3 a4) (sz : Nat) : Met l ({ cls := "CoinKeeper$Block", name := "<init>", desc := "(LCoinKeeper$Block;[B[B[B)V" } : Jvm.MethodName) (.code ({ cls := "CoinKeeper$Block", name := "<init>", desc := "(LCoinKeeper$Block;[B[B[B)V" } : Jvm.MethodName) b_Bl_init 6 none :: gw) (rmw_mBl_init_z1 MC MS) (va_Pc [.ref a0, .null, .ref a2, .ref a3, .ref a4] (PrM D cy ad mi (mw M) sz)) (va_Qv Φ (fun u t => Po D cy (va_A (mw M) sz) (mw u) t) (va_A (mw M) sz)) MC MS (va_A (mw M) sz) :=
  q_metM (Qc := fun A => va_Qv Φ (fun u t => Po D cy A (mw u) t) A) (by decide) rfl rfl (Nat.le_of_ble_eq_true rfl) (fun p e s m below meth c ls F hP hD hS hl => wew_mBl_init_z1 (fu := fu) F 0 0 M a0 a2 a3 a4 hf (Nat.zero_le _) (Nat.zero_le _) _ _ _ hP hD hS hl) sz
abbrev b_K_take : ByteArray := prog_1_method_15_code
theorem d_K_take_0 : decode b_K_take 0 = .ok (.iload_n 1, 1) := by decide +kernel
theorem d_K_take_1 : decode b_K_take 1 = .ok (.newarray .byte, 2) := by decide +kernel
theorem d_K_take_3 : decode b_K_take 3 = .ok (.astore_n 2, 1) := by decide +kernel
theorem d_K_take_4 : decode b_K_take 4 = .ok (.aload_n 0, 1) := by decide +kernel
theorem d_K_take_5 : decode b_K_take 5 = .ok (.getfield 9, 3) := by decide +kernel
theorem d_K_take_8 : decode b_K_take 8 = .ok (.iconst 0, 1) := by decide +kernel
theorem d_K_take_9 : decode b_K_take 9 = .ok (.aload_n 2, 1) := by decide +kernel
theorem d_K_take_10 : decode b_K_take 10 = .ok (.iconst 0, 1) := by decide +kernel
theorem d_K_take_11 : decode b_K_take 11 = .ok (.iload_n 1, 1) := by decide +kernel
theorem d_K_take_12 : decode b_K_take 12 = .ok (.invokestatic 240, 3) := by decide +kernel
theorem d_K_take_15 : decode b_K_take 15 = .ok (.new 66, 3) := by decide +kernel
theorem d_K_take_18 : decode b_K_take 18 = .ok (.dup, 1) := by decide +kernel
theorem d_K_take_19 : decode b_K_take 19 = .ok (.aload_n 0, 1) := by decide +kernel
theorem d_K_take_20 : decode b_K_take 20 = .ok (.aload_n 0, 1) := by decide +kernel
theorem d_K_take_21 : decode b_K_take 21 = .ok (.getfield 9, 3) := by decide +kernel
theorem d_K_take_24 : decode b_K_take 24 = .ok (.iconst 4, 1) := by decide +kernel
theorem d_K_take_25 : decode b_K_take 25 = .ok (.invokevirtual 209, 3) := by decide +kernel
theorem d_K_take_28 : decode b_K_take 28 = .ok (.aload_n 2, 1) := by decide +kernel
theorem d_K_take_29 : decode b_K_take 29 = .ok (.aload_n 0, 1) := by decide +kernel
theorem d_K_take_30 : decode b_K_take 30 = .ok (.getfield 13, 3) := by decide +kernel
theorem d_K_take_33 : decode b_K_take 33 = .ok (.invokevirtual 246, 3) := by decide +kernel
theorem d_K_take_36 : decode b_K_take 36 = .ok (.checkcast 247, 3) := by decide +kernel
theorem d_K_take_39 : decode b_K_take 39 = .ok (.aload_n 0, 1) := by decide +kernel
theorem d_K_take_40 : decode b_K_take 40 = .ok (.getfield 42, 3) := by decide +kernel
theorem d_K_take_43 : decode b_K_take 43 = .ok (.aload_n 0, 1) := by decide +kernel
theorem d_K_take_44 : decode b_K_take 44 = .ok (.getfield 19, 3) := by decide +kernel
theorem d_K_take_47 : decode b_K_take 47 = .ok (.invokevirtual 251, 3) := by decide +kernel
theorem d_K_take_50 : decode b_K_take 50 = .ok (.invokespecial 68, 3) := by decide +kernel
theorem d_K_take_53 : decode b_K_take 53 = .ok (.astore_n 3, 1) := by decide +kernel
theorem d_K_take_54 : decode b_K_take 54 = .ok (.aload_n 3, 1) := by decide +kernel
theorem d_K_take_55 : decode b_K_take 55 = .ok (.aload_n 0, 1) := by decide +kernel
theorem d_K_take_56 : decode b_K_take 56 = .ok (.getfield 42, 3) := by decide +kernel
theorem d_K_take_59 : decode b_K_take 59 = .ok (.getfield 255, 3) := by decide +kernel
theorem d_K_take_62 : decode b_K_take 62 = .ok (.aload_n 0, 1) := by decide +kernel
theorem d_K_take_63 : decode b_K_take 63 = .ok (.getfield 42, 3) := by decide +kernel
theorem d_K_take_66 : decode b_K_take 66 = .ok (.getfield 259, 3) := by decide +kernel
theorem d_K_take_69 : decode b_K_take 69 = .ok (.iaload, 1) := by decide +kernel
theorem d_K_take_70 : decode b_K_take 70 = .ok (.anewarray 60, 3) := by decide +kernel
theorem d_K_take_73 : decode b_K_take 73 = .ok (.putfield 262, 3) := by decide +kernel
theorem d_K_take_76 : decode b_K_take 76 = .ok (.iconst 0, 1) := by decide +kernel
theorem d_K_take_77 : decode b_K_take 77 = .ok (.istore 4, 2) := by decide +kernel
theorem d_K_take_79 : decode b_K_take 79 = .ok (.iload 4, 2) := by decide +kernel
theorem d_K_take_81 : decode b_K_take 81 = .ok (.aload_n 0, 1) := by decide +kernel
theorem d_K_take_82 : decode b_K_take 82 = .ok (.getfield 42, 3) := by decide +kernel
theorem d_K_take_85 : decode b_K_take 85 = .ok (.getfield 259, 3) := by decide +kernel
theorem d_K_take_88 : decode b_K_take 88 = .ok (.if_icmp .ge 67, 3) := by decide +kernel
theorem d_K_take_91 : decode b_K_take 91 = .ok (.aload_n 0, 1) := by decide +kernel
theorem d_K_take_92 : decode b_K_take 92 = .ok (.getfield 42, 3) := by decide +kernel
theorem d_K_take_95 : decode b_K_take 95 = .ok (.getfield 255, 3) := by decide +kernel
theorem d_K_take_98 : decode b_K_take 98 = .ok (.iload 4, 2) := by decide +kernel
theorem d_K_take_100 : decode b_K_take 100 = .ok (.iaload, 1) := by decide +kernel
theorem d_K_take_101 : decode b_K_take 101 = .ok (.istore 5, 2) := by decide +kernel
theorem d_K_take_103 : decode b_K_take 103 = .ok (.iload 5, 2) := by decide +kernel
theorem d_K_take_105 : decode b_K_take 105 = .ok (.aload_n 0, 1) := by decide +kernel
theorem d_K_take_106 : decode b_K_take 106 = .ok (.getfield 42, 3) := by decide +kernel
theorem d_K_take_109 : decode b_K_take 109 = .ok (.getfield 255, 3) := by decide +kernel
theorem d_K_take_112 : decode b_K_take 112 = .ok (.iload 4, 2) := by decide +kernel
theorem d_K_take_114 : decode b_K_take 114 = .ok (.iconst 1, 1) := by decide +kernel
theorem d_K_take_115 : decode b_K_take 115 = .ok (.iadd, 1) := by decide +kernel
theorem d_K_take_116 : decode b_K_take 116 = .ok (.iaload, 1) := by decide +kernel
theorem d_K_take_117 : decode b_K_take 117 = .ok (.if_icmp .ge 32, 3) := by decide +kernel
theorem d_K_take_120 : decode b_K_take 120 = .ok (.aload_n 3, 1) := by decide +kernel
theorem d_K_take_121 : decode b_K_take 121 = .ok (.getfield 262, 3) := by decide +kernel
theorem d_K_take_124 : decode b_K_take 124 = .ok (.iload 5, 2) := by decide +kernel
theorem d_K_take_126 : decode b_K_take 126 = .ok (.new 60, 3) := by decide +kernel
theorem d_K_take_129 : decode b_K_take 129 = .ok (.dup, 1) := by decide +kernel
theorem d_K_take_130 : decode b_K_take 130 = .ok (.aload_n 3, 1) := by decide +kernel
theorem d_K_take_131 : decode b_K_take 131 = .ok (.iload 4, 2) := by decide +kernel
theorem d_K_take_133 : decode b_K_take 133 = .ok (.iload 5, 2) := by decide +kernel
theorem d_K_take_135 : decode b_K_take 135 = .ok (.aload_n 0, 1) := by decide +kernel
theorem d_K_take_136 : decode b_K_take 136 = .ok (.getfield 42, 3) := by decide +kernel
theorem d_K_take_139 : decode b_K_take 139 = .ok (.invokespecial 265, 3) := by decide +kernel
theorem d_K_take_142 : decode b_K_take 142 = .ok (.aastore, 1) := by decide +kernel
theorem d_K_take_143 : decode b_K_take 143 = .ok (.iinc 5 1, 3) := by decide +kernel
theorem d_K_take_146 : decode b_K_take 146 = .ok (.goto (-43), 3) := by decide +kernel
theorem d_K_take_149 : decode b_K_take 149 = .ok (.iinc 4 1, 3) := by decide +kernel
theorem d_K_take_152 : decode b_K_take 152 = .ok (.goto (-73), 3) := by decide +kernel
theorem d_K_take_155 : decode b_K_take 155 = .ok (.aload_n 0, 1) := by decide +kernel
theorem d_K_take_156 : decode b_K_take 156 = .ok (.getfield 56, 3) := by decide +kernel
theorem d_K_take_159 : decode b_K_take 159 = .ok (.aload_n 3, 1) := by decide +kernel
theorem d_K_take_160 : decode b_K_take 160 = .ok (.invokevirtual 75, 3) := by decide +kernel
theorem d_K_take_163 : decode b_K_take 163 = .ok (.pop, 1) := by decide +kernel
theorem d_K_take_164 : decode b_K_take 164 = .ok (.aload_n 0, 1) := by decide +kernel
theorem d_K_take_165 : decode b_K_take 165 = .ok (.dup, 1) := by decide +kernel
theorem d_K_take_166 : decode b_K_take 166 = .ok (.getfield 97, 3) := by decide +kernel
theorem d_K_take_169 : decode b_K_take 169 = .ok (.iload_n 1, 1) := by decide +kernel
theorem d_K_take_170 : decode b_K_take 170 = .ok (.iadd, 1) := by decide +kernel
theorem d_K_take_171 : decode b_K_take 171 = .ok (.putfield 97, 3) := by decide +kernel
theorem d_K_take_174 : decode b_K_take 174 = .ok (.aload_n 3, 1) := by decide +kernel
theorem d_K_take_175 : decode b_K_take 175 = .ok (.areturn, 1) := by decide +kernel
abbrev rmw_mK_take (MC MS : Nat) : Room := { frames := 7, cells := MC, slots := MS, locals := 161 }
def Iw_mK_take_103 (p : Program) (l : Launch) (e : Env) (s : State) (m : MethodId) (args : Array Value) (below : List Frame) (meth : Method) (c : Code) (D : va_G) (cy : Nat → ClassId) (A : Nat → Prop) (ad : Nat → Nat) (mi MC MS : Nat) (Φ : Option Nat → Mm → Prop) (k : Nat → Nat → Mm → Nat → Int32 → Nat → Int32 → Int32 → Prop) : Prop :=
  ∀ (κ σ : Nat) (M : Mm) (x0 : Nat) (x1 : Int32) (x3 : Nat) (x4 : Int32) (x5 : Int32), k κ σ M x0 x1 x3 x4 x5 → κ ≤ MC → σ ≤ MS → ∀ (H : Heap) (locs : List Loc) (ls : Array Slot), va_P D classes (mw M) H → va_D A (mw M) → va_S A s.heap H locs → lv_has ls 6 [(0, .ref x0), (1, .int x1), (3, .ref x3), (4, .int x4), (5, .int x5)] → W p l e (rmw_mK_take MC MS) s m args below meth c H locs κ σ (MQ below (va_Qq Φ (fun u t => Po D cy A (mw u) t) A) args s MC MS A) (F0 m 103 ls [])
def Iw_mK_take_79 (p : Program) (l : Launch) (e : Env) (s : State) (m : MethodId) (args : Array Value) (below : List Frame) (meth : Method) (c : Code) (D : va_G) (cy : Nat → ClassId) (A : Nat → Prop) (ad : Nat → Nat) (mi MC MS : Nat) (Φ : Option Nat → Mm → Prop) (k : Nat → Nat → Mm → Nat → Int32 → Nat → Int32 → Prop) : Prop :=
  ∀ (κ σ : Nat) (M : Mm) (x0 : Nat) (x1 : Int32) (x3 : Nat) (x4 : Int32), k κ σ M x0 x1 x3 x4 → κ ≤ MC → σ ≤ MS → ∀ (H : Heap) (locs : List Loc) (ls : Array Slot), va_P D classes (mw M) H → va_D A (mw M) → va_S A s.heap H locs → lv_has ls 6 [(0, .ref x0), (1, .int x1), (3, .ref x3), (4, .int x4)] → W p l e (rmw_mK_take MC MS) s m args below meth c H locs κ σ (MQ below (va_Qq Φ (fun u t => Po D cy A (mw u) t) A) args s MC MS A) (F0 m 79 ls [])
def Iw_mK_take_e (p : Program) (l : Launch) (e : Env) (s : State) (m : MethodId) (args : Array Value) (below : List Frame) (meth : Method) (c : Code) (D : va_G) (cy : Nat → ClassId) (A : Nat → Prop) (ad : Nat → Nat) (mi MC MS : Nat) (Φ : Option Nat → Mm → Prop) (k : Nat → Nat → Mm → Nat → Int32 → Prop) : Prop :=
  ∀ (κ σ : Nat) (M : Mm) (a0 : Nat) (a1 : Int32), k κ σ M a0 a1 → κ ≤ MC → σ ≤ MS → ∀ (H : Heap) (locs : List Loc) (ls : Array Slot), va_P D classes (mw M) H → va_D A (mw M) → va_S A s.heap H locs → lv_has ls 6 [(0, .ref a0), (1, .int a1)] → W p l e (rmw_mK_take MC MS) s m args below meth c H locs κ σ (MQ below (va_Qq Φ (fun u t => Po D cy A (mw u) t) A) args s MC MS A) (F0 m 0 ls [])
theorem hdq_27 : ({ cls := "CoinKeeper$Coin", name := "<init>", desc := "(LCoinKeeper$Block;IILCoinKeeper$Layout;)V" } : Jvm.MethodName).cls ≠ "java/lang/invoke/MethodHandle" ∧ ({ cls := "CoinKeeper$Coin", name := "<init>", desc := "(LCoinKeeper$Block;IILCoinKeeper$Layout;)V" } : Jvm.MethodName).cls ≠ "java/lang/invoke/VarHandle" ∧ (parseMethodDescriptor ({ cls := "CoinKeeper$Coin", name := "<init>", desc := "(LCoinKeeper$Block;IILCoinKeeper$Layout;)V" } : Jvm.MethodName).desc).map (fun d => d.parameters.length) = some 4 := by decide +kernel
set_option maxHeartbeats 8000000 in
set_option maxRecDepth 100000 in
theorem wv_mK_take_103 {p : Program} {l : Launch} {e : Env} {s : State} {m : MethodId} {args : Array Value} {below : List Frame} {meth : Method} {c : Code} {D : va_G} {cy : Nat → ClassId} {A : Nat → Prop} {ad : Nat → Nat} {mi MC MS : Nat} {Φ : Option Nat → Mm → Prop} {fu : Nat} {k_79 : Nat → Nat → Mm → Nat → Int32 → Nat → Int32 → Prop} {k_103 : Nat → Nat → Mm → Nat → Int32 → Nat → Int32 → Int32 → Prop} (F : FxM p s m args meth c b_K_take 6 "CoinKeeper" "take" (Option.some (Jvm.ClassFile.FieldType.object "CoinKeeper$Block")) D cy ad mi A) (hk_79 : Iw_mK_take_79 p l e s m args below meth c D cy A ad mi MC MS Φ k_79) (hk_103 : Iw_mK_take_103 p l e s m args below meth c D cy A ad mi MC MS Φ k_103) : Iw_mK_take_103 p l e s m args below meth c D cy A ad mi MC MS Φ (xv_mK_take_103 fu MC MS cy ad mi Φ k_79 k_103) := by
  obtain ⟨⟨hx, hb, hr, hml, hown, hts, hlocks, hK, hA, hSt, hnm, hex⟩, hT, hMi⟩ := id F
  intro κ σ M x0 x1 x3 x4 x5 hf hkc hks H locs ls hP hD hS hl
  unfold xv_mK_take_103 at hf
  refine lv_iload hx hb d_K_take_103 (lv_at hl 4 rfl) ?_
  refine lv_aload_n hx hb d_K_take_105 rfl (lv_at hl 0 rfl) ?_
  obtain ⟨fs_, hm_, r1, hv_, hf⟩ := hf
  obtain ⟨ix_, hi_⟩ := m_ix hm_
  refine va_get (D := D) (ci := 0) (v := va_rf r1) (C := "CoinKeeper") (T := F_0) (N := 13) hx hb hts i_0 hown hK hP ix_ hi_ rfl 6 (by decide) (hts _ gw_506) (fun _ h9 => h9) hv_ d_K_take_106 ?_
  clear hv_ hi_ hm_
  obtain ⟨q2, rfl, hf⟩ := hf
  refine W.eq (g2 := F0 m 109 ls [.ref q2, .int x5]) rfl ?_
  obtain ⟨fs_, hm_, r3, hv_, hf⟩ := hf
  obtain ⟨ix_, hi_⟩ := m_ix hm_
  refine va_get (D := D) (ci := 4) (v := va_rf r3) (C := "CoinKeeper$Layout") (T := F_4) (N := 15) hx hb hts i_4 hown hK hP ix_ hi_ rfl 4 (by decide) (hts _ gw_281) (fun _ h9 => h9) hv_ d_K_take_109 ?_
  clear hv_ hi_ hm_
  obtain ⟨q4, rfl, hf⟩ := hf
  refine W.eq (g2 := F0 m 112 ls [.ref q4, .int x5]) rfl ?_
  refine lv_iload hx hb d_K_take_112 (lv_at hl 3 rfl) ?_
  refine lv_iconst (v := 1) hx hb d_K_take_114 (by decide) ?_
  refine lv_iadd hx hb d_K_take_115 ?_
  refine lv_topi (fun v5 ev => ?_)
  have hf := bnQ ev hf
  clear ev
  obtain ⟨n_, f_, hm_, hin_, hf⟩ := hf
  obtain ⟨ix_, hi_⟩ := m_ix hm_
  refine va_iald hx hb hK hP ix_ 1 hi_ rfl (inb_in hin_) d_K_take_116 ?_
  obtain ⟨v6, ev⟩ : ∃ z, z = f_ v5.toNatClampNeg := ⟨_, rfl⟩
  first | rw [← ev] at hf ⊢ | rw [← ev]
  clear ev hi_ hm_ hin_
  refine lv_icmp_ge (tgt := 149) hx hb d_K_take_117 (by decide) (fun cx => ?_) (fun cx => ?_)
  · have hf := ifpP cx hf
    obtain ⟨v7, ev, hf⟩ := bnP hf
    refine lv_iinc (v := v7) (lv' := [(4, .int v7), (0, .ref x0), (1, .int x1), (3, .ref x3), (5, .int x5)]) hx hb d_K_take_149 hl (k := 3) rfl (by rw [ev]; rfl) (by decide) rfl (fun ls hl => ?_)
    clear ev
    refine lv_goto (tgt := 79) hx hb d_K_take_152 (by decide) ?_
    exact hk_79 _ _ _ _ _ _ _ hf hkc hks _ _ _ hP hD hS (lv_sub hl [1, 2, 3, 0] rfl)
  · have hf := ifnP cx hf
    refine lv_aload_n hx hb d_K_take_120 rfl (lv_at hl 2 rfl) ?_
    obtain ⟨fs_, hm_, r8, hv_, hf⟩ := hf
    obtain ⟨ix_, hi_⟩ := m_ix hm_
    refine va_get (D := D) (ci := 1) (v := va_rf r8) (C := "CoinKeeper$Block") (T := F_1) (N := 12) hx hb hts i_1 hown hK hP ix_ hi_ rfl 8 (by decide) (hts _ gw_408) (fun _ h9 => h9) hv_ d_K_take_121 ?_
    clear hv_ hi_ hm_
    obtain ⟨q9, rfl, hf⟩ := hf
    refine W.eq (g2 := F0 m 124 ls [.ref q9]) rfl ?_
    refine lv_iload hx hb d_K_take_124 (lv_at hl 4 rfl) ?_
    obtain ⟨⟨hkc, hks⟩, hf⟩ := hf
    refine va_new (ci := 2) (fs := [.null, .int 0, .int 0, .int 0, .long 0, .int 0, .int 0, .int 0, .int 0, .int 0]) (C := "CoinKeeper$Coin") (T := F_2) (N := 10) hx hb hts i_2 t_2 t_2_ok hown (hts _ gw_372) (hts _ gw_843) (hts _ gw_27) hK hP hD hS hA rfl df_2 hkc hks d_K_take_126 (fun w10 H hP hD hS => ?_)
    have hE_ := m_push (x := .inr (2, [.null, .int 0, .int 0, .int 0, .long 0, .int 0, .int 0, .int 0, .int 0, .int 0])) hD
    have hf := hf w10 (va_pl_fresh2 (X := []) (L := M.1) (f := M.2) hD) (ad_ne hSt hD)
    obtain ⟨M11, eM_⟩ : ∃ z, z = mp M w10 (.inr (2, [.null, .int 0, .int 0, .int 0, .long 0, .int 0, .int 0, .int 0, .int 0, .int 0])) := ⟨_, rfl⟩
    rw [← eM_] at hf hE_
    rw [hE_] at hP hD
    clear hE_ eM_
    refine lv_dup hx hb d_K_take_129 rfl ?_
    refine lv_aload_n hx hb d_K_take_130 rfl (lv_at hl 2 rfl) ?_
    refine lv_iload hx hb d_K_take_131 (lv_at hl 3 rfl) ?_
    refine lv_iload hx hb d_K_take_133 (lv_at hl 4 rfl) ?_
    refine lv_aload_n hx hb d_K_take_135 rfl (lv_at hl 0 rfl) ?_
    obtain ⟨fs_, hm_, r12, hv_, hf⟩ := hf
    obtain ⟨ix_, hi_⟩ := m_ix hm_
    refine va_get (D := D) (ci := 0) (v := va_rf r12) (C := "CoinKeeper") (T := F_0) (N := 13) hx hb hts i_0 hown hK hP ix_ hi_ rfl 6 (by decide) (hts _ gw_506) (fun _ h9 => h9) hv_ d_K_take_136 ?_
    clear hv_ hi_ hm_
    obtain ⟨q13, rfl, hf⟩ := hf
    refine W.eq (g2 := F0 m 139 ls [.ref q13, .int x5, .int x4, .ref x3, .ref w10, .ref w10, .int x5, .ref q9]) rfl ?_
    obtain ⟨mc14, ms15, ⟨hc_, hd_⟩, hf⟩ := hf
    refine m_av (va_runI (As := [.ref x3, .int x4, .int x5, .ref q13]) (rest := [.ref w10, .int x5, .ref q9]) ⟨hx, hb, hml, hown, hts⟩ (cw_mCo_init l D cy ad mi fu mc14 ms15 w10 x3 x4 x5 q13 M11 _ hf H.size) ⟨q_cB hts gw_846 gw_27 gw_844 hdq_27 ⟨Nat.le_of_ble_eq_true rfl, Nat.le_of_ble_eq_true rfl⟩, rfl, hts _ gw_845⟩ (q_preM hP hD hK hSt hT hMi hS (m_free hD hS hA) _) rfl rfl hl.1 rfl (lv_room (Nat.le_of_ble_eq_true rfl)) d_K_take_139 ⟨hc_, hd_⟩) hD hS hA (fun M16 H locs hf hP hD hS => ?_)
    have hkc : κ + 1 + mc14 ≤ MC := hc_
    have hks : σ + 10 + ms15 ≤ MS := hd_
    clear hc_ hd_
    obtain ⟨gs_, hq_, hf⟩ := hf
    obtain ⟨jx_, hj_⟩ := m_ix hq_
    obtain ⟨n_, f_, hm_, hin_, hf⟩ := hf
    obtain ⟨ix_, hi_⟩ := m_ix hm_
    have hE_ := m_set (y := .inl (cy 6, n_, .inr (.inr (.inr (.inr (va_up f_ x5.toNatClampNeg (some w10))))))) hD hi_
    refine va_astq hx hb hK hP hD hS ix_ 6 jx_ 2 hi_ rfl hj_ rfl (inb_in hin_) d_K_take_142 (fun H locs hP hD hS => ?_)
    obtain ⟨M17, eM_⟩ : ∃ z, z = mu M16 q9 (.inl (cy 6, n_, .inr (.inr (.inr (.inr (va_up f_ x5.toNatClampNeg (some w10))))))) := ⟨_, rfl⟩
    rw [← eM_] at hf hE_
    rw [hE_] at hP hD
    clear hE_ eM_ hi_ hm_
    clear hj_ hq_
    obtain ⟨v18, ev, hf⟩ := bnP hf
    refine lv_iinc (v := v18) (lv' := [(5, .int v18), (0, .ref x0), (1, .int x1), (3, .ref x3), (4, .int x4)]) hx hb d_K_take_143 hl (k := 4) rfl (by rw [ev]; rfl) (by decide) rfl (fun ls hl => ?_)
    clear ev
    refine lv_goto (tgt := 103) hx hb d_K_take_146 (by decide) ?_
    exact hk_103 _ _ _ _ _ _ _ _ hf hkc hks _ _ _ hP hD hS (lv_sub hl [1, 2, 3, 4, 0] rfl)
theorem ww_mK_take_103 {p : Program} {l : Launch} {e : Env} {s : State} {m : MethodId} {args : Array Value} {below : List Frame} {meth : Method} {c : Code} {D : va_G} {cy : Nat → ClassId} {A : Nat → Prop} {ad : Nat → Nat} {mi MC MS : Nat} {Φ : Option Nat → Mm → Prop} {fu : Nat} {k_79 : Nat → Nat → Mm → Nat → Int32 → Nat → Int32 → Prop} (F : FxM p s m args meth c b_K_take 6 "CoinKeeper" "take" (Option.some (Jvm.ClassFile.FieldType.object "CoinKeeper$Block")) D cy ad mi A) (hk_79 : Iw_mK_take_79 p l e s m args below meth c D cy A ad mi MC MS Φ k_79) : ∀ n : Nat, Iw_mK_take_103 p l e s m args below meth c D cy A ad mi MC MS Φ (xw_mK_take_103 fu MC MS cy ad mi Φ k_79 n)
  | 0 => fun _ _ _ _ _ _ _ _ hf => False.elim hf
  | n + 1 => wv_mK_take_103 F hk_79 (ww_mK_take_103 F hk_79 n)
set_option maxHeartbeats 8000000 in
set_option maxRecDepth 100000 in
theorem wv_mK_take_79 {p : Program} {l : Launch} {e : Env} {s : State} {m : MethodId} {args : Array Value} {below : List Frame} {meth : Method} {c : Code} {D : va_G} {cy : Nat → ClassId} {A : Nat → Prop} {ad : Nat → Nat} {mi MC MS : Nat} {Φ : Option Nat → Mm → Prop} {fu : Nat} {k_79 : Nat → Nat → Mm → Nat → Int32 → Nat → Int32 → Prop} (F : FxM p s m args meth c b_K_take 6 "CoinKeeper" "take" (Option.some (Jvm.ClassFile.FieldType.object "CoinKeeper$Block")) D cy ad mi A) (hk_79 : Iw_mK_take_79 p l e s m args below meth c D cy A ad mi MC MS Φ k_79) : Iw_mK_take_79 p l e s m args below meth c D cy A ad mi MC MS Φ (xv_mK_take_79 fu MC MS cy ad mi Φ k_79) := by
  obtain ⟨⟨hx, hb, hr, hml, hown, hts, hlocks, hK, hA, hSt, hnm, hex⟩, hT, hMi⟩ := id F
  intro κ σ M x0 x1 x3 x4 hf hkc hks H locs ls hP hD hS hl
  unfold xv_mK_take_79 at hf
  refine lv_iload hx hb d_K_take_79 (lv_at hl 3 rfl) ?_
  refine lv_aload_n hx hb d_K_take_81 rfl (lv_at hl 0 rfl) ?_
  obtain ⟨fs_, hm_, r1, hv_, hf⟩ := hf
  obtain ⟨ix_, hi_⟩ := m_ix hm_
  refine va_get (D := D) (ci := 0) (v := va_rf r1) (C := "CoinKeeper") (T := F_0) (N := 13) hx hb hts i_0 hown hK hP ix_ hi_ rfl 6 (by decide) (hts _ gw_506) (fun _ h9 => h9) hv_ d_K_take_82 ?_
  clear hv_ hi_ hm_
  obtain ⟨q2, rfl, hf⟩ := hf
  refine W.eq (g2 := F0 m 85 ls [.ref q2, .int x4]) rfl ?_
  obtain ⟨fs_, hm_, v3, hv_, hf⟩ := hf
  obtain ⟨ix_, hi_⟩ := m_ix hm_
  refine va_get (D := D) (ci := 4) (v := .int v3) (C := "CoinKeeper$Layout") (T := F_4) (N := 15) hx hb hts i_4 hown hK hP ix_ hi_ rfl 1 (by decide) (hts _ gw_273) (fun _ h9 => h9) hv_ d_K_take_85 ?_
  clear hv_ hi_ hm_
  refine lv_icmp_ge (tgt := 155) hx hb d_K_take_88 (by decide) (fun cx => ?_) (fun cx => ?_)
  · have hf := ifpP cx hf
    refine lv_aload_n hx hb d_K_take_155 rfl (lv_at hl 0 rfl) ?_
    obtain ⟨fs_, hm_, r4, hv_, hf⟩ := hf
    obtain ⟨ix_, hi_⟩ := m_ix hm_
    refine va_get (D := D) (ci := 0) (v := va_rf r4) (C := "CoinKeeper") (T := F_0) (N := 13) hx hb hts i_0 hown hK hP ix_ hi_ rfl 8 (by decide) (hts _ gw_508) (fun _ h9 => h9) hv_ d_K_take_156 ?_
    clear hv_ hi_ hm_
    obtain ⟨q5, rfl, hf⟩ := hf
    refine W.eq (g2 := F0 m 159 ls [.ref q5]) rfl ?_
    refine lv_aload_n hx hb d_K_take_159 rfl (lv_at hl 2 rfl) ?_
    obtain ⟨fs_, hm_, hf⟩ := hf
    obtain ⟨ix_, hi_⟩ := m_ix hm_
    obtain ⟨mc6, ms7, ⟨hc_, hd_⟩, hf⟩ := hf
    refine mm_ai (va_runV (C := "java/util/ArrayList") (As := [.ref x3]) (rest := []) ⟨hx, hb, hml, hown, hts⟩ (cw_mAl_add0 l D cy ad mi fu mc6 ms7 q5 x3 M _ hf H.size) ⟨q_cB hts gw_440 gw_12 gw_437 hdq_19 ⟨Nat.le_of_ble_eq_true rfl, Nat.le_of_ble_eq_true rfl⟩, hts _ gw_438, hts _ gw_439⟩ (q_preVM (q_preM hP hD hK hSt hT hMi hS (m_free hD hS hA) _) (va_recv hK hP (ci := 11) (q0 := ix_) rfl hi_)) rfl rfl hl.1 rfl (lv_room (Nat.le_of_ble_eq_true rfl)) d_K_take_160 ⟨hc_, hd_⟩) hD hS hA (fun v9 M8 H locs hf hP hD hS => ?_)
    have hkc : κ + mc6 ≤ MC := hc_
    have hks : σ + ms7 ≤ MS := hd_
    clear hc_ hd_
    refine lv_pop hx hb d_K_take_163 rfl ?_
    refine lv_aload_n hx hb d_K_take_164 rfl (lv_at hl 0 rfl) ?_
    refine lv_dup hx hb d_K_take_165 rfl ?_
    obtain ⟨fs_, hm_, v10, hv_, hf⟩ := hf
    obtain ⟨ix_, hi_⟩ := m_ix hm_
    refine va_get (D := D) (ci := 0) (v := .int v10) (C := "CoinKeeper") (T := F_0) (N := 13) hx hb hts i_0 hown hK hP ix_ hi_ rfl 11 (by decide) (hts _ gw_511) (fun _ h9 => h9) hv_ d_K_take_166 ?_
    clear hv_ hi_ hm_
    refine lv_iload_n hx hb d_K_take_169 rfl (lv_at hl 1 rfl) ?_
    refine lv_iadd hx hb d_K_take_170 ?_
    refine lv_topi (fun v11 ev => ?_)
    have hf := bnQ ev hf
    clear ev
    obtain ⟨fs_, hm_, hlen_, hf⟩ := hf
    obtain ⟨ix_, hi_⟩ := m_ix hm_
    have hE_ := m_set (y := .inr (0, fs_.set 11 (.int v11))) hD hi_
    refine va_put (D := D) (ci := 0) (v := .int v11) (ty := .int) (C := "CoinKeeper") (T := F_0) (N := 13) hx hb hts i_0 t_0 t_0_ok n_0 hown hK hP hD hS ix_ hi_ rfl 11 (by decide) (hts _ gw_511) (fun _ h9 => h9) rfl (by decide +kernel) rfl rfl hlen_ d_K_take_171 (fun H locs hP hD hS => ?_)
    obtain ⟨M12, eM_⟩ : ∃ z, z = mu M8 x0 (.inr (0, fs_.set 11 (.int v11))) := ⟨_, rfl⟩
    rw [← eM_] at hf hE_
    rw [hE_] at hP hD
    clear hE_ eM_ hi_ hm_
    refine lv_aload_n hx hb d_K_take_174 rfl (lv_at hl 2 rfl) ?_
    refine W.widen (k := MC) (n := MS) hkc hks ?_
    exact m_ra hf rfl hx hb hr (Or.inl ⟨_, rfl⟩) hlocks hK hP hD hS d_K_take_175
  · have hf := ifnP cx hf
    refine lv_aload_n hx hb d_K_take_91 rfl (lv_at hl 0 rfl) ?_
    obtain ⟨fs_, hm_, r13, hv_, hf⟩ := hf
    obtain ⟨ix_, hi_⟩ := m_ix hm_
    refine va_get (D := D) (ci := 0) (v := va_rf r13) (C := "CoinKeeper") (T := F_0) (N := 13) hx hb hts i_0 hown hK hP ix_ hi_ rfl 6 (by decide) (hts _ gw_506) (fun _ h9 => h9) hv_ d_K_take_92 ?_
    clear hv_ hi_ hm_
    obtain ⟨q14, rfl, hf⟩ := hf
    refine W.eq (g2 := F0 m 95 ls [.ref q14]) rfl ?_
    obtain ⟨fs_, hm_, r15, hv_, hf⟩ := hf
    obtain ⟨ix_, hi_⟩ := m_ix hm_
    refine va_get (D := D) (ci := 4) (v := va_rf r15) (C := "CoinKeeper$Layout") (T := F_4) (N := 15) hx hb hts i_4 hown hK hP ix_ hi_ rfl 4 (by decide) (hts _ gw_281) (fun _ h9 => h9) hv_ d_K_take_95 ?_
    clear hv_ hi_ hm_
    obtain ⟨q16, rfl, hf⟩ := hf
    refine W.eq (g2 := F0 m 98 ls [.ref q16]) rfl ?_
    refine lv_iload hx hb d_K_take_98 (lv_at hl 3 rfl) ?_
    obtain ⟨n_, f_, hm_, hin_, hf⟩ := hf
    obtain ⟨ix_, hi_⟩ := m_ix hm_
    refine va_iald hx hb hK hP ix_ 1 hi_ rfl (inb_in hin_) d_K_take_100 ?_
    obtain ⟨v17, ev⟩ : ∃ z, z = f_ x4.toNatClampNeg := ⟨_, rfl⟩
    first | rw [← ev] at hf ⊢ | rw [← ev]
    clear ev hi_ hm_ hin_
    refine lv_istore (lv' := [(5, .int v17), (0, .ref x0), (1, .int x1), (3, .ref x3), (4, .int x4)]) hx hb d_K_take_101 hl (by decide) rfl (fun ls hl => ?_)
    exact ww_mK_take_103 F hk_79 fu _ _ _ _ _ _ _ _ hf hkc hks _ _ _ hP hD hS (lv_sub hl [1, 2, 3, 4, 0] rfl)
theorem ww_mK_take_79 {p : Program} {l : Launch} {e : Env} {s : State} {m : MethodId} {args : Array Value} {below : List Frame} {meth : Method} {c : Code} {D : va_G} {cy : Nat → ClassId} {A : Nat → Prop} {ad : Nat → Nat} {mi MC MS : Nat} {Φ : Option Nat → Mm → Prop} {fu : Nat} (F : FxM p s m args meth c b_K_take 6 "CoinKeeper" "take" (Option.some (Jvm.ClassFile.FieldType.object "CoinKeeper$Block")) D cy ad mi A) : ∀ n : Nat, Iw_mK_take_79 p l e s m args below meth c D cy A ad mi MC MS Φ (xw_mK_take_79 fu MC MS cy ad mi Φ n)
  | 0 => fun _ _ _ _ _ _ _ hf => False.elim hf
  | n + 1 => wv_mK_take_79 F (ww_mK_take_79 F n)
theorem hdq_28 : ({ cls := "CoinKeeper", name := "blockOf", desc := "([BI)LCoinKeeper$Block;" } : Jvm.MethodName).cls ≠ "java/lang/invoke/MethodHandle" ∧ ({ cls := "CoinKeeper", name := "blockOf", desc := "([BI)LCoinKeeper$Block;" } : Jvm.MethodName).cls ≠ "java/lang/invoke/VarHandle" ∧ (parseMethodDescriptor ({ cls := "CoinKeeper", name := "blockOf", desc := "([BI)LCoinKeeper$Block;" } : Jvm.MethodName).desc).map (fun d => d.parameters.length) = some 2 := by decide +kernel
theorem hdq_29 : ({ cls := "CoinKeeper$Block", name := "<init>", desc := "(LCoinKeeper$Block;[B[B[B)V" } : Jvm.MethodName).cls ≠ "java/lang/invoke/MethodHandle" ∧ ({ cls := "CoinKeeper$Block", name := "<init>", desc := "(LCoinKeeper$Block;[B[B[B)V" } : Jvm.MethodName).cls ≠ "java/lang/invoke/VarHandle" ∧ (parseMethodDescriptor ({ cls := "CoinKeeper$Block", name := "<init>", desc := "(LCoinKeeper$Block;[B[B[B)V" } : Jvm.MethodName).desc).map (fun d => d.parameters.length) = some 4 := by decide +kernel
set_option maxHeartbeats 8000000 in
set_option maxRecDepth 100000 in
theorem wew_mK_take {p : Program} {l : Launch} {e : Env} {s : State} {m : MethodId} {args : Array Value} {below : List Frame} {meth : Method} {c : Code} {D : va_G} {cy : Nat → ClassId} {A : Nat → Prop} {ad : Nat → Nat} {mi MC MS : Nat} {Φ : Option Nat → Mm → Prop} {fu : Nat} (F : FxM p s m args meth c b_K_take 6 "CoinKeeper" "take" (Option.some (Jvm.ClassFile.FieldType.object "CoinKeeper$Block")) D cy ad mi A) : Iw_mK_take_e p l e s m args below meth c D cy A ad mi MC MS Φ (xw_mK_take fu MC MS cy ad mi Φ) := by
  obtain ⟨⟨hx, hb, hr, hml, hown, hts, hlocks, hK, hA, hSt, hnm, hex⟩, hT, hMi⟩ := id F
  intro κ σ M a0 a1 hf hkc hks H locs ls hP hD hS hl
  unfold xw_mK_take at hf
  refine lv_iload_n hx hb d_K_take_0 rfl (lv_at hl 1 rfl) ?_
  obtain ⟨⟨hn_, hby_⟩, hf⟩ := hf
  obtain ⟨⟨hkc, hks⟩, hf⟩ := hf
  refine q_newa (ty := .byte) (a0 := (a1.toNatClampNeg, .inl (fun _ => 0))) hx hb hts gw_60 rfl hK hP hD hS hA 0 rfl (fun _ h => h) (fun _ => rfl) hn_ rfl hby_ hkc hks d_K_take_1 (fun w1 H hP hD hS => ?_)
  have hE_ := m_push (x := .inl (cy 0, (a1.toNatClampNeg, .inl (fun _ => 0)))) hD
  have hf := hf w1 (va_pl_fresh2 (X := []) (L := M.1) (f := M.2) hD) (ad_ne hSt hD)
  obtain ⟨M2, eM_⟩ : ∃ z, z = mp M w1 (.inl (cy 0, (a1.toNatClampNeg, .inl (fun _ => 0)))) := ⟨_, rfl⟩
  rw [← eM_] at hf hE_
  rw [hE_] at hP hD
  clear hE_ eM_
  refine lv_astore_n (lv' := [(2, .ref w1), (0, .ref a0), (1, .int a1)]) hx hb d_K_take_3 rfl hl (by decide) rfl (fun ls hl => ?_)
  refine lv_aload_n hx hb d_K_take_4 rfl (lv_at hl 1 rfl) ?_
  obtain ⟨fs_, hm_, r3, hv_, hf⟩ := hf
  obtain ⟨ix_, hi_⟩ := m_ix hm_
  refine va_get (D := D) (ci := 0) (v := va_rf r3) (C := "CoinKeeper") (T := F_0) (N := 13) hx hb hts i_0 hown hK hP ix_ hi_ rfl 0 (by decide) (hts _ gw_500) (fun _ h9 => h9) hv_ d_K_take_5 ?_
  clear hv_ hi_ hm_
  obtain ⟨q4, rfl, hf⟩ := hf
  refine W.eq (g2 := F0 m 8 ls [.ref q4]) rfl ?_
  refine lv_iconst (v := 0) hx hb d_K_take_8 (by decide) ?_
  refine lv_aload_n hx hb d_K_take_9 rfl (lv_at hl 0 rfl) ?_
  refine lv_iconst (v := 0) hx hb d_K_take_10 (by decide) ?_
  refine lv_iload_n hx hb d_K_take_11 rfl (lv_at hl 2 rfl) ?_
  obtain ⟨n0_, f0_, n1_, f1_, hs_, hm_, hcp_, hfi_, hf⟩ := hf
  obtain ⟨jx_, hj_⟩ := m_ix hs_
  obtain ⟨ix_, hi_⟩ := m_ix hm_
  have hE_ := m_set (y := .inl (cy 0, n1_, .inl (va_cpy f0_ f1_ (0 : Int32).toNatClampNeg (0 : Int32).toNatClampNeg a1.toNatClampNeg))) hD hi_
  refine va_copyi (R := rmw_mK_take MC MS) (rest := []) hx hb (hml.trans hl.1.symm) hown (hts _ gw_834) (hts _ gw_497) (hts _ gw_496) (hts _ gw_17) hK hP hD hS jx_ ix_ 0 0 hj_ hi_ rfl rfl rfl (cpk_p hcp_).1 (cpk_p hcp_).2.1 (cpk_p hcp_).2.2.1 (cpk_p hcp_).2.2.2.1 (cpk_p hcp_).2.2.2.2 (bfit_p hfi_) (Nat.le_of_ble_eq_true rfl) (Nat.le_of_ble_eq_true rfl) d_K_take_12 (fun H locs hP hD hS => ?_)
  obtain ⟨M5, eM_⟩ : ∃ z, z = mu M2 w1 (.inl (cy 0, n1_, .inl (va_cpy f0_ f1_ (0 : Int32).toNatClampNeg (0 : Int32).toNatClampNeg a1.toNatClampNeg))) := ⟨_, rfl⟩
  rw [← eM_] at hf hE_
  rw [hE_] at hP hD
  clear hE_ eM_ hi_ hm_
  clear hj_ hs_ hcp_ hfi_
  obtain ⟨⟨hkc, hks⟩, hf⟩ := hf
  refine va_new (ci := 1) (fs := [.null, .null, .null, .null, .int 0, .long 0, .int 0, .long 0, .null, .int 0, .int 0, .int 0]) (C := "CoinKeeper$Block") (T := F_1) (N := 12) hx hb hts i_1 t_1 t_1_ok hown (hts _ gw_374) (hts _ gw_375) (hts _ gw_13) hK hP hD hS hA rfl df_1 hkc hks d_K_take_15 (fun w6 H hP hD hS => ?_)
  have hE_ := m_push (x := .inr (1, [.null, .null, .null, .null, .int 0, .long 0, .int 0, .long 0, .null, .int 0, .int 0, .int 0])) hD
  have hf := hf w6 (va_pl_fresh2 (X := []) (L := M5.1) (f := M5.2) hD) (ad_ne hSt hD)
  obtain ⟨M7, eM_⟩ : ∃ z, z = mp M5 w6 (.inr (1, [.null, .null, .null, .null, .int 0, .long 0, .int 0, .long 0, .null, .int 0, .int 0, .int 0])) := ⟨_, rfl⟩
  rw [← eM_] at hf hE_
  rw [hE_] at hP hD
  clear hE_ eM_
  refine lv_dup hx hb d_K_take_18 rfl ?_
  refine lv_aload_n hx hb d_K_take_19 rfl (lv_at hl 1 rfl) ?_
  refine lv_aload_n hx hb d_K_take_20 rfl (lv_at hl 1 rfl) ?_
  obtain ⟨fs_, hm_, r8, hv_, hf⟩ := hf
  obtain ⟨ix_, hi_⟩ := m_ix hm_
  refine va_get (D := D) (ci := 0) (v := va_rf r8) (C := "CoinKeeper") (T := F_0) (N := 13) hx hb hts i_0 hown hK hP ix_ hi_ rfl 0 (by decide) (hts _ gw_500) (fun _ h9 => h9) hv_ d_K_take_21 ?_
  clear hv_ hi_ hm_
  obtain ⟨q9, rfl, hf⟩ := hf
  refine W.eq (g2 := F0 m 24 ls [.ref q9, .ref a0, .ref w6, .ref w6]) rfl ?_
  refine lv_iconst (v := 4) hx hb d_K_take_24 (by decide) ?_
  obtain ⟨fs_, hm_, hf⟩ := hf
  obtain ⟨ix_, hi_⟩ := m_ix hm_
  obtain ⟨mc10, ms11, ⟨hc_, hd_⟩, hf⟩ := hf
  refine m_aq (va_runV (C := "CoinKeeper") (As := [.ref q9, .int (4 : Int32)]) (rest := [.ref w6, .ref w6]) ⟨hx, hb, hml, hown, hts⟩ (cw_mK_blockOf l D cy ad mi fu mc10 ms11 a0 q9 (4 : Int32) M7 _ hf H.size) ⟨q_cB hts gw_742 gw_1 gw_739 hdq_28 ⟨Nat.le_of_ble_eq_true rfl, Nat.le_of_ble_eq_true rfl⟩, hts _ gw_741, hts _ gs_12⟩ (q_preVM (q_preM hP hD hK hSt hT hMi hS (m_free hD hS hA) _) (va_recv hK hP (ci := 0) (q0 := ix_) rfl hi_)) rfl rfl hl.1 rfl (lv_room (Nat.le_of_ble_eq_true rfl)) d_K_take_25 ⟨hc_, hd_⟩) hD hS hA (fun v13 M12 H locs hf hP hD hS => ?_)
  have hkc : κ + 1 + 1 + mc10 ≤ MC := hc_
  have hks : σ + a1.toNatClampNeg + 12 + ms11 ≤ MS := hd_
  clear hc_ hd_
  have hq_ := ospp hf
  clear hf
  rcases hq_ with ⟨rfl, hf⟩ | ⟨q14, rfl, hf⟩
  · refine W.eq (g2 := F0 m 28 ls [.null, .ref w6, .ref w6]) rfl ?_
    refine lv_aload_n hx hb d_K_take_28 rfl (lv_at hl 0 rfl) ?_
    refine lv_aload_n hx hb d_K_take_29 rfl (lv_at hl 1 rfl) ?_
    obtain ⟨fs_, hm_, r15, hv_, hf⟩ := hf
    obtain ⟨ix_, hi_⟩ := m_ix hm_
    refine va_get (D := D) (ci := 0) (v := va_rf r15) (C := "CoinKeeper") (T := F_0) (N := 13) hx hb hts i_0 hown hK hP ix_ hi_ rfl 2 (by decide) (hts _ gw_502) (fun _ h9 => h9) hv_ d_K_take_30 ?_
    clear hv_ hi_ hm_
    obtain ⟨q16, rfl, hf⟩ := hf
    refine W.eq (g2 := F0 m 33 ls [.ref q16, .ref w1, .null, .ref w6, .ref w6]) rfl ?_
    obtain ⟨n18, f19, hm_, hfi_, ⟨hkc, hks⟩, hf⟩ := hf
    obtain ⟨ix_, hi_⟩ := m_ix hm_
    refine va_clone (R := rmw_mK_take MC MS) (rest := [.ref w1, .null, .ref w6, .ref w6]) hx hb (hml.trans hl.1.symm) hown (hts _ gw_835) (hts _ gw_836) (hts _ gw_837) (hts _ gw_838) (hts _ gw_839) (hSt.2.1 _ (List.mem_of_getElem? (i := 17) rfl)) hK hP hD hS hA ix_ 0 hi_ rfl (hK.2 0 (cy 0, .byte) rfl).2 (m_cfit hfi_) (Nat.le_of_ble_eq_true rfl) (Nat.le_of_ble_eq_true rfl) hkc hks d_K_take_33 (fun w17 H _ hP hD hS => ?_)
    clear hi_ hm_ hfi_
    have hE_ := m_push (x := .inl (cy 0, n18, .inl f19)) hD
    have hf := hf w17 (va_pl_fresh2 (X := []) (L := M12.1) (f := M12.2) hD) (ad_ne hSt hD)
    obtain ⟨M20, eM_⟩ : ∃ z, z = mp M12 w17 (.inl (cy 0, n18, .inl f19)) := ⟨_, rfl⟩
    rw [← eM_] at hf hE_
    rw [hE_] at hP hD
    clear hE_ eM_
    obtain ⟨x_, hm_, hf⟩ := hf
    obtain ⟨ix_, hi_⟩ := m_ix hm_
    refine va_castA hx hb hown (hts _ gw_841) hP ix_ hi_ (hK.2 0 _ rfl).2 d_K_take_36 ?_
    clear hi_ hm_
    refine lv_aload_n hx hb d_K_take_39 rfl (lv_at hl 1 rfl) ?_
    obtain ⟨fs_, hm_, r21, hv_, hf⟩ := hf
    obtain ⟨ix_, hi_⟩ := m_ix hm_
    refine va_get (D := D) (ci := 0) (v := va_rf r21) (C := "CoinKeeper") (T := F_0) (N := 13) hx hb hts i_0 hown hK hP ix_ hi_ rfl 6 (by decide) (hts _ gw_506) (fun _ h9 => h9) hv_ d_K_take_40 ?_
    clear hv_ hi_ hm_
    obtain ⟨q22, rfl, hf⟩ := hf
    refine W.eq (g2 := F0 m 43 ls [.ref q22, .ref w17, .ref w1, .null, .ref w6, .ref w6]) rfl ?_
    refine lv_aload_n hx hb d_K_take_43 rfl (lv_at hl 1 rfl) ?_
    obtain ⟨fs_, hm_, r23, hv_, hf⟩ := hf
    obtain ⟨ix_, hi_⟩ := m_ix hm_
    refine va_get (D := D) (ci := 0) (v := va_rf r23) (C := "CoinKeeper") (T := F_0) (N := 13) hx hb hts i_0 hown hK hP ix_ hi_ rfl 3 (by decide) (hts _ gw_503) (fun _ h9 => h9) hv_ d_K_take_44 ?_
    clear hv_ hi_ hm_
    obtain ⟨q24, rfl, hf⟩ := hf
    refine W.eq (g2 := F0 m 47 ls [.ref q24, .ref q22, .ref w17, .ref w1, .null, .ref w6, .ref w6]) rfl ?_
    obtain ⟨fs_, hm_, hf⟩ := hf
    obtain ⟨ix_, hi_⟩ := m_ix hm_
    obtain ⟨mc25, ms26, ⟨hc_, hd_⟩, hf⟩ := hf
    refine m_aq (va_runV (C := "CoinKeeper$Layout") (As := [.ref q24]) (rest := [.ref w17, .ref w1, .null, .ref w6, .ref w6]) ⟨hx, hb, hml, hown, hts⟩ (cw_mLa_ids l D cy ad mi fu mc25 ms26 q22 q24 M20 _ hf H.size) ⟨q_cB hts gw_786 gw_8 gw_842 hdq_24 ⟨Nat.le_of_ble_eq_true rfl, Nat.le_of_ble_eq_true rfl⟩, hts _ gw_784, hts _ gw_785⟩ (q_preVM (q_preM hP hD hK hSt hT hMi hS (m_free hD hS hA) _) (va_recv hK hP (ci := 4) (q0 := ix_) rfl hi_)) rfl rfl hl.1 rfl (lv_room (Nat.le_of_ble_eq_true rfl)) d_K_take_47 ⟨hc_, hd_⟩) hD hS hA (fun v28 M27 H locs hf hP hD hS => ?_)
    have hkc : κ + 1 + 1 + mc10 + 1 + mc25 ≤ MC := hc_
    have hks : σ + a1.toNatClampNeg + 12 + ms11 + n18 + ms26 ≤ MS := hd_
    clear hc_ hd_
    obtain ⟨q29, rfl, hf⟩ := hf
    refine W.eq (g2 := F0 m 50 ls [.ref q29, .ref w17, .ref w1, .null, .ref w6, .ref w6]) rfl ?_
    obtain ⟨mc30, ms31, ⟨hc_, hd_⟩, hf⟩ := hf
    refine m_av (va_runI (As := [.null, .ref w1, .ref w17, .ref q29]) (rest := [.ref w6]) ⟨hx, hb, hml, hown, hts⟩ (cw_mBl_init_z1 l D cy ad mi fu mc30 ms31 w6 w1 w17 q29 M27 _ hf H.size) ⟨q_cB hts gw_378 gw_13 gw_376 hdq_29 ⟨Nat.le_of_ble_eq_true rfl, Nat.le_of_ble_eq_true rfl⟩, rfl, hts _ gw_377⟩ (q_preM hP hD hK hSt hT hMi hS (m_free hD hS hA) _) rfl rfl hl.1 rfl (lv_room (Nat.le_of_ble_eq_true rfl)) d_K_take_50 ⟨hc_, hd_⟩) hD hS hA (fun M32 H locs hf hP hD hS => ?_)
    have hkc : κ + 1 + 1 + mc10 + 1 + mc25 + mc30 ≤ MC := hc_
    have hks : σ + a1.toNatClampNeg + 12 + ms11 + n18 + ms26 + ms31 ≤ MS := hd_
    clear hc_ hd_
    refine lv_astore_n (lv' := [(3, .ref w6), (2, .ref w1), (0, .ref a0), (1, .int a1)]) hx hb d_K_take_53 rfl hl (by decide) rfl (fun ls hl => ?_)
    refine lv_aload_n hx hb d_K_take_54 rfl (lv_at hl 0 rfl) ?_
    refine lv_aload_n hx hb d_K_take_55 rfl (lv_at hl 2 rfl) ?_
    obtain ⟨fs_, hm_, r33, hv_, hf⟩ := hf
    obtain ⟨ix_, hi_⟩ := m_ix hm_
    refine va_get (D := D) (ci := 0) (v := va_rf r33) (C := "CoinKeeper") (T := F_0) (N := 13) hx hb hts i_0 hown hK hP ix_ hi_ rfl 6 (by decide) (hts _ gw_506) (fun _ h9 => h9) hv_ d_K_take_56 ?_
    clear hv_ hi_ hm_
    obtain ⟨q34, rfl, hf⟩ := hf
    refine W.eq (g2 := F0 m 59 ls [.ref q34, .ref w6]) rfl ?_
    obtain ⟨fs_, hm_, r35, hv_, hf⟩ := hf
    obtain ⟨ix_, hi_⟩ := m_ix hm_
    refine va_get (D := D) (ci := 4) (v := va_rf r35) (C := "CoinKeeper$Layout") (T := F_4) (N := 15) hx hb hts i_4 hown hK hP ix_ hi_ rfl 4 (by decide) (hts _ gw_281) (fun _ h9 => h9) hv_ d_K_take_59 ?_
    clear hv_ hi_ hm_
    obtain ⟨q36, rfl, hf⟩ := hf
    refine W.eq (g2 := F0 m 62 ls [.ref q36, .ref w6]) rfl ?_
    refine lv_aload_n hx hb d_K_take_62 rfl (lv_at hl 2 rfl) ?_
    obtain ⟨fs_, hm_, r37, hv_, hf⟩ := hf
    obtain ⟨ix_, hi_⟩ := m_ix hm_
    refine va_get (D := D) (ci := 0) (v := va_rf r37) (C := "CoinKeeper") (T := F_0) (N := 13) hx hb hts i_0 hown hK hP ix_ hi_ rfl 6 (by decide) (hts _ gw_506) (fun _ h9 => h9) hv_ d_K_take_63 ?_
    clear hv_ hi_ hm_
    obtain ⟨q38, rfl, hf⟩ := hf
    refine W.eq (g2 := F0 m 66 ls [.ref q38, .ref q36, .ref w6]) rfl ?_
    obtain ⟨fs_, hm_, v39, hv_, hf⟩ := hf
    obtain ⟨ix_, hi_⟩ := m_ix hm_
    refine va_get (D := D) (ci := 4) (v := .int v39) (C := "CoinKeeper$Layout") (T := F_4) (N := 15) hx hb hts i_4 hown hK hP ix_ hi_ rfl 1 (by decide) (hts _ gw_273) (fun _ h9 => h9) hv_ d_K_take_66 ?_
    clear hv_ hi_ hm_
    obtain ⟨n_, f_, hm_, hin_, hf⟩ := hf
    obtain ⟨ix_, hi_⟩ := m_ix hm_
    refine va_iald hx hb hK hP ix_ 1 hi_ rfl (inb_in hin_) d_K_take_69 ?_
    obtain ⟨v40, ev⟩ : ∃ z, z = f_ v39.toNatClampNeg := ⟨_, rfl⟩
    first | rw [← ev] at hf ⊢ | rw [← ev]
    clear ev hi_ hm_ hin_
    obtain ⟨⟨hn_, hby_⟩, hf⟩ := hf
    obtain ⟨⟨hkc, hks⟩, hf⟩ := hf
    refine q_newq hx hb hown (hts _ gw_372) (hSt.2.2.2.2 _ (List.mem_of_getElem? (i := 2) rfl)) hK hP hD hS hA 6 rfl hn_ rfl hby_ hkc hks d_K_take_70 (fun w41 H hP hD hS => ?_)
    have hE_ := m_push (x := .inl (cy 6, v40.toNatClampNeg, .inr (.inr (.inr (.inr (fun _ => Option.none)))))) hD
    have hf := hf w41 (va_pl_fresh2 (X := []) (L := M32.1) (f := M32.2) hD) (ad_ne hSt hD)
    obtain ⟨M42, eM_⟩ : ∃ z, z = mp M32 w41 (.inl (cy 6, v40.toNatClampNeg, .inr (.inr (.inr (.inr (fun _ => Option.none)))))) := ⟨_, rfl⟩
    rw [← eM_] at hf hE_
    rw [hE_] at hP hD
    clear hE_ eM_
    obtain ⟨fs_, hm_, hlen_, hf⟩ := hf
    obtain ⟨ix_, hi_⟩ := m_ix hm_
    have hE_ := m_set (y := .inr (1, fs_.set 8 (.ref w41))) hD hi_
    refine va_put (D := D) (ci := 1) (v := .ref w41) (ty := .array (.object "CoinKeeper$Coin")) (C := "CoinKeeper$Block") (T := F_1) (N := 12) hx hb hts i_1 t_1 t_1_ok n_1 hown hK hP hD hS ix_ hi_ rfl 8 (by decide) (hts _ gw_408) (fun _ h9 => h9) rfl (by decide +kernel) rfl rfl hlen_ d_K_take_73 (fun H locs hP hD hS => ?_)
    obtain ⟨M43, eM_⟩ : ∃ z, z = mu M42 w6 (.inr (1, fs_.set 8 (.ref w41))) := ⟨_, rfl⟩
    rw [← eM_] at hf hE_
    rw [hE_] at hP hD
    clear hE_ eM_ hi_ hm_
    refine lv_iconst (v := 0) hx hb d_K_take_76 (by decide) ?_
    refine lv_istore (lv' := [(4, .int (0 : Int32)), (3, .ref w6), (2, .ref w1), (0, .ref a0), (1, .int a1)]) hx hb d_K_take_77 hl (by decide) rfl (fun ls hl => ?_)
    exact ww_mK_take_79 F fu _ _ _ _ _ _ _ hf hkc hks _ _ _ hP hD hS (lv_sub hl [3, 4, 1, 0] rfl)
  · refine W.eq (g2 := F0 m 28 ls [.ref q14, .ref w6, .ref w6]) rfl ?_
    refine lv_aload_n hx hb d_K_take_28 rfl (lv_at hl 0 rfl) ?_
    refine lv_aload_n hx hb d_K_take_29 rfl (lv_at hl 1 rfl) ?_
    obtain ⟨fs_, hm_, r44, hv_, hf⟩ := hf
    obtain ⟨ix_, hi_⟩ := m_ix hm_
    refine va_get (D := D) (ci := 0) (v := va_rf r44) (C := "CoinKeeper") (T := F_0) (N := 13) hx hb hts i_0 hown hK hP ix_ hi_ rfl 2 (by decide) (hts _ gw_502) (fun _ h9 => h9) hv_ d_K_take_30 ?_
    clear hv_ hi_ hm_
    obtain ⟨q45, rfl, hf⟩ := hf
    refine W.eq (g2 := F0 m 33 ls [.ref q45, .ref w1, .ref q14, .ref w6, .ref w6]) rfl ?_
    obtain ⟨n47, f48, hm_, hfi_, ⟨hkc, hks⟩, hf⟩ := hf
    obtain ⟨ix_, hi_⟩ := m_ix hm_
    refine va_clone (R := rmw_mK_take MC MS) (rest := [.ref w1, .ref q14, .ref w6, .ref w6]) hx hb (hml.trans hl.1.symm) hown (hts _ gw_835) (hts _ gw_836) (hts _ gw_837) (hts _ gw_838) (hts _ gw_839) (hSt.2.1 _ (List.mem_of_getElem? (i := 17) rfl)) hK hP hD hS hA ix_ 0 hi_ rfl (hK.2 0 (cy 0, .byte) rfl).2 (m_cfit hfi_) (Nat.le_of_ble_eq_true rfl) (Nat.le_of_ble_eq_true rfl) hkc hks d_K_take_33 (fun w46 H _ hP hD hS => ?_)
    clear hi_ hm_ hfi_
    have hE_ := m_push (x := .inl (cy 0, n47, .inl f48)) hD
    have hf := hf w46 (va_pl_fresh2 (X := []) (L := M12.1) (f := M12.2) hD) (ad_ne hSt hD)
    obtain ⟨M49, eM_⟩ : ∃ z, z = mp M12 w46 (.inl (cy 0, n47, .inl f48)) := ⟨_, rfl⟩
    rw [← eM_] at hf hE_
    rw [hE_] at hP hD
    clear hE_ eM_
    obtain ⟨x_, hm_, hf⟩ := hf
    obtain ⟨ix_, hi_⟩ := m_ix hm_
    refine va_castA hx hb hown (hts _ gw_841) hP ix_ hi_ (hK.2 0 _ rfl).2 d_K_take_36 ?_
    clear hi_ hm_
    refine lv_aload_n hx hb d_K_take_39 rfl (lv_at hl 1 rfl) ?_
    obtain ⟨fs_, hm_, r50, hv_, hf⟩ := hf
    obtain ⟨ix_, hi_⟩ := m_ix hm_
    refine va_get (D := D) (ci := 0) (v := va_rf r50) (C := "CoinKeeper") (T := F_0) (N := 13) hx hb hts i_0 hown hK hP ix_ hi_ rfl 6 (by decide) (hts _ gw_506) (fun _ h9 => h9) hv_ d_K_take_40 ?_
    clear hv_ hi_ hm_
    obtain ⟨q51, rfl, hf⟩ := hf
    refine W.eq (g2 := F0 m 43 ls [.ref q51, .ref w46, .ref w1, .ref q14, .ref w6, .ref w6]) rfl ?_
    refine lv_aload_n hx hb d_K_take_43 rfl (lv_at hl 1 rfl) ?_
    obtain ⟨fs_, hm_, r52, hv_, hf⟩ := hf
    obtain ⟨ix_, hi_⟩ := m_ix hm_
    refine va_get (D := D) (ci := 0) (v := va_rf r52) (C := "CoinKeeper") (T := F_0) (N := 13) hx hb hts i_0 hown hK hP ix_ hi_ rfl 3 (by decide) (hts _ gw_503) (fun _ h9 => h9) hv_ d_K_take_44 ?_
    clear hv_ hi_ hm_
    obtain ⟨q53, rfl, hf⟩ := hf
    refine W.eq (g2 := F0 m 47 ls [.ref q53, .ref q51, .ref w46, .ref w1, .ref q14, .ref w6, .ref w6]) rfl ?_
    obtain ⟨fs_, hm_, hf⟩ := hf
    obtain ⟨ix_, hi_⟩ := m_ix hm_
    obtain ⟨mc54, ms55, ⟨hc_, hd_⟩, hf⟩ := hf
    refine m_aq (va_runV (C := "CoinKeeper$Layout") (As := [.ref q53]) (rest := [.ref w46, .ref w1, .ref q14, .ref w6, .ref w6]) ⟨hx, hb, hml, hown, hts⟩ (cw_mLa_ids l D cy ad mi fu mc54 ms55 q51 q53 M49 _ hf H.size) ⟨q_cB hts gw_786 gw_8 gw_842 hdq_24 ⟨Nat.le_of_ble_eq_true rfl, Nat.le_of_ble_eq_true rfl⟩, hts _ gw_784, hts _ gw_785⟩ (q_preVM (q_preM hP hD hK hSt hT hMi hS (m_free hD hS hA) _) (va_recv hK hP (ci := 4) (q0 := ix_) rfl hi_)) rfl rfl hl.1 rfl (lv_room (Nat.le_of_ble_eq_true rfl)) d_K_take_47 ⟨hc_, hd_⟩) hD hS hA (fun v57 M56 H locs hf hP hD hS => ?_)
    have hkc : κ + 1 + 1 + mc10 + 1 + mc54 ≤ MC := hc_
    have hks : σ + a1.toNatClampNeg + 12 + ms11 + n47 + ms55 ≤ MS := hd_
    clear hc_ hd_
    obtain ⟨q58, rfl, hf⟩ := hf
    refine W.eq (g2 := F0 m 50 ls [.ref q58, .ref w46, .ref w1, .ref q14, .ref w6, .ref w6]) rfl ?_
    obtain ⟨mc59, ms60, ⟨hc_, hd_⟩, hf⟩ := hf
    refine m_av (va_runI (As := [.ref q14, .ref w1, .ref w46, .ref q58]) (rest := [.ref w6]) ⟨hx, hb, hml, hown, hts⟩ (cw_mBl_init l D cy ad mi fu mc59 ms60 w6 q14 w1 w46 q58 M56 _ hf H.size) ⟨q_cB hts gw_378 gw_13 gw_376 hdq_29 ⟨Nat.le_of_ble_eq_true rfl, Nat.le_of_ble_eq_true rfl⟩, rfl, hts _ gw_377⟩ (q_preM hP hD hK hSt hT hMi hS (m_free hD hS hA) _) rfl rfl hl.1 rfl (lv_room (Nat.le_of_ble_eq_true rfl)) d_K_take_50 ⟨hc_, hd_⟩) hD hS hA (fun M61 H locs hf hP hD hS => ?_)
    have hkc : κ + 1 + 1 + mc10 + 1 + mc54 + mc59 ≤ MC := hc_
    have hks : σ + a1.toNatClampNeg + 12 + ms11 + n47 + ms55 + ms60 ≤ MS := hd_
    clear hc_ hd_
    refine lv_astore_n (lv' := [(3, .ref w6), (2, .ref w1), (0, .ref a0), (1, .int a1)]) hx hb d_K_take_53 rfl hl (by decide) rfl (fun ls hl => ?_)
    refine lv_aload_n hx hb d_K_take_54 rfl (lv_at hl 0 rfl) ?_
    refine lv_aload_n hx hb d_K_take_55 rfl (lv_at hl 2 rfl) ?_
    obtain ⟨fs_, hm_, r62, hv_, hf⟩ := hf
    obtain ⟨ix_, hi_⟩ := m_ix hm_
    refine va_get (D := D) (ci := 0) (v := va_rf r62) (C := "CoinKeeper") (T := F_0) (N := 13) hx hb hts i_0 hown hK hP ix_ hi_ rfl 6 (by decide) (hts _ gw_506) (fun _ h9 => h9) hv_ d_K_take_56 ?_
    clear hv_ hi_ hm_
    obtain ⟨q63, rfl, hf⟩ := hf
    refine W.eq (g2 := F0 m 59 ls [.ref q63, .ref w6]) rfl ?_
    obtain ⟨fs_, hm_, r64, hv_, hf⟩ := hf
    obtain ⟨ix_, hi_⟩ := m_ix hm_
    refine va_get (D := D) (ci := 4) (v := va_rf r64) (C := "CoinKeeper$Layout") (T := F_4) (N := 15) hx hb hts i_4 hown hK hP ix_ hi_ rfl 4 (by decide) (hts _ gw_281) (fun _ h9 => h9) hv_ d_K_take_59 ?_
    clear hv_ hi_ hm_
    obtain ⟨q65, rfl, hf⟩ := hf
    refine W.eq (g2 := F0 m 62 ls [.ref q65, .ref w6]) rfl ?_
    refine lv_aload_n hx hb d_K_take_62 rfl (lv_at hl 2 rfl) ?_
    obtain ⟨fs_, hm_, r66, hv_, hf⟩ := hf
    obtain ⟨ix_, hi_⟩ := m_ix hm_
    refine va_get (D := D) (ci := 0) (v := va_rf r66) (C := "CoinKeeper") (T := F_0) (N := 13) hx hb hts i_0 hown hK hP ix_ hi_ rfl 6 (by decide) (hts _ gw_506) (fun _ h9 => h9) hv_ d_K_take_63 ?_
    clear hv_ hi_ hm_
    obtain ⟨q67, rfl, hf⟩ := hf
    refine W.eq (g2 := F0 m 66 ls [.ref q67, .ref q65, .ref w6]) rfl ?_
    obtain ⟨fs_, hm_, v68, hv_, hf⟩ := hf
    obtain ⟨ix_, hi_⟩ := m_ix hm_
    refine va_get (D := D) (ci := 4) (v := .int v68) (C := "CoinKeeper$Layout") (T := F_4) (N := 15) hx hb hts i_4 hown hK hP ix_ hi_ rfl 1 (by decide) (hts _ gw_273) (fun _ h9 => h9) hv_ d_K_take_66 ?_
    clear hv_ hi_ hm_
    obtain ⟨n_, f_, hm_, hin_, hf⟩ := hf
    obtain ⟨ix_, hi_⟩ := m_ix hm_
    refine va_iald hx hb hK hP ix_ 1 hi_ rfl (inb_in hin_) d_K_take_69 ?_
    obtain ⟨v69, ev⟩ : ∃ z, z = f_ v68.toNatClampNeg := ⟨_, rfl⟩
    first | rw [← ev] at hf ⊢ | rw [← ev]
    clear ev hi_ hm_ hin_
    obtain ⟨⟨hn_, hby_⟩, hf⟩ := hf
    obtain ⟨⟨hkc, hks⟩, hf⟩ := hf
    refine q_newq hx hb hown (hts _ gw_372) (hSt.2.2.2.2 _ (List.mem_of_getElem? (i := 2) rfl)) hK hP hD hS hA 6 rfl hn_ rfl hby_ hkc hks d_K_take_70 (fun w70 H hP hD hS => ?_)
    have hE_ := m_push (x := .inl (cy 6, v69.toNatClampNeg, .inr (.inr (.inr (.inr (fun _ => Option.none)))))) hD
    have hf := hf w70 (va_pl_fresh2 (X := []) (L := M61.1) (f := M61.2) hD) (ad_ne hSt hD)
    obtain ⟨M71, eM_⟩ : ∃ z, z = mp M61 w70 (.inl (cy 6, v69.toNatClampNeg, .inr (.inr (.inr (.inr (fun _ => Option.none)))))) := ⟨_, rfl⟩
    rw [← eM_] at hf hE_
    rw [hE_] at hP hD
    clear hE_ eM_
    obtain ⟨fs_, hm_, hlen_, hf⟩ := hf
    obtain ⟨ix_, hi_⟩ := m_ix hm_
    have hE_ := m_set (y := .inr (1, fs_.set 8 (.ref w70))) hD hi_
    refine va_put (D := D) (ci := 1) (v := .ref w70) (ty := .array (.object "CoinKeeper$Coin")) (C := "CoinKeeper$Block") (T := F_1) (N := 12) hx hb hts i_1 t_1 t_1_ok n_1 hown hK hP hD hS ix_ hi_ rfl 8 (by decide) (hts _ gw_408) (fun _ h9 => h9) rfl (by decide +kernel) rfl rfl hlen_ d_K_take_73 (fun H locs hP hD hS => ?_)
    obtain ⟨M72, eM_⟩ : ∃ z, z = mu M71 w6 (.inr (1, fs_.set 8 (.ref w70))) := ⟨_, rfl⟩
    rw [← eM_] at hf hE_
    rw [hE_] at hP hD
    clear hE_ eM_ hi_ hm_
    refine lv_iconst (v := 0) hx hb d_K_take_76 (by decide) ?_
    refine lv_istore (lv' := [(4, .int (0 : Int32)), (3, .ref w6), (2, .ref w1), (0, .ref a0), (1, .int a1)]) hx hb d_K_take_77 hl (by decide) rfl (fun ls hl => ?_)
    exact ww_mK_take_79 F fu _ _ _ _ _ _ _ hf hkc hks _ _ _ hP hD hS (lv_sub hl [3, 4, 1, 0] rfl)
theorem cw_mK_take (l : Launch) (D : va_G) (cy : Nat → ClassId) (ad : Nat → Nat) (mi fu MC MS : Nat) (a0 : Nat) (a1 : Int32) (M : Mm) (Φ : Option Nat → Mm → Prop) (hf : xw_mK_take fu MC MS cy ad mi Φ 0 0 M a0 a1) (sz : Nat) : Met l ({ cls := "CoinKeeper", name := "take", desc := "(I)LCoinKeeper$Block;" } : Jvm.MethodName) (.code ({ cls := "CoinKeeper", name := "take", desc := "(I)LCoinKeeper$Block;" } : Jvm.MethodName) b_K_take 6 (Option.some (Jvm.ClassFile.FieldType.object "CoinKeeper$Block")) :: gw) (rmw_mK_take MC MS) (va_Pc [.ref a0, .int a1] (PrM D cy ad mi (mw M) sz)) (va_Qq Φ (fun u t => Po D cy (va_A (mw M) sz) (mw u) t) (va_A (mw M) sz)) MC MS (va_A (mw M) sz) :=
  q_metM (Qc := fun A => va_Qq Φ (fun u t => Po D cy A (mw u) t) A) (by decide) rfl rfl (Nat.le_of_ble_eq_true rfl) (fun p e s m below meth c ls F hP hD hS hl => wew_mK_take (fu := fu) F 0 0 M a0 a1 hf (Nat.zero_le _) (Nat.zero_le _) _ _ _ hP hD hS hl) sz
abbrev b_K_spentValue : ByteArray := prog_1_method_18_code
theorem d_K_spentValue_0 : decode b_K_spentValue 0 = .ok (.lconst 0, 1) := by decide +kernel
theorem d_K_spentValue_1 : decode b_K_spentValue 1 = .ok (.lstore_n 2, 1) := by decide +kernel
theorem d_K_spentValue_2 : decode b_K_spentValue 2 = .ok (.aload_n 0, 1) := by decide +kernel
theorem d_K_spentValue_3 : decode b_K_spentValue 3 = .ok (.getfield 42, 3) := by decide +kernel
theorem d_K_spentValue_6 : decode b_K_spentValue 6 = .ok (.getfield 294, 3) := by decide +kernel
theorem d_K_spentValue_9 : decode b_K_spentValue 9 = .ok (.iload_n 1, 1) := by decide +kernel
theorem d_K_spentValue_10 : decode b_K_spentValue 10 = .ok (.iaload, 1) := by decide +kernel
theorem d_K_spentValue_11 : decode b_K_spentValue 11 = .ok (.istore 4, 2) := by decide +kernel
theorem d_K_spentValue_13 : decode b_K_spentValue 13 = .ok (.iload 4, 2) := by decide +kernel
theorem d_K_spentValue_15 : decode b_K_spentValue 15 = .ok (.aload_n 0, 1) := by decide +kernel
theorem d_K_spentValue_16 : decode b_K_spentValue 16 = .ok (.getfield 42, 3) := by decide +kernel
theorem d_K_spentValue_19 : decode b_K_spentValue 19 = .ok (.getfield 294, 3) := by decide +kernel
theorem d_K_spentValue_22 : decode b_K_spentValue 22 = .ok (.iload_n 1, 1) := by decide +kernel
theorem d_K_spentValue_23 : decode b_K_spentValue 23 = .ok (.iconst 1, 1) := by decide +kernel
theorem d_K_spentValue_24 : decode b_K_spentValue 24 = .ok (.iadd, 1) := by decide +kernel
theorem d_K_spentValue_25 : decode b_K_spentValue 25 = .ok (.iaload, 1) := by decide +kernel
theorem d_K_spentValue_26 : decode b_K_spentValue 26 = .ok (.if_icmp .ge 22, 3) := by decide +kernel
theorem d_K_spentValue_29 : decode b_K_spentValue 29 = .ok (.lload_n 2, 1) := by decide +kernel
theorem d_K_spentValue_30 : decode b_K_spentValue 30 = .ok (.aload_n 0, 1) := by decide +kernel
theorem d_K_spentValue_31 : decode b_K_spentValue 31 = .ok (.getfield 62, 3) := by decide +kernel
theorem d_K_spentValue_34 : decode b_K_spentValue 34 = .ok (.iload 4, 2) := by decide +kernel
theorem d_K_spentValue_36 : decode b_K_spentValue 36 = .ok (.aaload, 1) := by decide +kernel
theorem d_K_spentValue_37 : decode b_K_spentValue 37 = .ok (.getfield 187, 3) := by decide +kernel
theorem d_K_spentValue_40 : decode b_K_spentValue 40 = .ok (.ladd, 1) := by decide +kernel
theorem d_K_spentValue_41 : decode b_K_spentValue 41 = .ok (.lstore_n 2, 1) := by decide +kernel
theorem d_K_spentValue_42 : decode b_K_spentValue 42 = .ok (.iinc 4 1, 3) := by decide +kernel
theorem d_K_spentValue_45 : decode b_K_spentValue 45 = .ok (.goto (-32), 3) := by decide +kernel
theorem d_K_spentValue_48 : decode b_K_spentValue 48 = .ok (.lload_n 2, 1) := by decide +kernel
theorem d_K_spentValue_49 : decode b_K_spentValue 49 = .ok (.lreturn, 1) := by decide +kernel
abbrev rmw_mK_spentValue (MC MS : Nat) : Room := { frames := 0, cells := MC, slots := MS, locals := 0 }
def Iw_mK_spentValue_13 (p : Program) (l : Launch) (e : Env) (s : State) (m : MethodId) (args : Array Value) (below : List Frame) (meth : Method) (c : Code) (D : va_G) (cy : Nat → ClassId) (A : Nat → Prop) (ad : Nat → Nat) (mi MC MS : Nat) (Φ : Int64 → Mm → Prop) (k : Nat → Nat → Mm → Nat → Int32 → Int64 → Int32 → Prop) : Prop :=
  ∀ (κ σ : Nat) (M : Mm) (x0 : Nat) (x1 : Int32) (x2 : Int64) (x4 : Int32), k κ σ M x0 x1 x2 x4 → κ ≤ MC → σ ≤ MS → ∀ (H : Heap) (locs : List Loc) (ls : Array Slot), va_P D classes (mw M) H → va_D A (mw M) → va_S A s.heap H locs → lv_has ls 5 [(0, .ref x0), (1, .int x1), (2, .long x2), (4, .int x4)] → W p l e (rmw_mK_spentValue MC MS) s m args below meth c H locs κ σ (MQ below (va_Ql Φ (fun u t => Po D cy A (mw u) t) A) args s MC MS A) (F0 m 13 ls [])
def Iw_mK_spentValue_e (p : Program) (l : Launch) (e : Env) (s : State) (m : MethodId) (args : Array Value) (below : List Frame) (meth : Method) (c : Code) (D : va_G) (cy : Nat → ClassId) (A : Nat → Prop) (ad : Nat → Nat) (mi MC MS : Nat) (Φ : Int64 → Mm → Prop) (k : Nat → Nat → Mm → Nat → Int32 → Prop) : Prop :=
  ∀ (κ σ : Nat) (M : Mm) (a0 : Nat) (a1 : Int32), k κ σ M a0 a1 → κ ≤ MC → σ ≤ MS → ∀ (H : Heap) (locs : List Loc) (ls : Array Slot), va_P D classes (mw M) H → va_D A (mw M) → va_S A s.heap H locs → lv_has ls 5 [(0, .ref a0), (1, .int a1)] → W p l e (rmw_mK_spentValue MC MS) s m args below meth c H locs κ σ (MQ below (va_Ql Φ (fun u t => Po D cy A (mw u) t) A) args s MC MS A) (F0 m 0 ls [])
set_option maxHeartbeats 8000000 in
set_option maxRecDepth 100000 in
theorem wv_mK_spentValue_13 {p : Program} {l : Launch} {e : Env} {s : State} {m : MethodId} {args : Array Value} {below : List Frame} {meth : Method} {c : Code} {D : va_G} {cy : Nat → ClassId} {A : Nat → Prop} {ad : Nat → Nat} {mi MC MS : Nat} {Φ : Int64 → Mm → Prop} {fu : Nat} {k_13 : Nat → Nat → Mm → Nat → Int32 → Int64 → Int32 → Prop} (F : FxM p s m args meth c b_K_spentValue 5 "CoinKeeper" "spentValue" (some .long) D cy ad mi A) (hk_13 : Iw_mK_spentValue_13 p l e s m args below meth c D cy A ad mi MC MS Φ k_13) : Iw_mK_spentValue_13 p l e s m args below meth c D cy A ad mi MC MS Φ (xv_mK_spentValue_13 fu MC MS cy ad mi Φ k_13) := by
  obtain ⟨⟨hx, hb, hr, hml, hown, hts, hlocks, hK, hA, hSt, hnm, hex⟩, hT, hMi⟩ := id F
  intro κ σ M x0 x1 x2 x4 hf hkc hks H locs ls hP hD hS hl
  unfold xv_mK_spentValue_13 at hf
  refine lv_iload hx hb d_K_spentValue_13 (lv_at hl 3 rfl) ?_
  refine lv_aload_n hx hb d_K_spentValue_15 rfl (lv_at hl 0 rfl) ?_
  obtain ⟨fs_, hm_, r1, hv_, hf⟩ := hf
  obtain ⟨ix_, hi_⟩ := m_ix hm_
  refine va_get (D := D) (ci := 0) (v := va_rf r1) (C := "CoinKeeper") (T := F_0) (N := 13) hx hb hts i_0 hown hK hP ix_ hi_ rfl 6 (by decide) (hts _ gw_506) (fun _ h9 => h9) hv_ d_K_spentValue_16 ?_
  clear hv_ hi_ hm_
  obtain ⟨q2, rfl, hf⟩ := hf
  refine W.eq (g2 := F0 m 19 ls [.ref q2, .int x4]) rfl ?_
  obtain ⟨fs_, hm_, r3, hv_, hf⟩ := hf
  obtain ⟨ix_, hi_⟩ := m_ix hm_
  refine va_get (D := D) (ci := 4) (v := va_rf r3) (C := "CoinKeeper$Layout") (T := F_4) (N := 15) hx hb hts i_4 hown hK hP ix_ hi_ rfl 3 (by decide) (hts _ gw_277) (fun _ h9 => h9) hv_ d_K_spentValue_19 ?_
  clear hv_ hi_ hm_
  obtain ⟨q4, rfl, hf⟩ := hf
  refine W.eq (g2 := F0 m 22 ls [.ref q4, .int x4]) rfl ?_
  refine lv_iload_n hx hb d_K_spentValue_22 rfl (lv_at hl 1 rfl) ?_
  refine lv_iconst (v := 1) hx hb d_K_spentValue_23 (by decide) ?_
  refine lv_iadd hx hb d_K_spentValue_24 ?_
  refine lv_topi (fun v5 ev => ?_)
  have hf := bnQ ev hf
  clear ev
  obtain ⟨n_, f_, hm_, hin_, hf⟩ := hf
  obtain ⟨ix_, hi_⟩ := m_ix hm_
  refine va_iald hx hb hK hP ix_ 1 hi_ rfl (inb_in hin_) d_K_spentValue_25 ?_
  obtain ⟨v6, ev⟩ : ∃ z, z = f_ v5.toNatClampNeg := ⟨_, rfl⟩
  first | rw [← ev] at hf ⊢ | rw [← ev]
  clear ev hi_ hm_ hin_
  refine lv_icmp_ge (tgt := 48) hx hb d_K_spentValue_26 (by decide) (fun cx => ?_) (fun cx => ?_)
  · have hf := ifpP cx hf
    refine lv_lload_n hx hb d_K_spentValue_48 rfl (lv_at hl 2 rfl) ?_
    refine W.widen (k := MC) (n := MS) hkc hks ?_
    exact m_rl hf hx hb hr hlocks hK hP hD hS d_K_spentValue_49
  · have hf := ifnP cx hf
    refine lv_lload_n hx hb d_K_spentValue_29 rfl (lv_at hl 2 rfl) ?_
    refine lv_aload_n hx hb d_K_spentValue_30 rfl (lv_at hl 0 rfl) ?_
    obtain ⟨fs_, hm_, r7, hv_, hf⟩ := hf
    obtain ⟨ix_, hi_⟩ := m_ix hm_
    refine va_get (D := D) (ci := 0) (v := va_rf r7) (C := "CoinKeeper") (T := F_0) (N := 13) hx hb hts i_0 hown hK hP ix_ hi_ rfl 9 (by decide) (hts _ gw_509) (fun _ h9 => h9) hv_ d_K_spentValue_31 ?_
    clear hv_ hi_ hm_
    obtain ⟨q8, rfl, hf⟩ := hf
    refine W.eq (g2 := F0 m 34 ls [.ref q8, .long x2]) rfl ?_
    refine lv_iload hx hb d_K_spentValue_34 (lv_at hl 3 rfl) ?_
    obtain ⟨n_, f_, hm_, hin_, hf⟩ := hf
    obtain ⟨ix_, hi_⟩ := m_ix hm_
    refine va_aldq hx hb hK hP ix_ 6 hi_ rfl (inb_in hin_) d_K_spentValue_36 ?_
    obtain ⟨r9, ev⟩ : ∃ z, z = f_ x4.toNatClampNeg := ⟨_, rfl⟩
    first | rw [← ev] at hf ⊢ | rw [← ev]
    clear ev hi_ hm_ hin_
    have hq_ := ospp hf
    clear hf
    rcases hq_ with ⟨rfl, hf⟩ | ⟨q10, rfl, hf⟩
    · refine W.eq (g2 := F0 m 37 ls [.null, .long x2]) rfl ?_
      exact hf.elim
    · refine W.eq (g2 := F0 m 37 ls [.ref q10, .long x2]) rfl ?_
      obtain ⟨fs_, hm_, v11, hv_, hf⟩ := hf
      obtain ⟨ix_, hi_⟩ := m_ix hm_
      refine va_get (D := D) (ci := 2) (v := .long v11) (C := "CoinKeeper$Coin") (T := F_2) (N := 10) hx hb hts i_2 hown hK hP ix_ hi_ rfl 4 (by decide) (hts _ gw_861) (fun _ h9 => h9) hv_ d_K_spentValue_37 ?_
      clear hv_ hi_ hm_
      refine lv_ladd hx hb d_K_spentValue_40 ?_
      refine lv_topl (fun v12 ev => ?_)
      have hf := bnQ ev hf
      clear ev
      refine lv_lstore_n (lv' := [(2, .long v12), (0, .ref x0), (1, .int x1), (4, .int x4)]) hx hb d_K_spentValue_41 rfl hl (by decide) rfl (fun ls hl => ?_)
      obtain ⟨v13, ev, hf⟩ := bnP hf
      refine lv_iinc (v := v13) (lv' := [(4, .int v13), (2, .long v12), (0, .ref x0), (1, .int x1)]) hx hb d_K_spentValue_42 hl (k := 3) rfl (by rw [ev]; rfl) (by decide) rfl (fun ls hl => ?_)
      clear ev
      refine lv_goto (tgt := 13) hx hb d_K_spentValue_45 (by decide) ?_
      exact hk_13 _ _ _ _ _ _ _ hf hkc hks _ _ _ hP hD hS (lv_sub hl [2, 3, 1, 0] rfl)
theorem ww_mK_spentValue_13 {p : Program} {l : Launch} {e : Env} {s : State} {m : MethodId} {args : Array Value} {below : List Frame} {meth : Method} {c : Code} {D : va_G} {cy : Nat → ClassId} {A : Nat → Prop} {ad : Nat → Nat} {mi MC MS : Nat} {Φ : Int64 → Mm → Prop} {fu : Nat} (F : FxM p s m args meth c b_K_spentValue 5 "CoinKeeper" "spentValue" (some .long) D cy ad mi A) : ∀ n : Nat, Iw_mK_spentValue_13 p l e s m args below meth c D cy A ad mi MC MS Φ (xw_mK_spentValue_13 fu MC MS cy ad mi Φ n)
  | 0 => fun _ _ _ _ _ _ _ hf => False.elim hf
  | n + 1 => wv_mK_spentValue_13 F (ww_mK_spentValue_13 F n)
set_option maxHeartbeats 8000000 in
set_option maxRecDepth 100000 in
theorem wew_mK_spentValue {p : Program} {l : Launch} {e : Env} {s : State} {m : MethodId} {args : Array Value} {below : List Frame} {meth : Method} {c : Code} {D : va_G} {cy : Nat → ClassId} {A : Nat → Prop} {ad : Nat → Nat} {mi MC MS : Nat} {Φ : Int64 → Mm → Prop} {fu : Nat} (F : FxM p s m args meth c b_K_spentValue 5 "CoinKeeper" "spentValue" (some .long) D cy ad mi A) : Iw_mK_spentValue_e p l e s m args below meth c D cy A ad mi MC MS Φ (xw_mK_spentValue fu MC MS cy ad mi Φ) := by
  obtain ⟨⟨hx, hb, hr, hml, hown, hts, hlocks, hK, hA, hSt, hnm, hex⟩, hT, hMi⟩ := id F
  intro κ σ M a0 a1 hf hkc hks H locs ls hP hD hS hl
  unfold xw_mK_spentValue at hf
  refine lv_lconst (v := 0) hx hb d_K_spentValue_0 (by decide) ?_
  refine lv_lstore_n (lv' := [(2, .long (0 : Int64)), (0, .ref a0), (1, .int a1)]) hx hb d_K_spentValue_1 rfl hl (by decide) rfl (fun ls hl => ?_)
  refine lv_aload_n hx hb d_K_spentValue_2 rfl (lv_at hl 1 rfl) ?_
  obtain ⟨fs_, hm_, r1, hv_, hf⟩ := hf
  obtain ⟨ix_, hi_⟩ := m_ix hm_
  refine va_get (D := D) (ci := 0) (v := va_rf r1) (C := "CoinKeeper") (T := F_0) (N := 13) hx hb hts i_0 hown hK hP ix_ hi_ rfl 6 (by decide) (hts _ gw_506) (fun _ h9 => h9) hv_ d_K_spentValue_3 ?_
  clear hv_ hi_ hm_
  obtain ⟨q2, rfl, hf⟩ := hf
  refine W.eq (g2 := F0 m 6 ls [.ref q2]) rfl ?_
  obtain ⟨fs_, hm_, r3, hv_, hf⟩ := hf
  obtain ⟨ix_, hi_⟩ := m_ix hm_
  refine va_get (D := D) (ci := 4) (v := va_rf r3) (C := "CoinKeeper$Layout") (T := F_4) (N := 15) hx hb hts i_4 hown hK hP ix_ hi_ rfl 3 (by decide) (hts _ gw_277) (fun _ h9 => h9) hv_ d_K_spentValue_6 ?_
  clear hv_ hi_ hm_
  obtain ⟨q4, rfl, hf⟩ := hf
  refine W.eq (g2 := F0 m 9 ls [.ref q4]) rfl ?_
  refine lv_iload_n hx hb d_K_spentValue_9 rfl (lv_at hl 2 rfl) ?_
  obtain ⟨n_, f_, hm_, hin_, hf⟩ := hf
  obtain ⟨ix_, hi_⟩ := m_ix hm_
  refine va_iald hx hb hK hP ix_ 1 hi_ rfl (inb_in hin_) d_K_spentValue_10 ?_
  obtain ⟨v5, ev⟩ : ∃ z, z = f_ a1.toNatClampNeg := ⟨_, rfl⟩
  first | rw [← ev] at hf ⊢ | rw [← ev]
  clear ev hi_ hm_ hin_
  refine lv_istore (lv' := [(4, .int v5), (2, .long (0 : Int64)), (0, .ref a0), (1, .int a1)]) hx hb d_K_spentValue_11 hl (by decide) rfl (fun ls hl => ?_)
  exact ww_mK_spentValue_13 F fu _ _ _ _ _ _ _ hf hkc hks _ _ _ hP hD hS (lv_sub hl [2, 3, 1, 0] rfl)
theorem cw_mK_spentValue (l : Launch) (D : va_G) (cy : Nat → ClassId) (ad : Nat → Nat) (mi fu MC MS : Nat) (a0 : Nat) (a1 : Int32) (M : Mm) (Φ : Int64 → Mm → Prop) (hf : xw_mK_spentValue fu MC MS cy ad mi Φ 0 0 M a0 a1) (sz : Nat) : Met l ({ cls := "CoinKeeper", name := "spentValue", desc := "(I)J" } : Jvm.MethodName) (.code ({ cls := "CoinKeeper", name := "spentValue", desc := "(I)J" } : Jvm.MethodName) b_K_spentValue 5 (some .long) :: gw) (rmw_mK_spentValue MC MS) (va_Pc [.ref a0, .int a1] (PrM D cy ad mi (mw M) sz)) (va_Ql Φ (fun u t => Po D cy (va_A (mw M) sz) (mw u) t) (va_A (mw M) sz)) MC MS (va_A (mw M) sz) :=
  q_metM (Qc := fun A => va_Ql Φ (fun u t => Po D cy A (mw u) t) A) (by decide) rfl rfl (Nat.le_of_ble_eq_true rfl) (fun p e s m below meth c ls F hP hD hS hl => wew_mK_spentValue (fu := fu) F 0 0 M a0 a1 hf (Nat.zero_le _) (Nat.zero_le _) _ _ _ hP hD hS hl) sz
abbrev rmw_mAl_add1_z1 (MC MS : Nat) : Room := { frames := 5, cells := MC, slots := MS, locals := 117 }
def Iw_mAl_add1_z1_11 (p : Program) (l : Launch) (e : Env) (s : State) (m : MethodId) (args : Array Value) (below : List Frame) (meth : Method) (c : Code) (D : va_G) (cy : Nat → ClassId) (A : Nat → Prop) (ad : Nat → Nat) (mi MC MS : Nat) (Φ : Mm → Prop) (k : Nat → Nat → Mm → Nat → Nat → Int32 → Prop) : Prop :=
  ∀ (κ σ : Nat) (M : Mm) (x0 : Nat) (x2 : Nat) (x3 : Int32), k κ σ M x0 x2 x3 → κ ≤ MC → σ ≤ MS → ∀ (H : Heap) (locs : List Loc) (ls : Array Slot), va_P D classes (mw M) H → va_D A (mw M) → va_S A s.heap H locs → lv_has ls 4 [(0, .ref x0), (1, .null), (2, .ref x2), (3, .int x3)] → W p l e (rmw_mAl_add1_z1 MC MS) s m args below meth c H locs κ σ (MQ below (va_Qv Φ (fun u t => Po D cy A (mw u) t) A) args s MC MS A) (F0 m 11 ls [])
def Iw_mAl_add1_z1_e (p : Program) (l : Launch) (e : Env) (s : State) (m : MethodId) (args : Array Value) (below : List Frame) (meth : Method) (c : Code) (D : va_G) (cy : Nat → ClassId) (A : Nat → Prop) (ad : Nat → Nat) (mi MC MS : Nat) (Φ : Mm → Prop) (k : Nat → Nat → Mm → Nat → Nat → Int32 → Prop) : Prop :=
  ∀ (κ σ : Nat) (M : Mm) (a0 : Nat) (a2 : Nat) (a3 : Int32), k κ σ M a0 a2 a3 → κ ≤ MC → σ ≤ MS → ∀ (H : Heap) (locs : List Loc) (ls : Array Slot), va_P D classes (mw M) H → va_D A (mw M) → va_S A s.heap H locs → lv_has ls 4 [(0, .ref a0), (1, .null), (2, .ref a2), (3, .int a3)] → W p l e (rmw_mAl_add1_z1 MC MS) s m args below meth c H locs κ σ (MQ below (va_Qv Φ (fun u t => Po D cy A (mw u) t) A) args s MC MS A) (F0 m 0 ls [])
set_option maxHeartbeats 8000000 in
set_option maxRecDepth 100000 in
theorem wv_mAl_add1_z1_11 {p : Program} {l : Launch} {e : Env} {s : State} {m : MethodId} {args : Array Value} {below : List Frame} {meth : Method} {c : Code} {D : va_G} {cy : Nat → ClassId} {A : Nat → Prop} {ad : Nat → Nat} {mi MC MS : Nat} {Φ : Mm → Prop} {fu : Nat} (F : FxM p s m args meth c b_Al_add1 4 "java/util/ArrayList" "add" none D cy ad mi A) : Iw_mAl_add1_z1_11 p l e s m args below meth c D cy A ad mi MC MS Φ (xv_mAl_add1_z1_11 fu MC MS cy ad mi Φ) := by
  obtain ⟨⟨hx, hb, hr, hml, hown, hts, hlocks, hK, hA, hSt, hnm, hex⟩, hT, hMi⟩ := id F
  intro κ σ M x0 x2 x3 hf hkc hks H locs ls hP hD hS hl
  unfold xv_mAl_add1_z1_11 at hf
  refine lv_aload_n hx hb d_Al_add1_11 rfl (lv_at hl 2 rfl) ?_
  refine lv_iload_n hx hb d_Al_add1_12 rfl (lv_at hl 3 rfl) ?_
  refine lv_aload_nN hx hb d_Al_add1_13 rfl (lv_at hl 1 rfl) ?_
  obtain ⟨n_, f_, hm_, hin_, hf⟩ := hf
  obtain ⟨ix_, hi_⟩ := m_ix hm_
  have hE_ := m_set (y := .inl (cy 7, n_, .inr (.inr (.inr (.inr (va_up f_ x3.toNatClampNeg Option.none)))))) hD hi_
  refine va_astqN hx hb hK hP hD hS ix_ 7 hi_ rfl (inb_in hin_) d_Al_add1_14 (fun H locs hP hD hS => ?_)
  obtain ⟨M1, eM_⟩ : ∃ z, z = mu M x2 (.inl (cy 7, n_, .inr (.inr (.inr (.inr (va_up f_ x3.toNatClampNeg Option.none)))))) := ⟨_, rfl⟩
  rw [← eM_] at hf hE_
  rw [hE_] at hP hD
  clear hE_ eM_ hi_ hm_
  refine lv_aload_n hx hb d_Al_add1_15 rfl (lv_at hl 0 rfl) ?_
  refine lv_iload_n hx hb d_Al_add1_16 rfl (lv_at hl 3 rfl) ?_
  refine lv_iconst (v := 1) hx hb d_Al_add1_17 (by decide) ?_
  refine lv_iadd hx hb d_Al_add1_18 ?_
  refine lv_topi (fun v2 ev => ?_)
  have hf := bnQ ev hf
  clear ev
  obtain ⟨fs_, hm_, hlen_, hf⟩ := hf
  obtain ⟨ix_, hi_⟩ := m_ix hm_
  have hE_ := m_set (y := .inr (11, fs_.set 1 (.int v2))) hD hi_
  refine va_put (D := D) (ci := 11) (v := .int v2) (ty := .int) (C := "java/util/ArrayList") (T := F_11) (N := 3) hx hb hts i_11 t_11 t_11_ok n_11 hown hK hP hD hS ix_ hi_ rfl 1 (by decide) (hts _ gw_352) (fun _ h9 => h9) rfl (by decide +kernel) rfl rfl hlen_ d_Al_add1_19 (fun H locs hP hD hS => ?_)
  obtain ⟨M3, eM_⟩ : ∃ z, z = mu M1 x0 (.inr (11, fs_.set 1 (.int v2))) := ⟨_, rfl⟩
  rw [← eM_] at hf hE_
  rw [hE_] at hP hD
  clear hE_ eM_ hi_ hm_
  refine W.widen (k := MC) (n := MS) hkc hks ?_
  exact m_rv hf hx hb hr hlocks hK hP hD hS d_Al_add1_22
set_option maxHeartbeats 8000000 in
set_option maxRecDepth 100000 in
theorem wew_mAl_add1_z1 {p : Program} {l : Launch} {e : Env} {s : State} {m : MethodId} {args : Array Value} {below : List Frame} {meth : Method} {c : Code} {D : va_G} {cy : Nat → ClassId} {A : Nat → Prop} {ad : Nat → Nat} {mi MC MS : Nat} {Φ : Mm → Prop} {fu : Nat} (F : FxM p s m args meth c b_Al_add1 4 "java/util/ArrayList" "add" none D cy ad mi A) : Iw_mAl_add1_z1_e p l e s m args below meth c D cy A ad mi MC MS Φ (xw_mAl_add1_z1 fu MC MS cy ad mi Φ) := by
  obtain ⟨⟨hx, hb, hr, hml, hown, hts, hlocks, hK, hA, hSt, hnm, hex⟩, hT, hMi⟩ := id F
  intro κ σ M a0 a2 a3 hf hkc hks H locs ls hP hD hS hl
  unfold xw_mAl_add1_z1 at hf
  refine lv_iload_n hx hb d_Al_add1_0 rfl (lv_at hl 3 rfl) ?_
  refine lv_aload_n hx hb d_Al_add1_1 rfl (lv_at hl 2 rfl) ?_
  by_cases cx : a2 = ad 26
  · have hg_ := ifpP cx hf
    clear hf
    subst cx
    have hf := hg_
    clear hg_
    refine va_tlen (v := 0) hx hb (hSt.1 26 _ rfl).2 hS rfl d_Al_add1_2 ?_
    refine lv_icmp_ne (tgt := 11) hx hb d_Al_add1_3 (by decide) (fun cx => ?_) (fun cx => ?_)
    · have hf := ifnP cx hf
      exact wv_mAl_add1_z1_11 (fu := fu) F _ _ _ _ _ _ hf hkc hks _ _ _ hP hD hS (lv_sub hl [0, 1, 2, 3] rfl)
    · have hf := ifpP cx hf
      refine lv_aload_n hx hb d_Al_add1_6 rfl (lv_at hl 0 rfl) ?_
      obtain ⟨fs_, hm_, hf⟩ := hf
      obtain ⟨ix_, hi_⟩ := m_ix hm_
      obtain ⟨mc1, ms2, ⟨hc_, hd_⟩, hf⟩ := hf
      refine m_aq (va_runV (C := "java/util/ArrayList") (As := []) (rest := []) ⟨hx, hb, hml, hown, hts⟩ (cw_mAl_grow0 l D cy ad mi fu mc1 ms2 a0 M _ hf H.size) ⟨q_cB hts gw_448 gw_12 gw_445 hdq_10 ⟨Nat.le_of_ble_eq_true rfl, Nat.le_of_ble_eq_true rfl⟩, hts _ gw_447, hts _ gs_1⟩ (q_preVM (q_preM hP hD hK hSt hT hMi hS (m_free hD hS hA) _) (va_recv hK hP (ci := 11) (q0 := ix_) rfl hi_)) rfl rfl hl.1 rfl (lv_room (Nat.le_of_ble_eq_true rfl)) d_Al_add1_7 ⟨hc_, hd_⟩) hD hS hA (fun v4 M3 H locs hf hP hD hS => ?_)
      have hkc : κ + mc1 ≤ MC := hc_
      have hks : σ + ms2 ≤ MS := hd_
      clear hc_ hd_
      obtain ⟨q5, rfl, hf⟩ := hf
      refine W.eq (g2 := F0 m 10 ls [.ref q5]) rfl ?_
      refine lv_astore_n (lv' := [(2, .ref q5), (0, .ref a0), (1, .null), (3, .int a3)]) hx hb d_Al_add1_10 rfl hl (by decide) rfl (fun ls hl => ?_)
      exact wv_mAl_add1_z1_11 (fu := fu) F _ _ _ _ _ _ hf hkc hks _ _ _ hP hD hS (lv_sub hl [1, 2, 0, 3] rfl)
  · have hf := ifnP cx hf
    obtain ⟨x_, hm_, hf⟩ := hf
    obtain ⟨ix_, hi_⟩ := m_ix hm_
    refine va_alen hx hb hK hP ix_ 7 hi_ rfl rfl d_Al_add1_2 ?_
    obtain ⟨v6, ev⟩ : ∃ z, z = Int32.ofNat x_.1 := ⟨_, rfl⟩
    first | rw [← ev] at hf ⊢ | rw [← ev]
    clear ev hi_ hm_
    refine lv_icmp_ne (tgt := 11) hx hb d_Al_add1_3 (by decide) (fun cx => ?_) (fun cx => ?_)
    · have hf := ifnP cx hf
      exact wv_mAl_add1_z1_11 (fu := fu) F _ _ _ _ _ _ hf hkc hks _ _ _ hP hD hS (lv_sub hl [0, 1, 2, 3] rfl)
    · have hf := ifpP cx hf
      refine lv_aload_n hx hb d_Al_add1_6 rfl (lv_at hl 0 rfl) ?_
      obtain ⟨fs_, hm_, hf⟩ := hf
      obtain ⟨ix_, hi_⟩ := m_ix hm_
      obtain ⟨mc7, ms8, ⟨hc_, hd_⟩, hf⟩ := hf
      refine m_aq (va_runV (C := "java/util/ArrayList") (As := []) (rest := []) ⟨hx, hb, hml, hown, hts⟩ (cw_mAl_grow0 l D cy ad mi fu mc7 ms8 a0 M _ hf H.size) ⟨q_cB hts gw_448 gw_12 gw_445 hdq_10 ⟨Nat.le_of_ble_eq_true rfl, Nat.le_of_ble_eq_true rfl⟩, hts _ gw_447, hts _ gs_1⟩ (q_preVM (q_preM hP hD hK hSt hT hMi hS (m_free hD hS hA) _) (va_recv hK hP (ci := 11) (q0 := ix_) rfl hi_)) rfl rfl hl.1 rfl (lv_room (Nat.le_of_ble_eq_true rfl)) d_Al_add1_7 ⟨hc_, hd_⟩) hD hS hA (fun v10 M9 H locs hf hP hD hS => ?_)
      have hkc : κ + mc7 ≤ MC := hc_
      have hks : σ + ms8 ≤ MS := hd_
      clear hc_ hd_
      obtain ⟨q11, rfl, hf⟩ := hf
      refine W.eq (g2 := F0 m 10 ls [.ref q11]) rfl ?_
      refine lv_astore_n (lv' := [(2, .ref q11), (0, .ref a0), (1, .null), (3, .int a3)]) hx hb d_Al_add1_10 rfl hl (by decide) rfl (fun ls hl => ?_)
      exact wv_mAl_add1_z1_11 (fu := fu) F _ _ _ _ _ _ hf hkc hks _ _ _ hP hD hS (lv_sub hl [1, 2, 0, 3] rfl)
theorem cw_mAl_add1_z1 (l : Launch) (D : va_G) (cy : Nat → ClassId) (ad : Nat → Nat) (mi fu MC MS : Nat) (a0 : Nat) (a2 : Nat) (a3 : Int32) (M : Mm) (Φ : Mm → Prop) (hf : xw_mAl_add1_z1 fu MC MS cy ad mi Φ 0 0 M a0 a2 a3) (sz : Nat) : Met l ({ cls := "java/util/ArrayList", name := "add", desc := "(Ljava/lang/Object;[Ljava/lang/Object;I)V" } : Jvm.MethodName) (.code ({ cls := "java/util/ArrayList", name := "add", desc := "(Ljava/lang/Object;[Ljava/lang/Object;I)V" } : Jvm.MethodName) b_Al_add1 4 none :: gw) (rmw_mAl_add1_z1 MC MS) (va_Pc [.ref a0, .null, .ref a2, .int a3] (PrM D cy ad mi (mw M) sz)) (va_Qv Φ (fun u t => Po D cy (va_A (mw M) sz) (mw u) t) (va_A (mw M) sz)) MC MS (va_A (mw M) sz) :=
  q_metM (Qc := fun A => va_Qv Φ (fun u t => Po D cy A (mw u) t) A) (by decide) rfl rfl (Nat.le_of_ble_eq_true rfl) (fun p e s m below meth c ls F hP hD hS hl => wew_mAl_add1_z1 (fu := fu) F 0 0 M a0 a2 a3 hf (Nat.zero_le _) (Nat.zero_le _) _ _ _ hP hD hS hl) sz
abbrev rmw_mAl_add0_z1 (MC MS : Nat) : Room := { frames := 6, cells := MC, slots := MS, locals := 140 }
def Iw_mAl_add0_z1_e (p : Program) (l : Launch) (e : Env) (s : State) (m : MethodId) (args : Array Value) (below : List Frame) (meth : Method) (c : Code) (D : va_G) (cy : Nat → ClassId) (A : Nat → Prop) (ad : Nat → Nat) (mi MC MS : Nat) (Φ : Int32 → Mm → Prop) (k : Nat → Nat → Mm → Nat → Prop) : Prop :=
  ∀ (κ σ : Nat) (M : Mm) (a0 : Nat), k κ σ M a0 → κ ≤ MC → σ ≤ MS → ∀ (H : Heap) (locs : List Loc) (ls : Array Slot), va_P D classes (mw M) H → va_D A (mw M) → va_S A s.heap H locs → lv_has ls 2 [(0, .ref a0), (1, .null)] → W p l e (rmw_mAl_add0_z1 MC MS) s m args below meth c H locs κ σ (MQ below (va_Qi Φ (fun u t => Po D cy A (mw u) t) A) args s MC MS A) (F0 m 0 ls [])
set_option maxHeartbeats 8000000 in
set_option maxRecDepth 100000 in
theorem wew_mAl_add0_z1 {p : Program} {l : Launch} {e : Env} {s : State} {m : MethodId} {args : Array Value} {below : List Frame} {meth : Method} {c : Code} {D : va_G} {cy : Nat → ClassId} {A : Nat → Prop} {ad : Nat → Nat} {mi MC MS : Nat} {Φ : Int32 → Mm → Prop} {fu : Nat} (F : FxM p s m args meth c b_Al_add0 2 "java/util/ArrayList" "add" (some .boolean) D cy ad mi A) : Iw_mAl_add0_z1_e p l e s m args below meth c D cy A ad mi MC MS Φ (xw_mAl_add0_z1 fu MC MS cy ad mi Φ) := by
  obtain ⟨⟨hx, hb, hr, hml, hown, hts, hlocks, hK, hA, hSt, hnm, hex⟩, hT, hMi⟩ := id F
  intro κ σ M a0 hf hkc hks H locs ls hP hD hS hl
  unfold xw_mAl_add0_z1 at hf
  refine lv_aload_n hx hb d_Al_add0_0 rfl (lv_at hl 0 rfl) ?_
  refine lv_dup hx hb d_Al_add0_1 rfl ?_
  obtain ⟨fs_, hm_, v1, hv_, hf⟩ := hf
  obtain ⟨ix_, hi_⟩ := m_ix hm_
  refine va_get (D := D) (ci := 11) (v := .int v1) (C := "java/util/ArrayList") (T := F_11) (N := 3) hx hb hts i_11 hown hK hP ix_ hi_ rfl 2 (by decide) (hts _ gw_354) (u_same (hts _ gw_355)) hv_ d_Al_add0_2 ?_
  clear hv_ hi_ hm_
  refine lv_iconst (v := 1) hx hb d_Al_add0_5 (by decide) ?_
  refine lv_iadd hx hb d_Al_add0_6 ?_
  refine lv_topi (fun v2 ev => ?_)
  have hf := bnQ ev hf
  clear ev
  obtain ⟨fs_, hm_, hlen_, hf⟩ := hf
  obtain ⟨ix_, hi_⟩ := m_ix hm_
  have hE_ := m_set (y := .inr (11, fs_.set 2 (.int v2))) hD hi_
  refine va_put (D := D) (ci := 11) (v := .int v2) (ty := .int) (C := "java/util/ArrayList") (T := F_11) (N := 3) hx hb hts i_11 t_11 t_11_ok n_11 hown hK hP hD hS ix_ hi_ rfl 2 (by decide) (hts _ gw_354) (u_same (hts _ gw_355)) rfl (by decide +kernel) rfl rfl hlen_ d_Al_add0_7 (fun H locs hP hD hS => ?_)
  obtain ⟨M3, eM_⟩ : ∃ z, z = mu M a0 (.inr (11, fs_.set 2 (.int v2))) := ⟨_, rfl⟩
  rw [← eM_] at hf hE_
  rw [hE_] at hP hD
  clear hE_ eM_ hi_ hm_
  refine lv_aload_n hx hb d_Al_add0_10 rfl (lv_at hl 0 rfl) ?_
  refine lv_aload_nN hx hb d_Al_add0_11 rfl (lv_at hl 1 rfl) ?_
  refine lv_aload_n hx hb d_Al_add0_12 rfl (lv_at hl 0 rfl) ?_
  obtain ⟨fs_, hm_, r4, hv_, hf⟩ := hf
  obtain ⟨ix_, hi_⟩ := m_ix hm_
  refine va_get (D := D) (ci := 11) (v := va_rf r4) (C := "java/util/ArrayList") (T := F_11) (N := 3) hx hb hts i_11 hown hK hP ix_ hi_ rfl 0 (by decide) (hts _ gw_351) (fun _ h9 => h9) hv_ d_Al_add0_13 ?_
  clear hv_ hi_ hm_
  obtain ⟨q5, rfl, hf⟩ := hf
  refine W.eq (g2 := F0 m 16 ls [.ref q5, .null, .ref a0]) rfl ?_
  refine lv_aload_n hx hb d_Al_add0_16 rfl (lv_at hl 0 rfl) ?_
  obtain ⟨fs_, hm_, v6, hv_, hf⟩ := hf
  obtain ⟨ix_, hi_⟩ := m_ix hm_
  refine va_get (D := D) (ci := 11) (v := .int v6) (C := "java/util/ArrayList") (T := F_11) (N := 3) hx hb hts i_11 hown hK hP ix_ hi_ rfl 1 (by decide) (hts _ gw_352) (fun _ h9 => h9) hv_ d_Al_add0_17 ?_
  clear hv_ hi_ hm_
  obtain ⟨fs_, hm_, hf⟩ := hf
  obtain ⟨ix_, hi_⟩ := m_ix hm_
  obtain ⟨mc7, ms8, ⟨hc_, hd_⟩, hf⟩ := hf
  refine m_av (va_runV (C := "java/util/ArrayList") (As := [.null, .ref q5, .int v6]) (rest := []) ⟨hx, hb, hml, hown, hts⟩ (cw_mAl_add1_z1 l D cy ad mi fu mc7 ms8 a0 q5 v6 M3 _ hf H.size) ⟨q_cB hts gw_444 gw_12 gw_441 hdq_11 ⟨Nat.le_of_ble_eq_true rfl, Nat.le_of_ble_eq_true rfl⟩, hts _ gw_443, hts _ gs_0⟩ (q_preVM (q_preM hP hD hK hSt hT hMi hS (m_free hD hS hA) _) (va_recv hK hP (ci := 11) (q0 := ix_) rfl hi_)) rfl rfl hl.1 rfl (lv_room (Nat.le_of_ble_eq_true rfl)) d_Al_add0_20 ⟨hc_, hd_⟩) hD hS hA (fun M9 H locs hf hP hD hS => ?_)
  have hkc : κ + mc7 ≤ MC := hc_
  have hks : σ + ms8 ≤ MS := hd_
  clear hc_ hd_
  refine lv_iconst (v := 1) hx hb d_Al_add0_23 (by decide) ?_
  refine W.widen (k := MC) (n := MS) hkc hks ?_
  exact m_rz hf hx hb hr hlocks hK hP hD hS (isb_n (v := 1) (by decide)) d_Al_add0_24
theorem cw_mAl_add0_z1 (l : Launch) (D : va_G) (cy : Nat → ClassId) (ad : Nat → Nat) (mi fu MC MS : Nat) (a0 : Nat) (M : Mm) (Φ : Int32 → Mm → Prop) (hf : xw_mAl_add0_z1 fu MC MS cy ad mi Φ 0 0 M a0) (sz : Nat) : Met l ({ cls := "java/util/ArrayList", name := "add", desc := "(Ljava/lang/Object;)Z" } : Jvm.MethodName) (.code ({ cls := "java/util/ArrayList", name := "add", desc := "(Ljava/lang/Object;)Z" } : Jvm.MethodName) b_Al_add0 2 (some .boolean) :: gw) (rmw_mAl_add0_z1 MC MS) (va_Pc [.ref a0, .null] (PrM D cy ad mi (mw M) sz)) (va_Qi Φ (fun u t => Po D cy (va_A (mw M) sz) (mw u) t) (va_A (mw M) sz)) MC MS (va_A (mw M) sz) :=
  q_metM (Qc := fun A => va_Qi Φ (fun u t => Po D cy A (mw u) t) A) (by decide) rfl rfl (Nat.le_of_ble_eq_true rfl) (fun p e s m below meth c ls F hP hD hS hl => wew_mAl_add0_z1 (fu := fu) F 0 0 M a0 hf (Nat.zero_le _) (Nat.zero_le _) _ _ _ hP hD hS hl) sz
abbrev rmw_mLe_change_z1 (MC MS : Nat) : Room := { frames := 0, cells := MC, slots := MS, locals := 0 }
def Iw_mLe_change_z1_e (p : Program) (l : Launch) (e : Env) (s : State) (m : MethodId) (args : Array Value) (below : List Frame) (meth : Method) (c : Code) (D : va_G) (cy : Nat → ClassId) (A : Nat → Prop) (ad : Nat → Nat) (mi MC MS : Nat) (Φ : Mm → Prop) (k : Nat → Nat → Mm → Nat → Prop) : Prop :=
  ∀ (κ σ : Nat) (M : Mm) (a0 : Nat), k κ σ M a0 → κ ≤ MC → σ ≤ MS → ∀ (H : Heap) (locs : List Loc) (ls : Array Slot), va_P D classes (mw M) H → va_D A (mw M) → va_S A s.heap H locs → lv_has ls 3 [(0, .ref a0), (1, .null)] → W p l e (rmw_mLe_change_z1 MC MS) s m args below meth c H locs κ σ (MQ below (va_Qv Φ (fun u t => Po D cy A (mw u) t) A) args s MC MS A) (F0 m 0 ls [])
set_option maxHeartbeats 8000000 in
set_option maxRecDepth 100000 in
theorem wew_mLe_change_z1 {p : Program} {l : Launch} {e : Env} {s : State} {m : MethodId} {args : Array Value} {below : List Frame} {meth : Method} {c : Code} {D : va_G} {cy : Nat → ClassId} {A : Nat → Prop} {ad : Nat → Nat} {mi MC MS : Nat} {Φ : Mm → Prop} {fu : Nat} (F : FxM p s m args meth c b_Le_change 3 "CoinKeeper$Ledger" "change" none D cy ad mi A) : Iw_mLe_change_z1_e p l e s m args below meth c D cy A ad mi MC MS Φ (xw_mLe_change_z1 fu MC MS cy ad mi Φ) := by
  obtain ⟨⟨hx, hb, hr, hml, hown, hts, hlocks, hK, hA, hSt, hnm, hex⟩, hT, hMi⟩ := id F
  intro κ σ M a0 hf hkc hks H locs ls hP hD hS hl
  unfold xw_mLe_change_z1 at hf
  refine lv_aload_nN hx hb d_Le_change_0 rfl (lv_at hl 1 rfl) ?_
  exact hf.elim
theorem cw_mLe_change_z1 (l : Launch) (D : va_G) (cy : Nat → ClassId) (ad : Nat → Nat) (mi fu MC MS : Nat) (a0 : Nat) (M : Mm) (Φ : Mm → Prop) (hf : xw_mLe_change_z1 fu MC MS cy ad mi Φ 0 0 M a0) (sz : Nat) : Met l ({ cls := "CoinKeeper$Ledger", name := "change", desc := "(LCoinKeeper$Coin;)V" } : Jvm.MethodName) (.code ({ cls := "CoinKeeper$Ledger", name := "change", desc := "(LCoinKeeper$Coin;)V" } : Jvm.MethodName) b_Le_change 3 none :: gw) (rmw_mLe_change_z1 MC MS) (va_Pc [.ref a0, .null] (PrM D cy ad mi (mw M) sz)) (va_Qv Φ (fun u t => Po D cy (va_A (mw M) sz) (mw u) t) (va_A (mw M) sz)) MC MS (va_A (mw M) sz) :=
  q_metM (Qc := fun A => va_Qv Φ (fun u t => Po D cy A (mw u) t) A) (by decide) rfl rfl (Nat.le_of_ble_eq_true rfl) (fun p e s m below meth c ls F hP hD hS hl => wew_mLe_change_z1 (fu := fu) F 0 0 M a0 hf (Nat.zero_le _) (Nat.zero_le _) _ _ _ hP hD hS hl) sz
abbrev rmw_mLe_flip_z1 (MC MS : Nat) : Room := { frames := 7, cells := MC, slots := MS, locals := 161 }
def Iw_mLe_flip_z1_e (p : Program) (l : Launch) (e : Env) (s : State) (m : MethodId) (args : Array Value) (below : List Frame) (meth : Method) (c : Code) (D : va_G) (cy : Nat → ClassId) (A : Nat → Prop) (ad : Nat → Nat) (mi MC MS : Nat) (Φ : Mm → Prop) (k : Nat → Nat → Mm → Nat → Prop) : Prop :=
  ∀ (κ σ : Nat) (M : Mm) (a0 : Nat), k κ σ M a0 → κ ≤ MC → σ ≤ MS → ∀ (H : Heap) (locs : List Loc) (ls : Array Slot), va_P D classes (mw M) H → va_D A (mw M) → va_S A s.heap H locs → lv_has ls 2 [(0, .ref a0), (1, .null)] → W p l e (rmw_mLe_flip_z1 MC MS) s m args below meth c H locs κ σ (MQ below (va_Qv Φ (fun u t => Po D cy A (mw u) t) A) args s MC MS A) (F0 m 0 ls [])
set_option maxHeartbeats 8000000 in
set_option maxRecDepth 100000 in
theorem wew_mLe_flip_z1 {p : Program} {l : Launch} {e : Env} {s : State} {m : MethodId} {args : Array Value} {below : List Frame} {meth : Method} {c : Code} {D : va_G} {cy : Nat → ClassId} {A : Nat → Prop} {ad : Nat → Nat} {mi MC MS : Nat} {Φ : Mm → Prop} {fu : Nat} (F : FxM p s m args meth c b_Le_flip 2 "CoinKeeper$Ledger" "flip" none D cy ad mi A) : Iw_mLe_flip_z1_e p l e s m args below meth c D cy A ad mi MC MS Φ (xw_mLe_flip_z1 fu MC MS cy ad mi Φ) := by
  obtain ⟨⟨hx, hb, hr, hml, hown, hts, hlocks, hK, hA, hSt, hnm, hex⟩, hT, hMi⟩ := id F
  intro κ σ M a0 hf hkc hks H locs ls hP hD hS hl
  unfold xw_mLe_flip_z1 at hf
  refine lv_aload_n hx hb d_Le_flip_0 rfl (lv_at hl 0 rfl) ?_
  obtain ⟨fs_, hm_, r1, hv_, hf⟩ := hf
  obtain ⟨ix_, hi_⟩ := m_ix hm_
  refine va_get (D := D) (ci := 5) (v := va_rf r1) (C := "CoinKeeper$Ledger") (T := F_5) (N := 2) hx hb hts i_5 hown hK hP ix_ hi_ rfl 1 (by decide) (hts _ gw_364) (fun _ h9 => h9) hv_ d_Le_flip_1 ?_
  clear hv_ hi_ hm_
  obtain ⟨q2, rfl, hf⟩ := hf
  refine W.eq (g2 := F0 m 4 ls [.ref q2]) rfl ?_
  refine lv_aload_nN hx hb d_Le_flip_4 rfl (lv_at hl 1 rfl) ?_
  obtain ⟨fs_, hm_, hf⟩ := hf
  obtain ⟨ix_, hi_⟩ := m_ix hm_
  obtain ⟨mc3, ms4, ⟨hc_, hd_⟩, hf⟩ := hf
  refine mm_ai (va_runV (C := "java/util/ArrayList") (As := [.null]) (rest := []) ⟨hx, hb, hml, hown, hts⟩ (cw_mAl_add0_z1 l D cy ad mi fu mc3 ms4 q2 M _ hf H.size) ⟨q_cB hts gw_440 gw_12 gw_917 hdq_19 ⟨Nat.le_of_ble_eq_true rfl, Nat.le_of_ble_eq_true rfl⟩, hts _ gw_438, hts _ gw_439⟩ (q_preVM (q_preM hP hD hK hSt hT hMi hS (m_free hD hS hA) _) (va_recv hK hP (ci := 11) (q0 := ix_) rfl hi_)) rfl rfl hl.1 rfl (lv_room (Nat.le_of_ble_eq_true rfl)) d_Le_flip_5 ⟨hc_, hd_⟩) hD hS hA (fun v6 M5 H locs hf hP hD hS => ?_)
  have hkc : κ + mc3 ≤ MC := hc_
  have hks : σ + ms4 ≤ MS := hd_
  clear hc_ hd_
  refine lv_pop hx hb d_Le_flip_8 rfl ?_
  refine lv_aload_n hx hb d_Le_flip_9 rfl (lv_at hl 0 rfl) ?_
  refine lv_aload_nN hx hb d_Le_flip_10 rfl (lv_at hl 1 rfl) ?_
  obtain ⟨fs_, hm_, hf⟩ := hf
  obtain ⟨ix_, hi_⟩ := m_ix hm_
  obtain ⟨mc7, ms8, ⟨hc_, hd_⟩, hf⟩ := hf
  refine m_av (va_runV (C := "CoinKeeper$Ledger") (As := [.null]) (rest := []) ⟨hx, hb, hml, hown, hts⟩ (cw_mLe_change_z1 l D cy ad mi fu mc7 ms8 a0 M5 _ hf H.size) ⟨q_cB hts gw_916 gw_9 gw_913 hdq_20 ⟨Nat.le_of_ble_eq_true rfl, Nat.le_of_ble_eq_true rfl⟩, hts _ gw_915, hts _ gs_22⟩ (q_preVM (q_preM hP hD hK hSt hT hMi hS (m_free hD hS hA) _) (va_recv hK hP (ci := 5) (q0 := ix_) rfl hi_)) rfl rfl hl.1 rfl (lv_room (Nat.le_of_ble_eq_true rfl)) d_Le_flip_11 ⟨hc_, hd_⟩) hD hS hA (fun M9 H locs hf hP hD hS => ?_)
  have hkc : κ + mc3 + mc7 ≤ MC := hc_
  have hks : σ + ms4 + ms8 ≤ MS := hd_
  clear hc_ hd_
  refine W.widen (k := MC) (n := MS) hkc hks ?_
  exact m_rv hf hx hb hr hlocks hK hP hD hS d_Le_flip_14
theorem cw_mLe_flip_z1 (l : Launch) (D : va_G) (cy : Nat → ClassId) (ad : Nat → Nat) (mi fu MC MS : Nat) (a0 : Nat) (M : Mm) (Φ : Mm → Prop) (hf : xw_mLe_flip_z1 fu MC MS cy ad mi Φ 0 0 M a0) (sz : Nat) : Met l ({ cls := "CoinKeeper$Ledger", name := "flip", desc := "(LCoinKeeper$Coin;)V" } : Jvm.MethodName) (.code ({ cls := "CoinKeeper$Ledger", name := "flip", desc := "(LCoinKeeper$Coin;)V" } : Jvm.MethodName) b_Le_flip 2 none :: gw) (rmw_mLe_flip_z1 MC MS) (va_Pc [.ref a0, .null] (PrM D cy ad mi (mw M) sz)) (va_Qv Φ (fun u t => Po D cy (va_A (mw M) sz) (mw u) t) (va_A (mw M) sz)) MC MS (va_A (mw M) sz) :=
  q_metM (Qc := fun A => va_Qv Φ (fun u t => Po D cy A (mw u) t) A) (by decide) rfl rfl (Nat.le_of_ble_eq_true rfl) (fun p e s m below meth c ls F hP hD hS hl => wew_mLe_flip_z1 (fu := fu) F 0 0 M a0 hf (Nat.zero_le _) (Nat.zero_le _) _ _ _ hP hD hS hl) sz
abbrev rmw_mLe_put_z1 (MC MS : Nat) : Room := { frames := 0, cells := MC, slots := MS, locals := 0 }
def Iw_mLe_put_z1_e (p : Program) (l : Launch) (e : Env) (s : State) (m : MethodId) (args : Array Value) (below : List Frame) (meth : Method) (c : Code) (D : va_G) (cy : Nat → ClassId) (A : Nat → Prop) (ad : Nat → Nat) (mi MC MS : Nat) (Φ : Mm → Prop) (k : Nat → Nat → Mm → Nat → Prop) : Prop :=
  ∀ (κ σ : Nat) (M : Mm) (a0 : Nat), k κ σ M a0 → κ ≤ MC → σ ≤ MS → ∀ (H : Heap) (locs : List Loc) (ls : Array Slot), va_P D classes (mw M) H → va_D A (mw M) → va_S A s.heap H locs → lv_has ls 3 [(0, .ref a0), (1, .null)] → W p l e (rmw_mLe_put_z1 MC MS) s m args below meth c H locs κ σ (MQ below (va_Qv Φ (fun u t => Po D cy A (mw u) t) A) args s MC MS A) (F0 m 0 ls [])
set_option maxHeartbeats 8000000 in
set_option maxRecDepth 100000 in
theorem wew_mLe_put_z1 {p : Program} {l : Launch} {e : Env} {s : State} {m : MethodId} {args : Array Value} {below : List Frame} {meth : Method} {c : Code} {D : va_G} {cy : Nat → ClassId} {A : Nat → Prop} {ad : Nat → Nat} {mi MC MS : Nat} {Φ : Mm → Prop} {fu : Nat} (F : FxM p s m args meth c b_Le_put 3 "CoinKeeper$Ledger" "put" none D cy ad mi A) : Iw_mLe_put_z1_e p l e s m args below meth c D cy A ad mi MC MS Φ (xw_mLe_put_z1 fu MC MS cy ad mi Φ) := by
  obtain ⟨⟨hx, hb, hr, hml, hown, hts, hlocks, hK, hA, hSt, hnm, hex⟩, hT, hMi⟩ := id F
  intro κ σ M a0 hf hkc hks H locs ls hP hD hS hl
  unfold xw_mLe_put_z1 at hf
  refine lv_aload_n hx hb d_Le_put_0 rfl (lv_at hl 0 rfl) ?_
  refine lv_aload_nN hx hb d_Le_put_1 rfl (lv_at hl 1 rfl) ?_
  exact hf.elim
theorem cw_mLe_put_z1 (l : Launch) (D : va_G) (cy : Nat → ClassId) (ad : Nat → Nat) (mi fu MC MS : Nat) (a0 : Nat) (M : Mm) (Φ : Mm → Prop) (hf : xw_mLe_put_z1 fu MC MS cy ad mi Φ 0 0 M a0) (sz : Nat) : Met l ({ cls := "CoinKeeper$Ledger", name := "put", desc := "(LCoinKeeper$Coin;)V" } : Jvm.MethodName) (.code ({ cls := "CoinKeeper$Ledger", name := "put", desc := "(LCoinKeeper$Coin;)V" } : Jvm.MethodName) b_Le_put 3 none :: gw) (rmw_mLe_put_z1 MC MS) (va_Pc [.ref a0, .null] (PrM D cy ad mi (mw M) sz)) (va_Qv Φ (fun u t => Po D cy (va_A (mw M) sz) (mw u) t) (va_A (mw M) sz)) MC MS (va_A (mw M) sz) :=
  q_metM (Qc := fun A => va_Qv Φ (fun u t => Po D cy A (mw u) t) A) (by decide) rfl rfl (Nat.le_of_ble_eq_true rfl) (fun p e s m below meth c ls F hP hD hS hl => wew_mLe_put_z1 (fu := fu) F 0 0 M a0 hf (Nat.zero_le _) (Nat.zero_le _) _ _ _ hP hD hS hl) sz
abbrev b_K_exchange : ByteArray := prog_1_method_19_code
theorem d_K_exchange_0 : decode b_K_exchange 0 = .ok (.iload_n 2, 1) := by decide +kernel
theorem d_K_exchange_1 : decode b_K_exchange 1 = .ok (.ifCond .le 47, 3) := by decide +kernel
theorem d_K_exchange_4 : decode b_K_exchange 4 = .ok (.aload_n 0, 1) := by decide +kernel
theorem d_K_exchange_5 : decode b_K_exchange 5 = .ok (.getfield 42, 3) := by decide +kernel
theorem d_K_exchange_8 : decode b_K_exchange 8 = .ok (.getfield 294, 3) := by decide +kernel
theorem d_K_exchange_11 : decode b_K_exchange 11 = .ok (.iload_n 2, 1) := by decide +kernel
theorem d_K_exchange_12 : decode b_K_exchange 12 = .ok (.iaload, 1) := by decide +kernel
theorem d_K_exchange_13 : decode b_K_exchange 13 = .ok (.istore_n 3, 1) := by decide +kernel
theorem d_K_exchange_14 : decode b_K_exchange 14 = .ok (.iload_n 3, 1) := by decide +kernel
theorem d_K_exchange_15 : decode b_K_exchange 15 = .ok (.aload_n 0, 1) := by decide +kernel
theorem d_K_exchange_16 : decode b_K_exchange 16 = .ok (.getfield 42, 3) := by decide +kernel
theorem d_K_exchange_19 : decode b_K_exchange 19 = .ok (.getfield 294, 3) := by decide +kernel
theorem d_K_exchange_22 : decode b_K_exchange 22 = .ok (.iload_n 2, 1) := by decide +kernel
theorem d_K_exchange_23 : decode b_K_exchange 23 = .ok (.iconst 1, 1) := by decide +kernel
theorem d_K_exchange_24 : decode b_K_exchange 24 = .ok (.iadd, 1) := by decide +kernel
theorem d_K_exchange_25 : decode b_K_exchange 25 = .ok (.iaload, 1) := by decide +kernel
theorem d_K_exchange_26 : decode b_K_exchange 26 = .ok (.if_icmp .ge 22, 3) := by decide +kernel
theorem d_K_exchange_29 : decode b_K_exchange 29 = .ok (.aload_n 0, 1) := by decide +kernel
theorem d_K_exchange_30 : decode b_K_exchange 30 = .ok (.getfield 49, 3) := by decide +kernel
theorem d_K_exchange_33 : decode b_K_exchange 33 = .ok (.aload_n 0, 1) := by decide +kernel
theorem d_K_exchange_34 : decode b_K_exchange 34 = .ok (.getfield 62, 3) := by decide +kernel
theorem d_K_exchange_37 : decode b_K_exchange 37 = .ok (.iload_n 3, 1) := by decide +kernel
theorem d_K_exchange_38 : decode b_K_exchange 38 = .ok (.aaload, 1) := by decide +kernel
theorem d_K_exchange_39 : decode b_K_exchange 39 = .ok (.invokevirtual 306, 3) := by decide +kernel
theorem d_K_exchange_42 : decode b_K_exchange 42 = .ok (.iinc 3 1, 3) := by decide +kernel
theorem d_K_exchange_45 : decode b_K_exchange 45 = .ok (.goto (-31), 3) := by decide +kernel
theorem d_K_exchange_48 : decode b_K_exchange 48 = .ok (.aload_n 0, 1) := by decide +kernel
theorem d_K_exchange_49 : decode b_K_exchange 49 = .ok (.getfield 42, 3) := by decide +kernel
theorem d_K_exchange_52 : decode b_K_exchange 52 = .ok (.getfield 255, 3) := by decide +kernel
theorem d_K_exchange_55 : decode b_K_exchange 55 = .ok (.iload_n 2, 1) := by decide +kernel
theorem d_K_exchange_56 : decode b_K_exchange 56 = .ok (.iaload, 1) := by decide +kernel
theorem d_K_exchange_57 : decode b_K_exchange 57 = .ok (.istore_n 3, 1) := by decide +kernel
theorem d_K_exchange_58 : decode b_K_exchange 58 = .ok (.iload_n 3, 1) := by decide +kernel
theorem d_K_exchange_59 : decode b_K_exchange 59 = .ok (.aload_n 0, 1) := by decide +kernel
theorem d_K_exchange_60 : decode b_K_exchange 60 = .ok (.getfield 42, 3) := by decide +kernel
theorem d_K_exchange_63 : decode b_K_exchange 63 = .ok (.getfield 255, 3) := by decide +kernel
theorem d_K_exchange_66 : decode b_K_exchange 66 = .ok (.iload_n 2, 1) := by decide +kernel
theorem d_K_exchange_67 : decode b_K_exchange 67 = .ok (.iconst 1, 1) := by decide +kernel
theorem d_K_exchange_68 : decode b_K_exchange 68 = .ok (.iadd, 1) := by decide +kernel
theorem d_K_exchange_69 : decode b_K_exchange 69 = .ok (.iaload, 1) := by decide +kernel
theorem d_K_exchange_70 : decode b_K_exchange 70 = .ok (.if_icmp .ge 22, 3) := by decide +kernel
theorem d_K_exchange_73 : decode b_K_exchange 73 = .ok (.aload_n 0, 1) := by decide +kernel
theorem d_K_exchange_74 : decode b_K_exchange 74 = .ok (.getfield 49, 3) := by decide +kernel
theorem d_K_exchange_77 : decode b_K_exchange 77 = .ok (.aload_n 1, 1) := by decide +kernel
theorem d_K_exchange_78 : decode b_K_exchange 78 = .ok (.getfield 262, 3) := by decide +kernel
theorem d_K_exchange_81 : decode b_K_exchange 81 = .ok (.iload_n 3, 1) := by decide +kernel
theorem d_K_exchange_82 : decode b_K_exchange 82 = .ok (.aaload, 1) := by decide +kernel
theorem d_K_exchange_83 : decode b_K_exchange 83 = .ok (.invokevirtual 310, 3) := by decide +kernel
theorem d_K_exchange_86 : decode b_K_exchange 86 = .ok (.iinc 3 1, 3) := by decide +kernel
theorem d_K_exchange_89 : decode b_K_exchange 89 = .ok (.goto (-31), 3) := by decide +kernel
theorem d_K_exchange_92 : decode b_K_exchange 92 = .ok (.return_, 1) := by decide +kernel
abbrev rmw_mK_exchange (MC MS : Nat) : Room := { frames := 10, cells := MC, slots := MS, locals := 226 }
def Iw_mK_exchange_58 (p : Program) (l : Launch) (e : Env) (s : State) (m : MethodId) (args : Array Value) (below : List Frame) (meth : Method) (c : Code) (D : va_G) (cy : Nat → ClassId) (A : Nat → Prop) (ad : Nat → Nat) (mi MC MS : Nat) (Φ : Mm → Prop) (k : Nat → Nat → Mm → Nat → Nat → Int32 → Int32 → Prop) : Prop :=
  ∀ (κ σ : Nat) (M : Mm) (x0 : Nat) (x1 : Nat) (x2 : Int32) (x3 : Int32), k κ σ M x0 x1 x2 x3 → κ ≤ MC → σ ≤ MS → ∀ (H : Heap) (locs : List Loc) (ls : Array Slot), va_P D classes (mw M) H → va_D A (mw M) → va_S A s.heap H locs → lv_has ls 4 [(0, .ref x0), (1, .ref x1), (2, .int x2), (3, .int x3)] → W p l e (rmw_mK_exchange MC MS) s m args below meth c H locs κ σ (MQ below (va_Qv Φ (fun u t => Po D cy A (mw u) t) A) args s MC MS A) (F0 m 58 ls [])
def Iw_mK_exchange_48 (p : Program) (l : Launch) (e : Env) (s : State) (m : MethodId) (args : Array Value) (below : List Frame) (meth : Method) (c : Code) (D : va_G) (cy : Nat → ClassId) (A : Nat → Prop) (ad : Nat → Nat) (mi MC MS : Nat) (Φ : Mm → Prop) (k : Nat → Nat → Mm → Nat → Nat → Int32 → Prop) : Prop :=
  ∀ (κ σ : Nat) (M : Mm) (x0 : Nat) (x1 : Nat) (x2 : Int32), k κ σ M x0 x1 x2 → κ ≤ MC → σ ≤ MS → ∀ (H : Heap) (locs : List Loc) (ls : Array Slot), va_P D classes (mw M) H → va_D A (mw M) → va_S A s.heap H locs → lv_has ls 4 [(0, .ref x0), (1, .ref x1), (2, .int x2)] → W p l e (rmw_mK_exchange MC MS) s m args below meth c H locs κ σ (MQ below (va_Qv Φ (fun u t => Po D cy A (mw u) t) A) args s MC MS A) (F0 m 48 ls [])
def Iw_mK_exchange_14 (p : Program) (l : Launch) (e : Env) (s : State) (m : MethodId) (args : Array Value) (below : List Frame) (meth : Method) (c : Code) (D : va_G) (cy : Nat → ClassId) (A : Nat → Prop) (ad : Nat → Nat) (mi MC MS : Nat) (Φ : Mm → Prop) (k : Nat → Nat → Mm → Nat → Nat → Int32 → Int32 → Prop) : Prop :=
  ∀ (κ σ : Nat) (M : Mm) (x0 : Nat) (x1 : Nat) (x2 : Int32) (x3 : Int32), k κ σ M x0 x1 x2 x3 → κ ≤ MC → σ ≤ MS → ∀ (H : Heap) (locs : List Loc) (ls : Array Slot), va_P D classes (mw M) H → va_D A (mw M) → va_S A s.heap H locs → lv_has ls 4 [(0, .ref x0), (1, .ref x1), (2, .int x2), (3, .int x3)] → W p l e (rmw_mK_exchange MC MS) s m args below meth c H locs κ σ (MQ below (va_Qv Φ (fun u t => Po D cy A (mw u) t) A) args s MC MS A) (F0 m 14 ls [])
def Iw_mK_exchange_e (p : Program) (l : Launch) (e : Env) (s : State) (m : MethodId) (args : Array Value) (below : List Frame) (meth : Method) (c : Code) (D : va_G) (cy : Nat → ClassId) (A : Nat → Prop) (ad : Nat → Nat) (mi MC MS : Nat) (Φ : Mm → Prop) (k : Nat → Nat → Mm → Nat → Nat → Int32 → Prop) : Prop :=
  ∀ (κ σ : Nat) (M : Mm) (a0 : Nat) (a1 : Nat) (a2 : Int32), k κ σ M a0 a1 a2 → κ ≤ MC → σ ≤ MS → ∀ (H : Heap) (locs : List Loc) (ls : Array Slot), va_P D classes (mw M) H → va_D A (mw M) → va_S A s.heap H locs → lv_has ls 4 [(0, .ref a0), (1, .ref a1), (2, .int a2)] → W p l e (rmw_mK_exchange MC MS) s m args below meth c H locs κ σ (MQ below (va_Qv Φ (fun u t => Po D cy A (mw u) t) A) args s MC MS A) (F0 m 0 ls [])
theorem hdq_30 : ({ cls := "CoinKeeper$Ledger", name := "put", desc := "(LCoinKeeper$Coin;)V" } : Jvm.MethodName).cls ≠ "java/lang/invoke/MethodHandle" ∧ ({ cls := "CoinKeeper$Ledger", name := "put", desc := "(LCoinKeeper$Coin;)V" } : Jvm.MethodName).cls ≠ "java/lang/invoke/VarHandle" ∧ (parseMethodDescriptor ({ cls := "CoinKeeper$Ledger", name := "put", desc := "(LCoinKeeper$Coin;)V" } : Jvm.MethodName).desc).map (fun d => d.parameters.length) = some 1 := by decide +kernel
set_option maxHeartbeats 8000000 in
set_option maxRecDepth 100000 in
theorem wv_mK_exchange_58 {p : Program} {l : Launch} {e : Env} {s : State} {m : MethodId} {args : Array Value} {below : List Frame} {meth : Method} {c : Code} {D : va_G} {cy : Nat → ClassId} {A : Nat → Prop} {ad : Nat → Nat} {mi MC MS : Nat} {Φ : Mm → Prop} {fu : Nat} {k_58 : Nat → Nat → Mm → Nat → Nat → Int32 → Int32 → Prop} (F : FxM p s m args meth c b_K_exchange 4 "CoinKeeper" "exchange" none D cy ad mi A) (hk_58 : Iw_mK_exchange_58 p l e s m args below meth c D cy A ad mi MC MS Φ k_58) : Iw_mK_exchange_58 p l e s m args below meth c D cy A ad mi MC MS Φ (xv_mK_exchange_58 fu MC MS cy ad mi Φ k_58) := by
  obtain ⟨⟨hx, hb, hr, hml, hown, hts, hlocks, hK, hA, hSt, hnm, hex⟩, hT, hMi⟩ := id F
  intro κ σ M x0 x1 x2 x3 hf hkc hks H locs ls hP hD hS hl
  unfold xv_mK_exchange_58 at hf
  refine lv_iload_n hx hb d_K_exchange_58 rfl (lv_at hl 3 rfl) ?_
  refine lv_aload_n hx hb d_K_exchange_59 rfl (lv_at hl 0 rfl) ?_
  obtain ⟨fs_, hm_, r1, hv_, hf⟩ := hf
  obtain ⟨ix_, hi_⟩ := m_ix hm_
  refine va_get (D := D) (ci := 0) (v := va_rf r1) (C := "CoinKeeper") (T := F_0) (N := 13) hx hb hts i_0 hown hK hP ix_ hi_ rfl 6 (by decide) (hts _ gw_506) (fun _ h9 => h9) hv_ d_K_exchange_60 ?_
  clear hv_ hi_ hm_
  obtain ⟨q2, rfl, hf⟩ := hf
  refine W.eq (g2 := F0 m 63 ls [.ref q2, .int x3]) rfl ?_
  obtain ⟨fs_, hm_, r3, hv_, hf⟩ := hf
  obtain ⟨ix_, hi_⟩ := m_ix hm_
  refine va_get (D := D) (ci := 4) (v := va_rf r3) (C := "CoinKeeper$Layout") (T := F_4) (N := 15) hx hb hts i_4 hown hK hP ix_ hi_ rfl 4 (by decide) (hts _ gw_281) (fun _ h9 => h9) hv_ d_K_exchange_63 ?_
  clear hv_ hi_ hm_
  obtain ⟨q4, rfl, hf⟩ := hf
  refine W.eq (g2 := F0 m 66 ls [.ref q4, .int x3]) rfl ?_
  refine lv_iload_n hx hb d_K_exchange_66 rfl (lv_at hl 2 rfl) ?_
  refine lv_iconst (v := 1) hx hb d_K_exchange_67 (by decide) ?_
  refine lv_iadd hx hb d_K_exchange_68 ?_
  refine lv_topi (fun v5 ev => ?_)
  have hf := bnQ ev hf
  clear ev
  obtain ⟨n_, f_, hm_, hin_, hf⟩ := hf
  obtain ⟨ix_, hi_⟩ := m_ix hm_
  refine va_iald hx hb hK hP ix_ 1 hi_ rfl (inb_in hin_) d_K_exchange_69 ?_
  obtain ⟨v6, ev⟩ : ∃ z, z = f_ v5.toNatClampNeg := ⟨_, rfl⟩
  first | rw [← ev] at hf ⊢ | rw [← ev]
  clear ev hi_ hm_ hin_
  refine lv_icmp_ge (tgt := 92) hx hb d_K_exchange_70 (by decide) (fun cx => ?_) (fun cx => ?_)
  · have hf := ifpP cx hf
    refine W.widen (k := MC) (n := MS) hkc hks ?_
    exact m_rv hf hx hb hr hlocks hK hP hD hS d_K_exchange_92
  · have hf := ifnP cx hf
    refine lv_aload_n hx hb d_K_exchange_73 rfl (lv_at hl 0 rfl) ?_
    obtain ⟨fs_, hm_, r7, hv_, hf⟩ := hf
    obtain ⟨ix_, hi_⟩ := m_ix hm_
    refine va_get (D := D) (ci := 0) (v := va_rf r7) (C := "CoinKeeper") (T := F_0) (N := 13) hx hb hts i_0 hown hK hP ix_ hi_ rfl 7 (by decide) (hts _ gw_507) (fun _ h9 => h9) hv_ d_K_exchange_74 ?_
    clear hv_ hi_ hm_
    obtain ⟨q8, rfl, hf⟩ := hf
    refine W.eq (g2 := F0 m 77 ls [.ref q8]) rfl ?_
    refine lv_aload_n hx hb d_K_exchange_77 rfl (lv_at hl 1 rfl) ?_
    obtain ⟨fs_, hm_, r9, hv_, hf⟩ := hf
    obtain ⟨ix_, hi_⟩ := m_ix hm_
    refine va_get (D := D) (ci := 1) (v := va_rf r9) (C := "CoinKeeper$Block") (T := F_1) (N := 12) hx hb hts i_1 hown hK hP ix_ hi_ rfl 8 (by decide) (hts _ gw_408) (fun _ h9 => h9) hv_ d_K_exchange_78 ?_
    clear hv_ hi_ hm_
    obtain ⟨q10, rfl, hf⟩ := hf
    refine W.eq (g2 := F0 m 81 ls [.ref q10, .ref q8]) rfl ?_
    refine lv_iload_n hx hb d_K_exchange_81 rfl (lv_at hl 3 rfl) ?_
    obtain ⟨n_, f_, hm_, hin_, hf⟩ := hf
    obtain ⟨ix_, hi_⟩ := m_ix hm_
    refine va_aldq hx hb hK hP ix_ 6 hi_ rfl (inb_in hin_) d_K_exchange_82 ?_
    obtain ⟨r11, ev⟩ : ∃ z, z = f_ x3.toNatClampNeg := ⟨_, rfl⟩
    first | rw [← ev] at hf ⊢ | rw [← ev]
    clear ev hi_ hm_ hin_
    have hq_ := ospp hf
    clear hf
    rcases hq_ with ⟨rfl, hf⟩ | ⟨q12, rfl, hf⟩
    · refine W.eq (g2 := F0 m 83 ls [.null, .ref q8]) rfl ?_
      obtain ⟨fs_, hm_, hf⟩ := hf
      obtain ⟨ix_, hi_⟩ := m_ix hm_
      obtain ⟨mc13, ms14, ⟨hc_, hd_⟩, hf⟩ := hf
      refine m_av (va_runV (C := "CoinKeeper$Ledger") (As := [.null]) (rest := []) ⟨hx, hb, hml, hown, hts⟩ (cw_mLe_put_z1 l D cy ad mi fu mc13 ms14 q8 M _ hf H.size) ⟨q_cB hts gw_956 gw_9 gw_953 hdq_30 ⟨Nat.le_of_ble_eq_true rfl, Nat.le_of_ble_eq_true rfl⟩, hts _ gw_954, hts _ gw_955⟩ (q_preVM (q_preM hP hD hK hSt hT hMi hS (m_free hD hS hA) _) (va_recv hK hP (ci := 5) (q0 := ix_) rfl hi_)) rfl rfl hl.1 rfl (lv_room (Nat.le_of_ble_eq_true rfl)) d_K_exchange_83 ⟨hc_, hd_⟩) hD hS hA (fun M15 H locs hf hP hD hS => ?_)
      have hkc : κ + mc13 ≤ MC := hc_
      have hks : σ + ms14 ≤ MS := hd_
      clear hc_ hd_
      obtain ⟨v16, ev, hf⟩ := bnP hf
      refine lv_iinc (v := v16) (lv' := [(3, .int v16), (0, .ref x0), (1, .ref x1), (2, .int x2)]) hx hb d_K_exchange_86 hl (k := 3) rfl (by rw [ev]; rfl) (by decide) rfl (fun ls hl => ?_)
      clear ev
      refine lv_goto (tgt := 58) hx hb d_K_exchange_89 (by decide) ?_
      exact hk_58 _ _ _ _ _ _ _ hf hkc hks _ _ _ hP hD hS (lv_sub hl [1, 2, 3, 0] rfl)
    · refine W.eq (g2 := F0 m 83 ls [.ref q12, .ref q8]) rfl ?_
      obtain ⟨fs_, hm_, hf⟩ := hf
      obtain ⟨ix_, hi_⟩ := m_ix hm_
      obtain ⟨mc17, ms18, ⟨hc_, hd_⟩, hf⟩ := hf
      refine m_av (va_runV (C := "CoinKeeper$Ledger") (As := [.ref q12]) (rest := []) ⟨hx, hb, hml, hown, hts⟩ (cw_mLe_put l D cy ad mi fu mc17 ms18 q8 q12 M _ hf H.size) ⟨q_cB hts gw_956 gw_9 gw_953 hdq_30 ⟨Nat.le_of_ble_eq_true rfl, Nat.le_of_ble_eq_true rfl⟩, hts _ gw_954, hts _ gw_955⟩ (q_preVM (q_preM hP hD hK hSt hT hMi hS (m_free hD hS hA) _) (va_recv hK hP (ci := 5) (q0 := ix_) rfl hi_)) rfl rfl hl.1 rfl (lv_room (Nat.le_of_ble_eq_true rfl)) d_K_exchange_83 ⟨hc_, hd_⟩) hD hS hA (fun M19 H locs hf hP hD hS => ?_)
      have hkc : κ + mc17 ≤ MC := hc_
      have hks : σ + ms18 ≤ MS := hd_
      clear hc_ hd_
      obtain ⟨v20, ev, hf⟩ := bnP hf
      refine lv_iinc (v := v20) (lv' := [(3, .int v20), (0, .ref x0), (1, .ref x1), (2, .int x2)]) hx hb d_K_exchange_86 hl (k := 3) rfl (by rw [ev]; rfl) (by decide) rfl (fun ls hl => ?_)
      clear ev
      refine lv_goto (tgt := 58) hx hb d_K_exchange_89 (by decide) ?_
      exact hk_58 _ _ _ _ _ _ _ hf hkc hks _ _ _ hP hD hS (lv_sub hl [1, 2, 3, 0] rfl)
theorem ww_mK_exchange_58 {p : Program} {l : Launch} {e : Env} {s : State} {m : MethodId} {args : Array Value} {below : List Frame} {meth : Method} {c : Code} {D : va_G} {cy : Nat → ClassId} {A : Nat → Prop} {ad : Nat → Nat} {mi MC MS : Nat} {Φ : Mm → Prop} {fu : Nat} (F : FxM p s m args meth c b_K_exchange 4 "CoinKeeper" "exchange" none D cy ad mi A) : ∀ n : Nat, Iw_mK_exchange_58 p l e s m args below meth c D cy A ad mi MC MS Φ (xw_mK_exchange_58 fu MC MS cy ad mi Φ n)
  | 0 => fun _ _ _ _ _ _ _ hf => False.elim hf
  | n + 1 => wv_mK_exchange_58 F (ww_mK_exchange_58 F n)
set_option maxHeartbeats 8000000 in
set_option maxRecDepth 100000 in
theorem wv_mK_exchange_48 {p : Program} {l : Launch} {e : Env} {s : State} {m : MethodId} {args : Array Value} {below : List Frame} {meth : Method} {c : Code} {D : va_G} {cy : Nat → ClassId} {A : Nat → Prop} {ad : Nat → Nat} {mi MC MS : Nat} {Φ : Mm → Prop} {fu : Nat} (F : FxM p s m args meth c b_K_exchange 4 "CoinKeeper" "exchange" none D cy ad mi A) : Iw_mK_exchange_48 p l e s m args below meth c D cy A ad mi MC MS Φ (xv_mK_exchange_48 fu MC MS cy ad mi Φ) := by
  obtain ⟨⟨hx, hb, hr, hml, hown, hts, hlocks, hK, hA, hSt, hnm, hex⟩, hT, hMi⟩ := id F
  intro κ σ M x0 x1 x2 hf hkc hks H locs ls hP hD hS hl
  unfold xv_mK_exchange_48 at hf
  refine lv_aload_n hx hb d_K_exchange_48 rfl (lv_at hl 0 rfl) ?_
  obtain ⟨fs_, hm_, r1, hv_, hf⟩ := hf
  obtain ⟨ix_, hi_⟩ := m_ix hm_
  refine va_get (D := D) (ci := 0) (v := va_rf r1) (C := "CoinKeeper") (T := F_0) (N := 13) hx hb hts i_0 hown hK hP ix_ hi_ rfl 6 (by decide) (hts _ gw_506) (fun _ h9 => h9) hv_ d_K_exchange_49 ?_
  clear hv_ hi_ hm_
  obtain ⟨q2, rfl, hf⟩ := hf
  refine W.eq (g2 := F0 m 52 ls [.ref q2]) rfl ?_
  obtain ⟨fs_, hm_, r3, hv_, hf⟩ := hf
  obtain ⟨ix_, hi_⟩ := m_ix hm_
  refine va_get (D := D) (ci := 4) (v := va_rf r3) (C := "CoinKeeper$Layout") (T := F_4) (N := 15) hx hb hts i_4 hown hK hP ix_ hi_ rfl 4 (by decide) (hts _ gw_281) (fun _ h9 => h9) hv_ d_K_exchange_52 ?_
  clear hv_ hi_ hm_
  obtain ⟨q4, rfl, hf⟩ := hf
  refine W.eq (g2 := F0 m 55 ls [.ref q4]) rfl ?_
  refine lv_iload_n hx hb d_K_exchange_55 rfl (lv_at hl 2 rfl) ?_
  obtain ⟨n_, f_, hm_, hin_, hf⟩ := hf
  obtain ⟨ix_, hi_⟩ := m_ix hm_
  refine va_iald hx hb hK hP ix_ 1 hi_ rfl (inb_in hin_) d_K_exchange_56 ?_
  obtain ⟨v5, ev⟩ : ∃ z, z = f_ x2.toNatClampNeg := ⟨_, rfl⟩
  first | rw [← ev] at hf ⊢ | rw [← ev]
  clear ev hi_ hm_ hin_
  refine lv_istore_n (lv' := [(3, .int v5), (0, .ref x0), (1, .ref x1), (2, .int x2)]) hx hb d_K_exchange_57 rfl hl (by decide) rfl (fun ls hl => ?_)
  exact ww_mK_exchange_58 F fu _ _ _ _ _ _ _ hf hkc hks _ _ _ hP hD hS (lv_sub hl [1, 2, 3, 0] rfl)
set_option maxHeartbeats 8000000 in
set_option maxRecDepth 100000 in
theorem wv_mK_exchange_14 {p : Program} {l : Launch} {e : Env} {s : State} {m : MethodId} {args : Array Value} {below : List Frame} {meth : Method} {c : Code} {D : va_G} {cy : Nat → ClassId} {A : Nat → Prop} {ad : Nat → Nat} {mi MC MS : Nat} {Φ : Mm → Prop} {fu : Nat} {k_14 : Nat → Nat → Mm → Nat → Nat → Int32 → Int32 → Prop} (F : FxM p s m args meth c b_K_exchange 4 "CoinKeeper" "exchange" none D cy ad mi A) (hk_14 : Iw_mK_exchange_14 p l e s m args below meth c D cy A ad mi MC MS Φ k_14) : Iw_mK_exchange_14 p l e s m args below meth c D cy A ad mi MC MS Φ (xv_mK_exchange_14 fu MC MS cy ad mi Φ k_14) := by
  obtain ⟨⟨hx, hb, hr, hml, hown, hts, hlocks, hK, hA, hSt, hnm, hex⟩, hT, hMi⟩ := id F
  intro κ σ M x0 x1 x2 x3 hf hkc hks H locs ls hP hD hS hl
  unfold xv_mK_exchange_14 at hf
  refine lv_iload_n hx hb d_K_exchange_14 rfl (lv_at hl 3 rfl) ?_
  refine lv_aload_n hx hb d_K_exchange_15 rfl (lv_at hl 0 rfl) ?_
  obtain ⟨fs_, hm_, r1, hv_, hf⟩ := hf
  obtain ⟨ix_, hi_⟩ := m_ix hm_
  refine va_get (D := D) (ci := 0) (v := va_rf r1) (C := "CoinKeeper") (T := F_0) (N := 13) hx hb hts i_0 hown hK hP ix_ hi_ rfl 6 (by decide) (hts _ gw_506) (fun _ h9 => h9) hv_ d_K_exchange_16 ?_
  clear hv_ hi_ hm_
  obtain ⟨q2, rfl, hf⟩ := hf
  refine W.eq (g2 := F0 m 19 ls [.ref q2, .int x3]) rfl ?_
  obtain ⟨fs_, hm_, r3, hv_, hf⟩ := hf
  obtain ⟨ix_, hi_⟩ := m_ix hm_
  refine va_get (D := D) (ci := 4) (v := va_rf r3) (C := "CoinKeeper$Layout") (T := F_4) (N := 15) hx hb hts i_4 hown hK hP ix_ hi_ rfl 3 (by decide) (hts _ gw_277) (fun _ h9 => h9) hv_ d_K_exchange_19 ?_
  clear hv_ hi_ hm_
  obtain ⟨q4, rfl, hf⟩ := hf
  refine W.eq (g2 := F0 m 22 ls [.ref q4, .int x3]) rfl ?_
  refine lv_iload_n hx hb d_K_exchange_22 rfl (lv_at hl 2 rfl) ?_
  refine lv_iconst (v := 1) hx hb d_K_exchange_23 (by decide) ?_
  refine lv_iadd hx hb d_K_exchange_24 ?_
  refine lv_topi (fun v5 ev => ?_)
  have hf := bnQ ev hf
  clear ev
  obtain ⟨n_, f_, hm_, hin_, hf⟩ := hf
  obtain ⟨ix_, hi_⟩ := m_ix hm_
  refine va_iald hx hb hK hP ix_ 1 hi_ rfl (inb_in hin_) d_K_exchange_25 ?_
  obtain ⟨v6, ev⟩ : ∃ z, z = f_ v5.toNatClampNeg := ⟨_, rfl⟩
  first | rw [← ev] at hf ⊢ | rw [← ev]
  clear ev hi_ hm_ hin_
  refine lv_icmp_ge (tgt := 48) hx hb d_K_exchange_26 (by decide) (fun cx => ?_) (fun cx => ?_)
  · have hf := ifpP cx hf
    exact wv_mK_exchange_48 (fu := fu) F _ _ _ _ _ _ hf hkc hks _ _ _ hP hD hS (lv_sub hl [0, 1, 2] rfl)
  · have hf := ifnP cx hf
    refine lv_aload_n hx hb d_K_exchange_29 rfl (lv_at hl 0 rfl) ?_
    obtain ⟨fs_, hm_, r7, hv_, hf⟩ := hf
    obtain ⟨ix_, hi_⟩ := m_ix hm_
    refine va_get (D := D) (ci := 0) (v := va_rf r7) (C := "CoinKeeper") (T := F_0) (N := 13) hx hb hts i_0 hown hK hP ix_ hi_ rfl 7 (by decide) (hts _ gw_507) (fun _ h9 => h9) hv_ d_K_exchange_30 ?_
    clear hv_ hi_ hm_
    obtain ⟨q8, rfl, hf⟩ := hf
    refine W.eq (g2 := F0 m 33 ls [.ref q8]) rfl ?_
    refine lv_aload_n hx hb d_K_exchange_33 rfl (lv_at hl 0 rfl) ?_
    obtain ⟨fs_, hm_, r9, hv_, hf⟩ := hf
    obtain ⟨ix_, hi_⟩ := m_ix hm_
    refine va_get (D := D) (ci := 0) (v := va_rf r9) (C := "CoinKeeper") (T := F_0) (N := 13) hx hb hts i_0 hown hK hP ix_ hi_ rfl 9 (by decide) (hts _ gw_509) (fun _ h9 => h9) hv_ d_K_exchange_34 ?_
    clear hv_ hi_ hm_
    obtain ⟨q10, rfl, hf⟩ := hf
    refine W.eq (g2 := F0 m 37 ls [.ref q10, .ref q8]) rfl ?_
    refine lv_iload_n hx hb d_K_exchange_37 rfl (lv_at hl 3 rfl) ?_
    obtain ⟨n_, f_, hm_, hin_, hf⟩ := hf
    obtain ⟨ix_, hi_⟩ := m_ix hm_
    refine va_aldq hx hb hK hP ix_ 6 hi_ rfl (inb_in hin_) d_K_exchange_38 ?_
    obtain ⟨r11, ev⟩ : ∃ z, z = f_ x3.toNatClampNeg := ⟨_, rfl⟩
    first | rw [← ev] at hf ⊢ | rw [← ev]
    clear ev hi_ hm_ hin_
    have hq_ := ospp hf
    clear hf
    rcases hq_ with ⟨rfl, hf⟩ | ⟨q12, rfl, hf⟩
    · refine W.eq (g2 := F0 m 39 ls [.null, .ref q8]) rfl ?_
      obtain ⟨fs_, hm_, hf⟩ := hf
      obtain ⟨ix_, hi_⟩ := m_ix hm_
      obtain ⟨mc13, ms14, ⟨hc_, hd_⟩, hf⟩ := hf
      refine m_av (va_runV (C := "CoinKeeper$Ledger") (As := [.null]) (rest := []) ⟨hx, hb, hml, hown, hts⟩ (cw_mLe_flip_z1 l D cy ad mi fu mc13 ms14 q8 M _ hf H.size) ⟨q_cB hts gw_952 gw_9 gw_949 hdq_21 ⟨Nat.le_of_ble_eq_true rfl, Nat.le_of_ble_eq_true rfl⟩, hts _ gw_950, hts _ gw_951⟩ (q_preVM (q_preM hP hD hK hSt hT hMi hS (m_free hD hS hA) _) (va_recv hK hP (ci := 5) (q0 := ix_) rfl hi_)) rfl rfl hl.1 rfl (lv_room (Nat.le_of_ble_eq_true rfl)) d_K_exchange_39 ⟨hc_, hd_⟩) hD hS hA (fun M15 H locs hf hP hD hS => ?_)
      have hkc : κ + mc13 ≤ MC := hc_
      have hks : σ + ms14 ≤ MS := hd_
      clear hc_ hd_
      obtain ⟨v16, ev, hf⟩ := bnP hf
      refine lv_iinc (v := v16) (lv' := [(3, .int v16), (0, .ref x0), (1, .ref x1), (2, .int x2)]) hx hb d_K_exchange_42 hl (k := 3) rfl (by rw [ev]; rfl) (by decide) rfl (fun ls hl => ?_)
      clear ev
      refine lv_goto (tgt := 14) hx hb d_K_exchange_45 (by decide) ?_
      exact hk_14 _ _ _ _ _ _ _ hf hkc hks _ _ _ hP hD hS (lv_sub hl [1, 2, 3, 0] rfl)
    · refine W.eq (g2 := F0 m 39 ls [.ref q12, .ref q8]) rfl ?_
      obtain ⟨fs_, hm_, hf⟩ := hf
      obtain ⟨ix_, hi_⟩ := m_ix hm_
      obtain ⟨mc17, ms18, ⟨hc_, hd_⟩, hf⟩ := hf
      refine m_av (va_runV (C := "CoinKeeper$Ledger") (As := [.ref q12]) (rest := []) ⟨hx, hb, hml, hown, hts⟩ (cw_mLe_flip l D cy ad mi fu mc17 ms18 q8 q12 M _ hf H.size) ⟨q_cB hts gw_952 gw_9 gw_949 hdq_21 ⟨Nat.le_of_ble_eq_true rfl, Nat.le_of_ble_eq_true rfl⟩, hts _ gw_950, hts _ gw_951⟩ (q_preVM (q_preM hP hD hK hSt hT hMi hS (m_free hD hS hA) _) (va_recv hK hP (ci := 5) (q0 := ix_) rfl hi_)) rfl rfl hl.1 rfl (lv_room (Nat.le_of_ble_eq_true rfl)) d_K_exchange_39 ⟨hc_, hd_⟩) hD hS hA (fun M19 H locs hf hP hD hS => ?_)
      have hkc : κ + mc17 ≤ MC := hc_
      have hks : σ + ms18 ≤ MS := hd_
      clear hc_ hd_
      obtain ⟨v20, ev, hf⟩ := bnP hf
      refine lv_iinc (v := v20) (lv' := [(3, .int v20), (0, .ref x0), (1, .ref x1), (2, .int x2)]) hx hb d_K_exchange_42 hl (k := 3) rfl (by rw [ev]; rfl) (by decide) rfl (fun ls hl => ?_)
      clear ev
      refine lv_goto (tgt := 14) hx hb d_K_exchange_45 (by decide) ?_
      exact hk_14 _ _ _ _ _ _ _ hf hkc hks _ _ _ hP hD hS (lv_sub hl [1, 2, 3, 0] rfl)
theorem ww_mK_exchange_14 {p : Program} {l : Launch} {e : Env} {s : State} {m : MethodId} {args : Array Value} {below : List Frame} {meth : Method} {c : Code} {D : va_G} {cy : Nat → ClassId} {A : Nat → Prop} {ad : Nat → Nat} {mi MC MS : Nat} {Φ : Mm → Prop} {fu : Nat} (F : FxM p s m args meth c b_K_exchange 4 "CoinKeeper" "exchange" none D cy ad mi A) : ∀ n : Nat, Iw_mK_exchange_14 p l e s m args below meth c D cy A ad mi MC MS Φ (xw_mK_exchange_14 fu MC MS cy ad mi Φ n)
  | 0 => fun _ _ _ _ _ _ _ hf => False.elim hf
  | n + 1 => wv_mK_exchange_14 F (ww_mK_exchange_14 F n)
set_option maxHeartbeats 8000000 in
set_option maxRecDepth 100000 in
theorem wew_mK_exchange {p : Program} {l : Launch} {e : Env} {s : State} {m : MethodId} {args : Array Value} {below : List Frame} {meth : Method} {c : Code} {D : va_G} {cy : Nat → ClassId} {A : Nat → Prop} {ad : Nat → Nat} {mi MC MS : Nat} {Φ : Mm → Prop} {fu : Nat} (F : FxM p s m args meth c b_K_exchange 4 "CoinKeeper" "exchange" none D cy ad mi A) : Iw_mK_exchange_e p l e s m args below meth c D cy A ad mi MC MS Φ (xw_mK_exchange fu MC MS cy ad mi Φ) := by
  obtain ⟨⟨hx, hb, hr, hml, hown, hts, hlocks, hK, hA, hSt, hnm, hex⟩, hT, hMi⟩ := id F
  intro κ σ M a0 a1 a2 hf hkc hks H locs ls hP hD hS hl
  unfold xw_mK_exchange at hf
  refine lv_iload_n hx hb d_K_exchange_0 rfl (lv_at hl 2 rfl) ?_
  refine lv_if_le (tgt := 48) hx hb d_K_exchange_1 (by decide) (fun cx => ?_) (fun cx => ?_)
  · have hf := ifpP cx hf
    exact wv_mK_exchange_48 (fu := fu) F _ _ _ _ _ _ hf hkc hks _ _ _ hP hD hS (lv_sub hl [0, 1, 2] rfl)
  · have hf := ifnP cx hf
    refine lv_aload_n hx hb d_K_exchange_4 rfl (lv_at hl 0 rfl) ?_
    obtain ⟨fs_, hm_, r1, hv_, hf⟩ := hf
    obtain ⟨ix_, hi_⟩ := m_ix hm_
    refine va_get (D := D) (ci := 0) (v := va_rf r1) (C := "CoinKeeper") (T := F_0) (N := 13) hx hb hts i_0 hown hK hP ix_ hi_ rfl 6 (by decide) (hts _ gw_506) (fun _ h9 => h9) hv_ d_K_exchange_5 ?_
    clear hv_ hi_ hm_
    obtain ⟨q2, rfl, hf⟩ := hf
    refine W.eq (g2 := F0 m 8 ls [.ref q2]) rfl ?_
    obtain ⟨fs_, hm_, r3, hv_, hf⟩ := hf
    obtain ⟨ix_, hi_⟩ := m_ix hm_
    refine va_get (D := D) (ci := 4) (v := va_rf r3) (C := "CoinKeeper$Layout") (T := F_4) (N := 15) hx hb hts i_4 hown hK hP ix_ hi_ rfl 3 (by decide) (hts _ gw_277) (fun _ h9 => h9) hv_ d_K_exchange_8 ?_
    clear hv_ hi_ hm_
    obtain ⟨q4, rfl, hf⟩ := hf
    refine W.eq (g2 := F0 m 11 ls [.ref q4]) rfl ?_
    refine lv_iload_n hx hb d_K_exchange_11 rfl (lv_at hl 2 rfl) ?_
    obtain ⟨n_, f_, hm_, hin_, hf⟩ := hf
    obtain ⟨ix_, hi_⟩ := m_ix hm_
    refine va_iald hx hb hK hP ix_ 1 hi_ rfl (inb_in hin_) d_K_exchange_12 ?_
    obtain ⟨v5, ev⟩ : ∃ z, z = f_ a2.toNatClampNeg := ⟨_, rfl⟩
    first | rw [← ev] at hf ⊢ | rw [← ev]
    clear ev hi_ hm_ hin_
    refine lv_istore_n (lv' := [(3, .int v5), (0, .ref a0), (1, .ref a1), (2, .int a2)]) hx hb d_K_exchange_13 rfl hl (by decide) rfl (fun ls hl => ?_)
    exact ww_mK_exchange_14 F fu _ _ _ _ _ _ _ hf hkc hks _ _ _ hP hD hS (lv_sub hl [1, 2, 3, 0] rfl)
theorem cw_mK_exchange (l : Launch) (D : va_G) (cy : Nat → ClassId) (ad : Nat → Nat) (mi fu MC MS : Nat) (a0 : Nat) (a1 : Nat) (a2 : Int32) (M : Mm) (Φ : Mm → Prop) (hf : xw_mK_exchange fu MC MS cy ad mi Φ 0 0 M a0 a1 a2) (sz : Nat) : Met l ({ cls := "CoinKeeper", name := "exchange", desc := "(LCoinKeeper$Block;I)V" } : Jvm.MethodName) (.code ({ cls := "CoinKeeper", name := "exchange", desc := "(LCoinKeeper$Block;I)V" } : Jvm.MethodName) b_K_exchange 4 none :: gw) (rmw_mK_exchange MC MS) (va_Pc [.ref a0, .ref a1, .int a2] (PrM D cy ad mi (mw M) sz)) (va_Qv Φ (fun u t => Po D cy (va_A (mw M) sz) (mw u) t) (va_A (mw M) sz)) MC MS (va_A (mw M) sz) :=
  q_metM (Qc := fun A => va_Qv Φ (fun u t => Po D cy A (mw u) t) A) (by decide) rfl rfl (Nat.le_of_ble_eq_true rfl) (fun p e s m below meth c ls F hP hD hS hl => wew_mK_exchange (fu := fu) F 0 0 M a0 a1 a2 hf (Nat.zero_le _) (Nat.zero_le _) _ _ _ hP hD hS hl) sz
abbrev b_K_collect : ByteArray := prog_1_method_17_code
theorem d_K_collect_0 : decode b_K_collect 0 = .ok (.aload_n 0, 1) := by decide +kernel
theorem d_K_collect_1 : decode b_K_collect 1 = .ok (.getfield 42, 3) := by decide +kernel
theorem d_K_collect_4 : decode b_K_collect 4 = .ok (.getfield 294, 3) := by decide +kernel
theorem d_K_collect_7 : decode b_K_collect 7 = .ok (.iload_n 2, 1) := by decide +kernel
theorem d_K_collect_8 : decode b_K_collect 8 = .ok (.iaload, 1) := by decide +kernel
theorem d_K_collect_9 : decode b_K_collect 9 = .ok (.istore_n 3, 1) := by decide +kernel
theorem d_K_collect_10 : decode b_K_collect 10 = .ok (.iload_n 3, 1) := by decide +kernel
theorem d_K_collect_11 : decode b_K_collect 11 = .ok (.aload_n 0, 1) := by decide +kernel
theorem d_K_collect_12 : decode b_K_collect 12 = .ok (.getfield 42, 3) := by decide +kernel
theorem d_K_collect_15 : decode b_K_collect 15 = .ok (.getfield 294, 3) := by decide +kernel
theorem d_K_collect_18 : decode b_K_collect 18 = .ok (.iload_n 2, 1) := by decide +kernel
theorem d_K_collect_19 : decode b_K_collect 19 = .ok (.iconst 1, 1) := by decide +kernel
theorem d_K_collect_20 : decode b_K_collect 20 = .ok (.iadd, 1) := by decide +kernel
theorem d_K_collect_21 : decode b_K_collect 21 = .ok (.iaload, 1) := by decide +kernel
theorem d_K_collect_22 : decode b_K_collect 22 = .ok (.if_icmp .ge 66, 3) := by decide +kernel
theorem d_K_collect_25 : decode b_K_collect 25 = .ok (.aload_n 0, 1) := by decide +kernel
theorem d_K_collect_26 : decode b_K_collect 26 = .ok (.getfield 62, 3) := by decide +kernel
theorem d_K_collect_29 : decode b_K_collect 29 = .ok (.iload_n 3, 1) := by decide +kernel
theorem d_K_collect_30 : decode b_K_collect 30 = .ok (.aload_n 0, 1) := by decide +kernel
theorem d_K_collect_31 : decode b_K_collect 31 = .ok (.getfield 49, 3) := by decide +kernel
theorem d_K_collect_34 : decode b_K_collect 34 = .ok (.aload_n 1, 1) := by decide +kernel
theorem d_K_collect_35 : decode b_K_collect 35 = .ok (.getfield 268, 3) := by decide +kernel
theorem d_K_collect_38 : decode b_K_collect 38 = .ok (.aload_n 0, 1) := by decide +kernel
theorem d_K_collect_39 : decode b_K_collect 39 = .ok (.getfield 42, 3) := by decide +kernel
theorem d_K_collect_42 : decode b_K_collect 42 = .ok (.getfield 297, 3) := by decide +kernel
theorem d_K_collect_45 : decode b_K_collect 45 = .ok (.iload_n 3, 1) := by decide +kernel
theorem d_K_collect_46 : decode b_K_collect 46 = .ok (.iaload, 1) := by decide +kernel
theorem d_K_collect_47 : decode b_K_collect 47 = .ok (.aload_n 1, 1) := by decide +kernel
theorem d_K_collect_48 : decode b_K_collect 48 = .ok (.getfield 268, 3) := by decide +kernel
theorem d_K_collect_51 : decode b_K_collect 51 = .ok (.aload_n 0, 1) := by decide +kernel
theorem d_K_collect_52 : decode b_K_collect 52 = .ok (.getfield 42, 3) := by decide +kernel
theorem d_K_collect_55 : decode b_K_collect 55 = .ok (.getfield 297, 3) := by decide +kernel
theorem d_K_collect_58 : decode b_K_collect 58 = .ok (.iload_n 3, 1) := by decide +kernel
theorem d_K_collect_59 : decode b_K_collect 59 = .ok (.iaload, 1) := by decide +kernel
theorem d_K_collect_60 : decode b_K_collect 60 = .ok (.bipush 32, 2) := by decide +kernel
theorem d_K_collect_62 : decode b_K_collect 62 = .ok (.iadd, 1) := by decide +kernel
theorem d_K_collect_63 : decode b_K_collect 63 = .ok (.invokestatic 166, 3) := by decide +kernel
theorem d_K_collect_66 : decode b_K_collect 66 = .ok (.invokevirtual 180, 3) := by decide +kernel
theorem d_K_collect_69 : decode b_K_collect 69 = .ok (.aastore, 1) := by decide +kernel
theorem d_K_collect_70 : decode b_K_collect 70 = .ok (.aload_n 0, 1) := by decide +kernel
theorem d_K_collect_71 : decode b_K_collect 71 = .ok (.getfield 62, 3) := by decide +kernel
theorem d_K_collect_74 : decode b_K_collect 74 = .ok (.iload_n 3, 1) := by decide +kernel
theorem d_K_collect_75 : decode b_K_collect 75 = .ok (.aaload, 1) := by decide +kernel
theorem d_K_collect_76 : decode b_K_collect 76 = .ok (.ifnonnull 6, 3) := by decide +kernel
theorem d_K_collect_79 : decode b_K_collect 79 = .ok (.bipush 10, 2) := by decide +kernel
theorem d_K_collect_81 : decode b_K_collect 81 = .ok (.ireturn, 1) := by decide +kernel
theorem d_K_collect_82 : decode b_K_collect 82 = .ok (.iinc 3 1, 3) := by decide +kernel
theorem d_K_collect_85 : decode b_K_collect 85 = .ok (.goto (-75), 3) := by decide +kernel
theorem d_K_collect_88 : decode b_K_collect 88 = .ok (.aload_n 0, 1) := by decide +kernel
theorem d_K_collect_89 : decode b_K_collect 89 = .ok (.getfield 42, 3) := by decide +kernel
theorem d_K_collect_92 : decode b_K_collect 92 = .ok (.getfield 294, 3) := by decide +kernel
theorem d_K_collect_95 : decode b_K_collect 95 = .ok (.iload_n 2, 1) := by decide +kernel
theorem d_K_collect_96 : decode b_K_collect 96 = .ok (.iaload, 1) := by decide +kernel
theorem d_K_collect_97 : decode b_K_collect 97 = .ok (.istore_n 3, 1) := by decide +kernel
theorem d_K_collect_98 : decode b_K_collect 98 = .ok (.iload_n 3, 1) := by decide +kernel
theorem d_K_collect_99 : decode b_K_collect 99 = .ok (.aload_n 0, 1) := by decide +kernel
theorem d_K_collect_100 : decode b_K_collect 100 = .ok (.getfield 42, 3) := by decide +kernel
theorem d_K_collect_103 : decode b_K_collect 103 = .ok (.getfield 294, 3) := by decide +kernel
theorem d_K_collect_106 : decode b_K_collect 106 = .ok (.iload_n 2, 1) := by decide +kernel
theorem d_K_collect_107 : decode b_K_collect 107 = .ok (.iconst 1, 1) := by decide +kernel
theorem d_K_collect_108 : decode b_K_collect 108 = .ok (.iadd, 1) := by decide +kernel
theorem d_K_collect_109 : decode b_K_collect 109 = .ok (.iaload, 1) := by decide +kernel
theorem d_K_collect_110 : decode b_K_collect 110 = .ok (.if_icmp .ge 45, 3) := by decide +kernel
theorem d_K_collect_113 : decode b_K_collect 113 = .ok (.aload_n 0, 1) := by decide +kernel
theorem d_K_collect_114 : decode b_K_collect 114 = .ok (.getfield 62, 3) := by decide +kernel
theorem d_K_collect_117 : decode b_K_collect 117 = .ok (.iload_n 3, 1) := by decide +kernel
theorem d_K_collect_118 : decode b_K_collect 118 = .ok (.aaload, 1) := by decide +kernel
theorem d_K_collect_119 : decode b_K_collect 119 = .ok (.getfield 300, 3) := by decide +kernel
theorem d_K_collect_122 : decode b_K_collect 122 = .ok (.ifCond .eq 27, 3) := by decide +kernel
theorem d_K_collect_125 : decode b_K_collect 125 = .ok (.aload_n 1, 1) := by decide +kernel
theorem d_K_collect_126 : decode b_K_collect 126 = .ok (.getfield 123, 3) := by decide +kernel
theorem d_K_collect_129 : decode b_K_collect 129 = .ok (.aload_n 0, 1) := by decide +kernel
theorem d_K_collect_130 : decode b_K_collect 130 = .ok (.getfield 62, 3) := by decide +kernel
theorem d_K_collect_133 : decode b_K_collect 133 = .ok (.iload_n 3, 1) := by decide +kernel
theorem d_K_collect_134 : decode b_K_collect 134 = .ok (.aaload, 1) := by decide +kernel
theorem d_K_collect_135 : decode b_K_collect 135 = .ok (.getfield 303, 3) := by decide +kernel
theorem d_K_collect_138 : decode b_K_collect 138 = .ok (.getfield 123, 3) := by decide +kernel
theorem d_K_collect_141 : decode b_K_collect 141 = .ok (.isub, 1) := by decide +kernel
theorem d_K_collect_142 : decode b_K_collect 142 = .ok (.iconst 5, 1) := by decide +kernel
theorem d_K_collect_143 : decode b_K_collect 143 = .ok (.if_icmp .ge 6, 3) := by decide +kernel
theorem d_K_collect_146 : decode b_K_collect 146 = .ok (.bipush 11, 2) := by decide +kernel
theorem d_K_collect_148 : decode b_K_collect 148 = .ok (.ireturn, 1) := by decide +kernel
theorem d_K_collect_149 : decode b_K_collect 149 = .ok (.iinc 3 1, 3) := by decide +kernel
theorem d_K_collect_152 : decode b_K_collect 152 = .ok (.goto (-54), 3) := by decide +kernel
theorem d_K_collect_155 : decode b_K_collect 155 = .ok (.iconst 0, 1) := by decide +kernel
theorem d_K_collect_156 : decode b_K_collect 156 = .ok (.ireturn, 1) := by decide +kernel
abbrev rmw_mK_collect (MC MS : Nat) : Room := { frames := 4, cells := MC, slots := MS, locals := 90 }
def Iw_mK_collect_149 (p : Program) (l : Launch) (e : Env) (s : State) (m : MethodId) (args : Array Value) (below : List Frame) (meth : Method) (c : Code) (D : va_G) (cy : Nat → ClassId) (A : Nat → Prop) (ad : Nat → Nat) (mi MC MS : Nat) (Φ : Int32 → Mm → Prop) (k : Nat → Nat → Mm → Nat → Nat → Int32 → Int32 → Prop) : Prop :=
  ∀ (κ σ : Nat) (M : Mm) (x0 : Nat) (x1 : Nat) (x2 : Int32) (x3 : Int32), k κ σ M x0 x1 x2 x3 → κ ≤ MC → σ ≤ MS → ∀ (H : Heap) (locs : List Loc) (ls : Array Slot), va_P D classes (mw M) H → va_D A (mw M) → va_S A s.heap H locs → lv_has ls 4 [(0, .ref x0), (1, .ref x1), (2, .int x2), (3, .int x3)] → W p l e (rmw_mK_collect MC MS) s m args below meth c H locs κ σ (MQ below (va_Qi Φ (fun u t => Po D cy A (mw u) t) A) args s MC MS A) (F0 m 149 ls [])
def Iw_mK_collect_98 (p : Program) (l : Launch) (e : Env) (s : State) (m : MethodId) (args : Array Value) (below : List Frame) (meth : Method) (c : Code) (D : va_G) (cy : Nat → ClassId) (A : Nat → Prop) (ad : Nat → Nat) (mi MC MS : Nat) (Φ : Int32 → Mm → Prop) (k : Nat → Nat → Mm → Nat → Nat → Int32 → Int32 → Prop) : Prop :=
  ∀ (κ σ : Nat) (M : Mm) (x0 : Nat) (x1 : Nat) (x2 : Int32) (x3 : Int32), k κ σ M x0 x1 x2 x3 → κ ≤ MC → σ ≤ MS → ∀ (H : Heap) (locs : List Loc) (ls : Array Slot), va_P D classes (mw M) H → va_D A (mw M) → va_S A s.heap H locs → lv_has ls 4 [(0, .ref x0), (1, .ref x1), (2, .int x2), (3, .int x3)] → W p l e (rmw_mK_collect MC MS) s m args below meth c H locs κ σ (MQ below (va_Qi Φ (fun u t => Po D cy A (mw u) t) A) args s MC MS A) (F0 m 98 ls [])
def Iw_mK_collect_10 (p : Program) (l : Launch) (e : Env) (s : State) (m : MethodId) (args : Array Value) (below : List Frame) (meth : Method) (c : Code) (D : va_G) (cy : Nat → ClassId) (A : Nat → Prop) (ad : Nat → Nat) (mi MC MS : Nat) (Φ : Int32 → Mm → Prop) (k : Nat → Nat → Mm → Nat → Nat → Int32 → Int32 → Prop) : Prop :=
  ∀ (κ σ : Nat) (M : Mm) (x0 : Nat) (x1 : Nat) (x2 : Int32) (x3 : Int32), k κ σ M x0 x1 x2 x3 → κ ≤ MC → σ ≤ MS → ∀ (H : Heap) (locs : List Loc) (ls : Array Slot), va_P D classes (mw M) H → va_D A (mw M) → va_S A s.heap H locs → lv_has ls 4 [(0, .ref x0), (1, .ref x1), (2, .int x2), (3, .int x3)] → W p l e (rmw_mK_collect MC MS) s m args below meth c H locs κ σ (MQ below (va_Qi Φ (fun u t => Po D cy A (mw u) t) A) args s MC MS A) (F0 m 10 ls [])
def Iw_mK_collect_e (p : Program) (l : Launch) (e : Env) (s : State) (m : MethodId) (args : Array Value) (below : List Frame) (meth : Method) (c : Code) (D : va_G) (cy : Nat → ClassId) (A : Nat → Prop) (ad : Nat → Nat) (mi MC MS : Nat) (Φ : Int32 → Mm → Prop) (k : Nat → Nat → Mm → Nat → Nat → Int32 → Prop) : Prop :=
  ∀ (κ σ : Nat) (M : Mm) (a0 : Nat) (a1 : Nat) (a2 : Int32), k κ σ M a0 a1 a2 → κ ≤ MC → σ ≤ MS → ∀ (H : Heap) (locs : List Loc) (ls : Array Slot), va_P D classes (mw M) H → va_D A (mw M) → va_S A s.heap H locs → lv_has ls 4 [(0, .ref a0), (1, .ref a1), (2, .int a2)] → W p l e (rmw_mK_collect MC MS) s m args below meth c H locs κ σ (MQ below (va_Qi Φ (fun u t => Po D cy A (mw u) t) A) args s MC MS A) (F0 m 0 ls [])
set_option maxHeartbeats 8000000 in
set_option maxRecDepth 100000 in
theorem wv_mK_collect_149 {p : Program} {l : Launch} {e : Env} {s : State} {m : MethodId} {args : Array Value} {below : List Frame} {meth : Method} {c : Code} {D : va_G} {cy : Nat → ClassId} {A : Nat → Prop} {ad : Nat → Nat} {mi MC MS : Nat} {Φ : Int32 → Mm → Prop} {fu : Nat} {k_98 : Nat → Nat → Mm → Nat → Nat → Int32 → Int32 → Prop} (F : FxM p s m args meth c b_K_collect 4 "CoinKeeper" "collect" (some .int) D cy ad mi A) (hk_98 : Iw_mK_collect_98 p l e s m args below meth c D cy A ad mi MC MS Φ k_98) : Iw_mK_collect_149 p l e s m args below meth c D cy A ad mi MC MS Φ (xv_mK_collect_149 fu MC MS cy ad mi Φ k_98) := by
  obtain ⟨⟨hx, hb, hr, hml, hown, hts, hlocks, hK, hA, hSt, hnm, hex⟩, hT, hMi⟩ := id F
  intro κ σ M x0 x1 x2 x3 hf hkc hks H locs ls hP hD hS hl
  unfold xv_mK_collect_149 at hf
  obtain ⟨v1, ev, hf⟩ := bnP hf
  refine lv_iinc (v := v1) (lv' := [(3, .int v1), (0, .ref x0), (1, .ref x1), (2, .int x2)]) hx hb d_K_collect_149 hl (k := 3) rfl (by rw [ev]; rfl) (by decide) rfl (fun ls hl => ?_)
  clear ev
  refine lv_goto (tgt := 98) hx hb d_K_collect_152 (by decide) ?_
  exact hk_98 _ _ _ _ _ _ _ hf hkc hks _ _ _ hP hD hS (lv_sub hl [1, 2, 3, 0] rfl)
set_option maxHeartbeats 8000000 in
set_option maxRecDepth 100000 in
theorem wv_mK_collect_98 {p : Program} {l : Launch} {e : Env} {s : State} {m : MethodId} {args : Array Value} {below : List Frame} {meth : Method} {c : Code} {D : va_G} {cy : Nat → ClassId} {A : Nat → Prop} {ad : Nat → Nat} {mi MC MS : Nat} {Φ : Int32 → Mm → Prop} {fu : Nat} {k_98 : Nat → Nat → Mm → Nat → Nat → Int32 → Int32 → Prop} (F : FxM p s m args meth c b_K_collect 4 "CoinKeeper" "collect" (some .int) D cy ad mi A) (hk_98 : Iw_mK_collect_98 p l e s m args below meth c D cy A ad mi MC MS Φ k_98) : Iw_mK_collect_98 p l e s m args below meth c D cy A ad mi MC MS Φ (xv_mK_collect_98 fu MC MS cy ad mi Φ k_98) := by
  obtain ⟨⟨hx, hb, hr, hml, hown, hts, hlocks, hK, hA, hSt, hnm, hex⟩, hT, hMi⟩ := id F
  intro κ σ M x0 x1 x2 x3 hf hkc hks H locs ls hP hD hS hl
  unfold xv_mK_collect_98 at hf
  refine lv_iload_n hx hb d_K_collect_98 rfl (lv_at hl 3 rfl) ?_
  refine lv_aload_n hx hb d_K_collect_99 rfl (lv_at hl 0 rfl) ?_
  obtain ⟨fs_, hm_, r1, hv_, hf⟩ := hf
  obtain ⟨ix_, hi_⟩ := m_ix hm_
  refine va_get (D := D) (ci := 0) (v := va_rf r1) (C := "CoinKeeper") (T := F_0) (N := 13) hx hb hts i_0 hown hK hP ix_ hi_ rfl 6 (by decide) (hts _ gw_506) (fun _ h9 => h9) hv_ d_K_collect_100 ?_
  clear hv_ hi_ hm_
  obtain ⟨q2, rfl, hf⟩ := hf
  refine W.eq (g2 := F0 m 103 ls [.ref q2, .int x3]) rfl ?_
  obtain ⟨fs_, hm_, r3, hv_, hf⟩ := hf
  obtain ⟨ix_, hi_⟩ := m_ix hm_
  refine va_get (D := D) (ci := 4) (v := va_rf r3) (C := "CoinKeeper$Layout") (T := F_4) (N := 15) hx hb hts i_4 hown hK hP ix_ hi_ rfl 3 (by decide) (hts _ gw_277) (fun _ h9 => h9) hv_ d_K_collect_103 ?_
  clear hv_ hi_ hm_
  obtain ⟨q4, rfl, hf⟩ := hf
  refine W.eq (g2 := F0 m 106 ls [.ref q4, .int x3]) rfl ?_
  refine lv_iload_n hx hb d_K_collect_106 rfl (lv_at hl 2 rfl) ?_
  refine lv_iconst (v := 1) hx hb d_K_collect_107 (by decide) ?_
  refine lv_iadd hx hb d_K_collect_108 ?_
  refine lv_topi (fun v5 ev => ?_)
  have hf := bnQ ev hf
  clear ev
  obtain ⟨n_, f_, hm_, hin_, hf⟩ := hf
  obtain ⟨ix_, hi_⟩ := m_ix hm_
  refine va_iald hx hb hK hP ix_ 1 hi_ rfl (inb_in hin_) d_K_collect_109 ?_
  obtain ⟨v6, ev⟩ : ∃ z, z = f_ v5.toNatClampNeg := ⟨_, rfl⟩
  first | rw [← ev] at hf ⊢ | rw [← ev]
  clear ev hi_ hm_ hin_
  refine lv_icmp_ge (tgt := 155) hx hb d_K_collect_110 (by decide) (fun cx => ?_) (fun cx => ?_)
  · have hf := ifpP cx hf
    refine lv_iconst (v := 0) hx hb d_K_collect_155 (by decide) ?_
    refine W.widen (k := MC) (n := MS) hkc hks ?_
    exact m_ri hf hx hb hr hlocks hK hP hD hS d_K_collect_156
  · have hf := ifnP cx hf
    refine lv_aload_n hx hb d_K_collect_113 rfl (lv_at hl 0 rfl) ?_
    obtain ⟨fs_, hm_, r7, hv_, hf⟩ := hf
    obtain ⟨ix_, hi_⟩ := m_ix hm_
    refine va_get (D := D) (ci := 0) (v := va_rf r7) (C := "CoinKeeper") (T := F_0) (N := 13) hx hb hts i_0 hown hK hP ix_ hi_ rfl 9 (by decide) (hts _ gw_509) (fun _ h9 => h9) hv_ d_K_collect_114 ?_
    clear hv_ hi_ hm_
    obtain ⟨q8, rfl, hf⟩ := hf
    refine W.eq (g2 := F0 m 117 ls [.ref q8]) rfl ?_
    refine lv_iload_n hx hb d_K_collect_117 rfl (lv_at hl 3 rfl) ?_
    obtain ⟨n_, f_, hm_, hin_, hf⟩ := hf
    obtain ⟨ix_, hi_⟩ := m_ix hm_
    refine va_aldq hx hb hK hP ix_ 6 hi_ rfl (inb_in hin_) d_K_collect_118 ?_
    obtain ⟨r9, ev⟩ : ∃ z, z = f_ x3.toNatClampNeg := ⟨_, rfl⟩
    first | rw [← ev] at hf ⊢ | rw [← ev]
    clear ev hi_ hm_ hin_
    have hq_ := ospp hf
    clear hf
    rcases hq_ with ⟨rfl, hf⟩ | ⟨q10, rfl, hf⟩
    · refine W.eq (g2 := F0 m 119 ls [.null]) rfl ?_
      exact hf.elim
    · refine W.eq (g2 := F0 m 119 ls [.ref q10]) rfl ?_
      obtain ⟨fs_, hm_, v11, hv_, hf⟩ := hf
      obtain ⟨ix_, hi_⟩ := m_ix hm_
      refine va_get (D := D) (ci := 2) (v := .int v11) (C := "CoinKeeper$Coin") (T := F_2) (N := 10) hx hb hts i_2 hown hK hP ix_ hi_ rfl 5 (by decide) (hts _ gw_864) (fun _ h9 => h9) hv_ d_K_collect_119 ?_
      clear hv_ hi_ hm_
      refine lv_if_eq (tgt := 149) hx hb d_K_collect_122 (by decide) (fun cx => ?_) (fun cx => ?_)
      · have hf := ifpP cx hf
        exact wv_mK_collect_149 (fu := fu) F hk_98 _ _ _ _ _ _ _ hf hkc hks _ _ _ hP hD hS (lv_sub hl [0, 1, 2, 3] rfl)
      · have hf := ifnP cx hf
        refine lv_aload_n hx hb d_K_collect_125 rfl (lv_at hl 1 rfl) ?_
        obtain ⟨fs_, hm_, v12, hv_, hf⟩ := hf
        obtain ⟨ix_, hi_⟩ := m_ix hm_
        refine va_get (D := D) (ci := 1) (v := .int v12) (C := "CoinKeeper$Block") (T := F_1) (N := 12) hx hb hts i_1 hown hK hP ix_ hi_ rfl 4 (by decide) (hts _ gw_401) (fun _ h9 => h9) hv_ d_K_collect_126 ?_
        clear hv_ hi_ hm_
        refine lv_aload_n hx hb d_K_collect_129 rfl (lv_at hl 0 rfl) ?_
        obtain ⟨fs_, hm_, r13, hv_, hf⟩ := hf
        obtain ⟨ix_, hi_⟩ := m_ix hm_
        refine va_get (D := D) (ci := 0) (v := va_rf r13) (C := "CoinKeeper") (T := F_0) (N := 13) hx hb hts i_0 hown hK hP ix_ hi_ rfl 9 (by decide) (hts _ gw_509) (fun _ h9 => h9) hv_ d_K_collect_130 ?_
        clear hv_ hi_ hm_
        obtain ⟨q14, rfl, hf⟩ := hf
        refine W.eq (g2 := F0 m 133 ls [.ref q14, .int v12]) rfl ?_
        refine lv_iload_n hx hb d_K_collect_133 rfl (lv_at hl 3 rfl) ?_
        obtain ⟨n_, f_, hm_, hin_, hf⟩ := hf
        obtain ⟨ix_, hi_⟩ := m_ix hm_
        refine va_aldq hx hb hK hP ix_ 6 hi_ rfl (inb_in hin_) d_K_collect_134 ?_
        obtain ⟨r15, ev⟩ : ∃ z, z = f_ x3.toNatClampNeg := ⟨_, rfl⟩
        first | rw [← ev] at hf ⊢ | rw [← ev]
        clear ev hi_ hm_ hin_
        have hq_ := ospp hf
        clear hf
        rcases hq_ with ⟨rfl, hf⟩ | ⟨q16, rfl, hf⟩
        · refine W.eq (g2 := F0 m 135 ls [.null, .int v12]) rfl ?_
          exact hf.elim
        · refine W.eq (g2 := F0 m 135 ls [.ref q16, .int v12]) rfl ?_
          obtain ⟨fs_, hm_, r17, hv_, hf⟩ := hf
          obtain ⟨ix_, hi_⟩ := m_ix hm_
          refine va_get (D := D) (ci := 2) (v := va_rf r17) (C := "CoinKeeper$Coin") (T := F_2) (N := 10) hx hb hts i_2 hown hK hP ix_ hi_ rfl 0 (by decide) (hts _ gw_852) (fun _ h9 => h9) hv_ d_K_collect_135 ?_
          clear hv_ hi_ hm_
          obtain ⟨q18, rfl, hf⟩ := hf
          refine W.eq (g2 := F0 m 138 ls [.ref q18, .int v12]) rfl ?_
          obtain ⟨fs_, hm_, v19, hv_, hf⟩ := hf
          obtain ⟨ix_, hi_⟩ := m_ix hm_
          refine va_get (D := D) (ci := 1) (v := .int v19) (C := "CoinKeeper$Block") (T := F_1) (N := 12) hx hb hts i_1 hown hK hP ix_ hi_ rfl 4 (by decide) (hts _ gw_401) (fun _ h9 => h9) hv_ d_K_collect_138 ?_
          clear hv_ hi_ hm_
          refine lv_isub hx hb d_K_collect_141 ?_
          refine lv_topi (fun v20 ev => ?_)
          have hf := bnQ ev hf
          clear ev
          refine lv_iconst (v := 5) hx hb d_K_collect_142 (by decide) ?_
          refine lv_icmp_ge (tgt := 149) hx hb d_K_collect_143 (by decide) (fun cx => ?_) (fun cx => ?_)
          · have hf := ifpP cx hf
            exact wv_mK_collect_149 (fu := fu) F hk_98 _ _ _ _ _ _ _ hf hkc hks _ _ _ hP hD hS (lv_sub hl [0, 1, 2, 3] rfl)
          · have hf := ifnP cx hf
            refine lv_bipush (v := 11) hx hb d_K_collect_146 (by decide) ?_
            refine W.widen (k := MC) (n := MS) hkc hks ?_
            exact m_ri hf hx hb hr hlocks hK hP hD hS d_K_collect_148
theorem ww_mK_collect_98 {p : Program} {l : Launch} {e : Env} {s : State} {m : MethodId} {args : Array Value} {below : List Frame} {meth : Method} {c : Code} {D : va_G} {cy : Nat → ClassId} {A : Nat → Prop} {ad : Nat → Nat} {mi MC MS : Nat} {Φ : Int32 → Mm → Prop} {fu : Nat} (F : FxM p s m args meth c b_K_collect 4 "CoinKeeper" "collect" (some .int) D cy ad mi A) : ∀ n : Nat, Iw_mK_collect_98 p l e s m args below meth c D cy A ad mi MC MS Φ (xw_mK_collect_98 fu MC MS cy ad mi Φ n)
  | 0 => fun _ _ _ _ _ _ _ hf => False.elim hf
  | n + 1 => wv_mK_collect_98 F (ww_mK_collect_98 F n)
set_option maxHeartbeats 8000000 in
set_option maxRecDepth 100000 in
theorem wv_mK_collect_10 {p : Program} {l : Launch} {e : Env} {s : State} {m : MethodId} {args : Array Value} {below : List Frame} {meth : Method} {c : Code} {D : va_G} {cy : Nat → ClassId} {A : Nat → Prop} {ad : Nat → Nat} {mi MC MS : Nat} {Φ : Int32 → Mm → Prop} {fu : Nat} {k_10 : Nat → Nat → Mm → Nat → Nat → Int32 → Int32 → Prop} (F : FxM p s m args meth c b_K_collect 4 "CoinKeeper" "collect" (some .int) D cy ad mi A) (hk_10 : Iw_mK_collect_10 p l e s m args below meth c D cy A ad mi MC MS Φ k_10) : Iw_mK_collect_10 p l e s m args below meth c D cy A ad mi MC MS Φ (xv_mK_collect_10 fu MC MS cy ad mi Φ k_10) := by
  obtain ⟨⟨hx, hb, hr, hml, hown, hts, hlocks, hK, hA, hSt, hnm, hex⟩, hT, hMi⟩ := id F
  intro κ σ M x0 x1 x2 x3 hf hkc hks H locs ls hP hD hS hl
  unfold xv_mK_collect_10 at hf
  refine lv_iload_n hx hb d_K_collect_10 rfl (lv_at hl 3 rfl) ?_
  refine lv_aload_n hx hb d_K_collect_11 rfl (lv_at hl 0 rfl) ?_
  obtain ⟨fs_, hm_, r1, hv_, hf⟩ := hf
  obtain ⟨ix_, hi_⟩ := m_ix hm_
  refine va_get (D := D) (ci := 0) (v := va_rf r1) (C := "CoinKeeper") (T := F_0) (N := 13) hx hb hts i_0 hown hK hP ix_ hi_ rfl 6 (by decide) (hts _ gw_506) (fun _ h9 => h9) hv_ d_K_collect_12 ?_
  clear hv_ hi_ hm_
  obtain ⟨q2, rfl, hf⟩ := hf
  refine W.eq (g2 := F0 m 15 ls [.ref q2, .int x3]) rfl ?_
  obtain ⟨fs_, hm_, r3, hv_, hf⟩ := hf
  obtain ⟨ix_, hi_⟩ := m_ix hm_
  refine va_get (D := D) (ci := 4) (v := va_rf r3) (C := "CoinKeeper$Layout") (T := F_4) (N := 15) hx hb hts i_4 hown hK hP ix_ hi_ rfl 3 (by decide) (hts _ gw_277) (fun _ h9 => h9) hv_ d_K_collect_15 ?_
  clear hv_ hi_ hm_
  obtain ⟨q4, rfl, hf⟩ := hf
  refine W.eq (g2 := F0 m 18 ls [.ref q4, .int x3]) rfl ?_
  refine lv_iload_n hx hb d_K_collect_18 rfl (lv_at hl 2 rfl) ?_
  refine lv_iconst (v := 1) hx hb d_K_collect_19 (by decide) ?_
  refine lv_iadd hx hb d_K_collect_20 ?_
  refine lv_topi (fun v5 ev => ?_)
  have hf := bnQ ev hf
  clear ev
  obtain ⟨n_, f_, hm_, hin_, hf⟩ := hf
  obtain ⟨ix_, hi_⟩ := m_ix hm_
  refine va_iald hx hb hK hP ix_ 1 hi_ rfl (inb_in hin_) d_K_collect_21 ?_
  obtain ⟨v6, ev⟩ : ∃ z, z = f_ v5.toNatClampNeg := ⟨_, rfl⟩
  first | rw [← ev] at hf ⊢ | rw [← ev]
  clear ev hi_ hm_ hin_
  refine lv_icmp_ge (tgt := 88) hx hb d_K_collect_22 (by decide) (fun cx => ?_) (fun cx => ?_)
  · have hf := ifpP cx hf
    refine lv_aload_n hx hb d_K_collect_88 rfl (lv_at hl 0 rfl) ?_
    obtain ⟨fs_, hm_, r7, hv_, hf⟩ := hf
    obtain ⟨ix_, hi_⟩ := m_ix hm_
    refine va_get (D := D) (ci := 0) (v := va_rf r7) (C := "CoinKeeper") (T := F_0) (N := 13) hx hb hts i_0 hown hK hP ix_ hi_ rfl 6 (by decide) (hts _ gw_506) (fun _ h9 => h9) hv_ d_K_collect_89 ?_
    clear hv_ hi_ hm_
    obtain ⟨q8, rfl, hf⟩ := hf
    refine W.eq (g2 := F0 m 92 ls [.ref q8]) rfl ?_
    obtain ⟨fs_, hm_, r9, hv_, hf⟩ := hf
    obtain ⟨ix_, hi_⟩ := m_ix hm_
    refine va_get (D := D) (ci := 4) (v := va_rf r9) (C := "CoinKeeper$Layout") (T := F_4) (N := 15) hx hb hts i_4 hown hK hP ix_ hi_ rfl 3 (by decide) (hts _ gw_277) (fun _ h9 => h9) hv_ d_K_collect_92 ?_
    clear hv_ hi_ hm_
    obtain ⟨q10, rfl, hf⟩ := hf
    refine W.eq (g2 := F0 m 95 ls [.ref q10]) rfl ?_
    refine lv_iload_n hx hb d_K_collect_95 rfl (lv_at hl 2 rfl) ?_
    obtain ⟨n_, f_, hm_, hin_, hf⟩ := hf
    obtain ⟨ix_, hi_⟩ := m_ix hm_
    refine va_iald hx hb hK hP ix_ 1 hi_ rfl (inb_in hin_) d_K_collect_96 ?_
    obtain ⟨v11, ev⟩ : ∃ z, z = f_ x2.toNatClampNeg := ⟨_, rfl⟩
    first | rw [← ev] at hf ⊢ | rw [← ev]
    clear ev hi_ hm_ hin_
    refine lv_istore_n (lv' := [(3, .int v11), (0, .ref x0), (1, .ref x1), (2, .int x2)]) hx hb d_K_collect_97 rfl hl (by decide) rfl (fun ls hl => ?_)
    exact ww_mK_collect_98 F fu _ _ _ _ _ _ _ hf hkc hks _ _ _ hP hD hS (lv_sub hl [1, 2, 3, 0] rfl)
  · have hf := ifnP cx hf
    refine lv_aload_n hx hb d_K_collect_25 rfl (lv_at hl 0 rfl) ?_
    obtain ⟨fs_, hm_, r12, hv_, hf⟩ := hf
    obtain ⟨ix_, hi_⟩ := m_ix hm_
    refine va_get (D := D) (ci := 0) (v := va_rf r12) (C := "CoinKeeper") (T := F_0) (N := 13) hx hb hts i_0 hown hK hP ix_ hi_ rfl 9 (by decide) (hts _ gw_509) (fun _ h9 => h9) hv_ d_K_collect_26 ?_
    clear hv_ hi_ hm_
    obtain ⟨q13, rfl, hf⟩ := hf
    refine W.eq (g2 := F0 m 29 ls [.ref q13]) rfl ?_
    refine lv_iload_n hx hb d_K_collect_29 rfl (lv_at hl 3 rfl) ?_
    refine lv_aload_n hx hb d_K_collect_30 rfl (lv_at hl 0 rfl) ?_
    obtain ⟨fs_, hm_, r14, hv_, hf⟩ := hf
    obtain ⟨ix_, hi_⟩ := m_ix hm_
    refine va_get (D := D) (ci := 0) (v := va_rf r14) (C := "CoinKeeper") (T := F_0) (N := 13) hx hb hts i_0 hown hK hP ix_ hi_ rfl 7 (by decide) (hts _ gw_507) (fun _ h9 => h9) hv_ d_K_collect_31 ?_
    clear hv_ hi_ hm_
    obtain ⟨q15, rfl, hf⟩ := hf
    refine W.eq (g2 := F0 m 34 ls [.ref q15, .int x3, .ref q13]) rfl ?_
    refine lv_aload_n hx hb d_K_collect_34 rfl (lv_at hl 1 rfl) ?_
    obtain ⟨fs_, hm_, r16, hv_, hf⟩ := hf
    obtain ⟨ix_, hi_⟩ := m_ix hm_
    refine va_get (D := D) (ci := 1) (v := va_rf r16) (C := "CoinKeeper$Block") (T := F_1) (N := 12) hx hb hts i_1 hown hK hP ix_ hi_ rfl 1 (by decide) (hts _ gw_393) (fun _ h9 => h9) hv_ d_K_collect_35 ?_
    clear hv_ hi_ hm_
    obtain ⟨q17, rfl, hf⟩ := hf
    refine W.eq (g2 := F0 m 38 ls [.ref q17, .ref q15, .int x3, .ref q13]) rfl ?_
    refine lv_aload_n hx hb d_K_collect_38 rfl (lv_at hl 0 rfl) ?_
    obtain ⟨fs_, hm_, r18, hv_, hf⟩ := hf
    obtain ⟨ix_, hi_⟩ := m_ix hm_
    refine va_get (D := D) (ci := 0) (v := va_rf r18) (C := "CoinKeeper") (T := F_0) (N := 13) hx hb hts i_0 hown hK hP ix_ hi_ rfl 6 (by decide) (hts _ gw_506) (fun _ h9 => h9) hv_ d_K_collect_39 ?_
    clear hv_ hi_ hm_
    obtain ⟨q19, rfl, hf⟩ := hf
    refine W.eq (g2 := F0 m 42 ls [.ref q19, .ref q17, .ref q15, .int x3, .ref q13]) rfl ?_
    obtain ⟨fs_, hm_, r20, hv_, hf⟩ := hf
    obtain ⟨ix_, hi_⟩ := m_ix hm_
    refine va_get (D := D) (ci := 4) (v := va_rf r20) (C := "CoinKeeper$Layout") (T := F_4) (N := 15) hx hb hts i_4 hown hK hP ix_ hi_ rfl 5 (by decide) (hts _ gw_283) (fun _ h9 => h9) hv_ d_K_collect_42 ?_
    clear hv_ hi_ hm_
    obtain ⟨q21, rfl, hf⟩ := hf
    refine W.eq (g2 := F0 m 45 ls [.ref q21, .ref q17, .ref q15, .int x3, .ref q13]) rfl ?_
    refine lv_iload_n hx hb d_K_collect_45 rfl (lv_at hl 3 rfl) ?_
    obtain ⟨n_, f_, hm_, hin_, hf⟩ := hf
    obtain ⟨ix_, hi_⟩ := m_ix hm_
    refine va_iald hx hb hK hP ix_ 1 hi_ rfl (inb_in hin_) d_K_collect_46 ?_
    obtain ⟨v22, ev⟩ : ∃ z, z = f_ x3.toNatClampNeg := ⟨_, rfl⟩
    first | rw [← ev] at hf ⊢ | rw [← ev]
    clear ev hi_ hm_ hin_
    refine lv_aload_n hx hb d_K_collect_47 rfl (lv_at hl 1 rfl) ?_
    obtain ⟨fs_, hm_, r23, hv_, hf⟩ := hf
    obtain ⟨ix_, hi_⟩ := m_ix hm_
    refine va_get (D := D) (ci := 1) (v := va_rf r23) (C := "CoinKeeper$Block") (T := F_1) (N := 12) hx hb hts i_1 hown hK hP ix_ hi_ rfl 1 (by decide) (hts _ gw_393) (fun _ h9 => h9) hv_ d_K_collect_48 ?_
    clear hv_ hi_ hm_
    obtain ⟨q24, rfl, hf⟩ := hf
    refine W.eq (g2 := F0 m 51 ls [.ref q24, .int v22, .ref q17, .ref q15, .int x3, .ref q13]) rfl ?_
    refine lv_aload_n hx hb d_K_collect_51 rfl (lv_at hl 0 rfl) ?_
    obtain ⟨fs_, hm_, r25, hv_, hf⟩ := hf
    obtain ⟨ix_, hi_⟩ := m_ix hm_
    refine va_get (D := D) (ci := 0) (v := va_rf r25) (C := "CoinKeeper") (T := F_0) (N := 13) hx hb hts i_0 hown hK hP ix_ hi_ rfl 6 (by decide) (hts _ gw_506) (fun _ h9 => h9) hv_ d_K_collect_52 ?_
    clear hv_ hi_ hm_
    obtain ⟨q26, rfl, hf⟩ := hf
    refine W.eq (g2 := F0 m 55 ls [.ref q26, .ref q24, .int v22, .ref q17, .ref q15, .int x3, .ref q13]) rfl ?_
    obtain ⟨fs_, hm_, r27, hv_, hf⟩ := hf
    obtain ⟨ix_, hi_⟩ := m_ix hm_
    refine va_get (D := D) (ci := 4) (v := va_rf r27) (C := "CoinKeeper$Layout") (T := F_4) (N := 15) hx hb hts i_4 hown hK hP ix_ hi_ rfl 5 (by decide) (hts _ gw_283) (fun _ h9 => h9) hv_ d_K_collect_55 ?_
    clear hv_ hi_ hm_
    obtain ⟨q28, rfl, hf⟩ := hf
    refine W.eq (g2 := F0 m 58 ls [.ref q28, .ref q24, .int v22, .ref q17, .ref q15, .int x3, .ref q13]) rfl ?_
    refine lv_iload_n hx hb d_K_collect_58 rfl (lv_at hl 3 rfl) ?_
    obtain ⟨n_, f_, hm_, hin_, hf⟩ := hf
    obtain ⟨ix_, hi_⟩ := m_ix hm_
    refine va_iald hx hb hK hP ix_ 1 hi_ rfl (inb_in hin_) d_K_collect_59 ?_
    obtain ⟨v29, ev⟩ : ∃ z, z = f_ x3.toNatClampNeg := ⟨_, rfl⟩
    first | rw [← ev] at hf ⊢ | rw [← ev]
    clear ev hi_ hm_ hin_
    refine lv_bipush (v := 32) hx hb d_K_collect_60 (by decide) ?_
    refine lv_iadd hx hb d_K_collect_62 ?_
    refine lv_topi (fun v30 ev => ?_)
    have hf := bnQ ev hf
    clear ev
    obtain ⟨c31, c32, hal_, hnd_, v33, hc, hf⟩ := hf
    refine m_li (va_runS (As := [.ref q24, .int v30]) (rest := [.int v22, .ref q17, .ref q15, .int x3, .ref q13]) ⟨hx, hb, hml, hown, hts⟩ (c_K_word l D cy ad fu q24 c31 c32 v30 _ hc H.size) ⟨q_cB hts gw_383 gw_1 gw_747 hdq_16 ⟨Nat.le_of_ble_eq_true rfl, Nat.le_of_ble_eq_true rfl⟩, hts _ gw_382⟩ (q_pre (m_subP hP hal_) (m_subD hD hal_ hnd_) hK hSt hS (m_lF hD hS hA hal_) _) rfl rfl hl.1 rfl (lv_room (Nat.le_of_ble_eq_true rfl)) d_K_collect_63 ⟨hkc, hks⟩) hP hD hS hA hal_ rfl (fun H locs hP hD hS => ?_)
    refine W.widen (k := κ) (n := σ) (Nat.le_refl _) (Nat.le_refl _) ?_
    obtain ⟨M34, eM_, hf⟩ := bnP hf
    have hP : va_P D classes (mw M34) H := by rw [eM_]; exact hP
    have hD : va_D A (mw M34) := by rw [eM_]; exact hD
    clear eM_ hal_ hnd_ hc
    obtain ⟨fs_, hm_, hf⟩ := hf
    obtain ⟨ix_, hi_⟩ := m_ix hm_
    obtain ⟨mc35, ms36, ⟨hc_, hd_⟩, hf⟩ := hf
    refine m_aq (va_runV (C := "CoinKeeper$Ledger") (As := [.ref q17, .int v22, .int v33]) (rest := [.int x3, .ref q13]) ⟨hx, hb, hml, hown, hts⟩ (cw_mLe_find l D cy ad mi fu mc35 ms36 q15 q17 v22 v33 M34 _ hf H.size) ⟨q_cB hts gw_934 gw_9 gw_931 hdq_22 ⟨Nat.le_of_ble_eq_true rfl, Nat.le_of_ble_eq_true rfl⟩, hts _ gw_932, hts _ gw_933⟩ (q_preVM (q_preM hP hD hK hSt hT hMi hS (m_free hD hS hA) _) (va_recv hK hP (ci := 5) (q0 := ix_) rfl hi_)) rfl rfl hl.1 rfl (lv_room (Nat.le_of_ble_eq_true rfl)) d_K_collect_66 ⟨hc_, hd_⟩) hD hS hA (fun v38 M37 H locs hf hP hD hS => ?_)
    have hkc : κ + mc35 ≤ MC := hc_
    have hks : σ + ms36 ≤ MS := hd_
    clear hc_ hd_
    have hq_ := ospp hf
    clear hf
    rcases hq_ with ⟨rfl, hf⟩ | ⟨q39, rfl, hf⟩
    · refine W.eq (g2 := F0 m 69 ls [.null, .int x3, .ref q13]) rfl ?_
      obtain ⟨n_, f_, hm_, hin_, hf⟩ := hf
      obtain ⟨ix_, hi_⟩ := m_ix hm_
      have hE_ := m_set (y := .inl (cy 6, n_, .inr (.inr (.inr (.inr (va_up f_ x3.toNatClampNeg Option.none)))))) hD hi_
      refine va_astqN hx hb hK hP hD hS ix_ 6 hi_ rfl (inb_in hin_) d_K_collect_69 (fun H locs hP hD hS => ?_)
      obtain ⟨M40, eM_⟩ : ∃ z, z = mu M37 q13 (.inl (cy 6, n_, .inr (.inr (.inr (.inr (va_up f_ x3.toNatClampNeg Option.none)))))) := ⟨_, rfl⟩
      rw [← eM_] at hf hE_
      rw [hE_] at hP hD
      clear hE_ eM_ hi_ hm_
      refine lv_aload_n hx hb d_K_collect_70 rfl (lv_at hl 0 rfl) ?_
      obtain ⟨fs_, hm_, r41, hv_, hf⟩ := hf
      obtain ⟨ix_, hi_⟩ := m_ix hm_
      refine va_get (D := D) (ci := 0) (v := va_rf r41) (C := "CoinKeeper") (T := F_0) (N := 13) hx hb hts i_0 hown hK hP ix_ hi_ rfl 9 (by decide) (hts _ gw_509) (fun _ h9 => h9) hv_ d_K_collect_71 ?_
      clear hv_ hi_ hm_
      obtain ⟨q42, rfl, hf⟩ := hf
      refine W.eq (g2 := F0 m 74 ls [.ref q42]) rfl ?_
      refine lv_iload_n hx hb d_K_collect_74 rfl (lv_at hl 3 rfl) ?_
      obtain ⟨n_, f_, hm_, hin_, hf⟩ := hf
      obtain ⟨ix_, hi_⟩ := m_ix hm_
      refine va_aldq hx hb hK hP ix_ 6 hi_ rfl (inb_in hin_) d_K_collect_75 ?_
      obtain ⟨r43, ev⟩ : ∃ z, z = f_ x3.toNatClampNeg := ⟨_, rfl⟩
      first | rw [← ev] at hf ⊢ | rw [← ev]
      clear ev hi_ hm_ hin_
      have hq_ := ospp hf
      clear hf
      rcases hq_ with ⟨rfl, hf⟩ | ⟨q44, rfl, hf⟩
      · refine W.eq (g2 := F0 m 76 ls [.null]) rfl ?_
        refine lv_ifnonnullN hx hb d_K_collect_76 ?_
        refine lv_bipush (v := 10) hx hb d_K_collect_79 (by decide) ?_
        refine W.widen (k := MC) (n := MS) hkc hks ?_
        exact m_ri hf hx hb hr hlocks hK hP hD hS d_K_collect_81
      · refine W.eq (g2 := F0 m 76 ls [.ref q44]) rfl ?_
        refine lv_ifnonnull (tgt := 82) hx hb d_K_collect_76 (by decide) ?_
        obtain ⟨v45, ev, hf⟩ := bnP hf
        refine lv_iinc (v := v45) (lv' := [(3, .int v45), (0, .ref x0), (1, .ref x1), (2, .int x2)]) hx hb d_K_collect_82 hl (k := 3) rfl (by rw [ev]; rfl) (by decide) rfl (fun ls hl => ?_)
        clear ev
        refine lv_goto (tgt := 10) hx hb d_K_collect_85 (by decide) ?_
        exact hk_10 _ _ _ _ _ _ _ hf hkc hks _ _ _ hP hD hS (lv_sub hl [1, 2, 3, 0] rfl)
    · refine W.eq (g2 := F0 m 69 ls [.ref q39, .int x3, .ref q13]) rfl ?_
      obtain ⟨gs_, hq_, hf⟩ := hf
      obtain ⟨jx_, hj_⟩ := m_ix hq_
      obtain ⟨n_, f_, hm_, hin_, hf⟩ := hf
      obtain ⟨ix_, hi_⟩ := m_ix hm_
      have hE_ := m_set (y := .inl (cy 6, n_, .inr (.inr (.inr (.inr (va_up f_ x3.toNatClampNeg (some q39))))))) hD hi_
      refine va_astq hx hb hK hP hD hS ix_ 6 jx_ 2 hi_ rfl hj_ rfl (inb_in hin_) d_K_collect_69 (fun H locs hP hD hS => ?_)
      obtain ⟨M46, eM_⟩ : ∃ z, z = mu M37 q13 (.inl (cy 6, n_, .inr (.inr (.inr (.inr (va_up f_ x3.toNatClampNeg (some q39))))))) := ⟨_, rfl⟩
      rw [← eM_] at hf hE_
      rw [hE_] at hP hD
      clear hE_ eM_ hi_ hm_
      clear hj_ hq_
      refine lv_aload_n hx hb d_K_collect_70 rfl (lv_at hl 0 rfl) ?_
      obtain ⟨fs_, hm_, r47, hv_, hf⟩ := hf
      obtain ⟨ix_, hi_⟩ := m_ix hm_
      refine va_get (D := D) (ci := 0) (v := va_rf r47) (C := "CoinKeeper") (T := F_0) (N := 13) hx hb hts i_0 hown hK hP ix_ hi_ rfl 9 (by decide) (hts _ gw_509) (fun _ h9 => h9) hv_ d_K_collect_71 ?_
      clear hv_ hi_ hm_
      obtain ⟨q48, rfl, hf⟩ := hf
      refine W.eq (g2 := F0 m 74 ls [.ref q48]) rfl ?_
      refine lv_iload_n hx hb d_K_collect_74 rfl (lv_at hl 3 rfl) ?_
      obtain ⟨n_, f_, hm_, hin_, hf⟩ := hf
      obtain ⟨ix_, hi_⟩ := m_ix hm_
      refine va_aldq hx hb hK hP ix_ 6 hi_ rfl (inb_in hin_) d_K_collect_75 ?_
      obtain ⟨r49, ev⟩ : ∃ z, z = f_ x3.toNatClampNeg := ⟨_, rfl⟩
      first | rw [← ev] at hf ⊢ | rw [← ev]
      clear ev hi_ hm_ hin_
      have hq_ := ospp hf
      clear hf
      rcases hq_ with ⟨rfl, hf⟩ | ⟨q50, rfl, hf⟩
      · refine W.eq (g2 := F0 m 76 ls [.null]) rfl ?_
        refine lv_ifnonnullN hx hb d_K_collect_76 ?_
        refine lv_bipush (v := 10) hx hb d_K_collect_79 (by decide) ?_
        refine W.widen (k := MC) (n := MS) hkc hks ?_
        exact m_ri hf hx hb hr hlocks hK hP hD hS d_K_collect_81
      · refine W.eq (g2 := F0 m 76 ls [.ref q50]) rfl ?_
        refine lv_ifnonnull (tgt := 82) hx hb d_K_collect_76 (by decide) ?_
        obtain ⟨v51, ev, hf⟩ := bnP hf
        refine lv_iinc (v := v51) (lv' := [(3, .int v51), (0, .ref x0), (1, .ref x1), (2, .int x2)]) hx hb d_K_collect_82 hl (k := 3) rfl (by rw [ev]; rfl) (by decide) rfl (fun ls hl => ?_)
        clear ev
        refine lv_goto (tgt := 10) hx hb d_K_collect_85 (by decide) ?_
        exact hk_10 _ _ _ _ _ _ _ hf hkc hks _ _ _ hP hD hS (lv_sub hl [1, 2, 3, 0] rfl)
theorem ww_mK_collect_10 {p : Program} {l : Launch} {e : Env} {s : State} {m : MethodId} {args : Array Value} {below : List Frame} {meth : Method} {c : Code} {D : va_G} {cy : Nat → ClassId} {A : Nat → Prop} {ad : Nat → Nat} {mi MC MS : Nat} {Φ : Int32 → Mm → Prop} {fu : Nat} (F : FxM p s m args meth c b_K_collect 4 "CoinKeeper" "collect" (some .int) D cy ad mi A) : ∀ n : Nat, Iw_mK_collect_10 p l e s m args below meth c D cy A ad mi MC MS Φ (xw_mK_collect_10 fu MC MS cy ad mi Φ n)
  | 0 => fun _ _ _ _ _ _ _ hf => False.elim hf
  | n + 1 => wv_mK_collect_10 F (ww_mK_collect_10 F n)
set_option maxHeartbeats 8000000 in
set_option maxRecDepth 100000 in
theorem wew_mK_collect {p : Program} {l : Launch} {e : Env} {s : State} {m : MethodId} {args : Array Value} {below : List Frame} {meth : Method} {c : Code} {D : va_G} {cy : Nat → ClassId} {A : Nat → Prop} {ad : Nat → Nat} {mi MC MS : Nat} {Φ : Int32 → Mm → Prop} {fu : Nat} (F : FxM p s m args meth c b_K_collect 4 "CoinKeeper" "collect" (some .int) D cy ad mi A) : Iw_mK_collect_e p l e s m args below meth c D cy A ad mi MC MS Φ (xw_mK_collect fu MC MS cy ad mi Φ) := by
  obtain ⟨⟨hx, hb, hr, hml, hown, hts, hlocks, hK, hA, hSt, hnm, hex⟩, hT, hMi⟩ := id F
  intro κ σ M a0 a1 a2 hf hkc hks H locs ls hP hD hS hl
  unfold xw_mK_collect at hf
  refine lv_aload_n hx hb d_K_collect_0 rfl (lv_at hl 0 rfl) ?_
  obtain ⟨fs_, hm_, r1, hv_, hf⟩ := hf
  obtain ⟨ix_, hi_⟩ := m_ix hm_
  refine va_get (D := D) (ci := 0) (v := va_rf r1) (C := "CoinKeeper") (T := F_0) (N := 13) hx hb hts i_0 hown hK hP ix_ hi_ rfl 6 (by decide) (hts _ gw_506) (fun _ h9 => h9) hv_ d_K_collect_1 ?_
  clear hv_ hi_ hm_
  obtain ⟨q2, rfl, hf⟩ := hf
  refine W.eq (g2 := F0 m 4 ls [.ref q2]) rfl ?_
  obtain ⟨fs_, hm_, r3, hv_, hf⟩ := hf
  obtain ⟨ix_, hi_⟩ := m_ix hm_
  refine va_get (D := D) (ci := 4) (v := va_rf r3) (C := "CoinKeeper$Layout") (T := F_4) (N := 15) hx hb hts i_4 hown hK hP ix_ hi_ rfl 3 (by decide) (hts _ gw_277) (fun _ h9 => h9) hv_ d_K_collect_4 ?_
  clear hv_ hi_ hm_
  obtain ⟨q4, rfl, hf⟩ := hf
  refine W.eq (g2 := F0 m 7 ls [.ref q4]) rfl ?_
  refine lv_iload_n hx hb d_K_collect_7 rfl (lv_at hl 2 rfl) ?_
  obtain ⟨n_, f_, hm_, hin_, hf⟩ := hf
  obtain ⟨ix_, hi_⟩ := m_ix hm_
  refine va_iald hx hb hK hP ix_ 1 hi_ rfl (inb_in hin_) d_K_collect_8 ?_
  obtain ⟨v5, ev⟩ : ∃ z, z = f_ a2.toNatClampNeg := ⟨_, rfl⟩
  first | rw [← ev] at hf ⊢ | rw [← ev]
  clear ev hi_ hm_ hin_
  refine lv_istore_n (lv' := [(3, .int v5), (0, .ref a0), (1, .ref a1), (2, .int a2)]) hx hb d_K_collect_9 rfl hl (by decide) rfl (fun ls hl => ?_)
  exact ww_mK_collect_10 F fu _ _ _ _ _ _ _ hf hkc hks _ _ _ hP hD hS (lv_sub hl [1, 2, 3, 0] rfl)
theorem cw_mK_collect (l : Launch) (D : va_G) (cy : Nat → ClassId) (ad : Nat → Nat) (mi fu MC MS : Nat) (a0 : Nat) (a1 : Nat) (a2 : Int32) (M : Mm) (Φ : Int32 → Mm → Prop) (hf : xw_mK_collect fu MC MS cy ad mi Φ 0 0 M a0 a1 a2) (sz : Nat) : Met l ({ cls := "CoinKeeper", name := "collect", desc := "(LCoinKeeper$Block;I)I" } : Jvm.MethodName) (.code ({ cls := "CoinKeeper", name := "collect", desc := "(LCoinKeeper$Block;I)I" } : Jvm.MethodName) b_K_collect 4 (some .int) :: gw) (rmw_mK_collect MC MS) (va_Pc [.ref a0, .ref a1, .int a2] (PrM D cy ad mi (mw M) sz)) (va_Qi Φ (fun u t => Po D cy (va_A (mw M) sz) (mw u) t) (va_A (mw M) sz)) MC MS (va_A (mw M) sz) :=
  q_metM (Qc := fun A => va_Qi Φ (fun u t => Po D cy A (mw u) t) A) (by decide) rfl rfl (Nat.le_of_ble_eq_true rfl) (fun p e s m below meth c ls F hP hD hS hl => wew_mK_collect (fu := fu) F 0 0 M a0 a1 a2 hf (Nat.zero_le _) (Nat.zero_le _) _ _ _ hP hD hS hl) sz
abbrev b_K_connect : ByteArray := prog_1_method_16_code
theorem d_K_connect_0 : decode b_K_connect 0 = .ok (.aload_n 0, 1) := by decide +kernel
theorem d_K_connect_1 : decode b_K_connect 1 = .ok (.getfield 42, 3) := by decide +kernel
theorem d_K_connect_4 : decode b_K_connect 4 = .ok (.aload_n 1, 1) := by decide +kernel
theorem d_K_connect_5 : decode b_K_connect 5 = .ok (.getfield 268, 3) := by decide +kernel
theorem d_K_connect_8 : decode b_K_connect 8 = .ok (.aload_n 1, 1) := by decide +kernel
theorem d_K_connect_9 : decode b_K_connect 9 = .ok (.getfield 268, 3) := by decide +kernel
theorem d_K_connect_12 : decode b_K_connect 12 = .ok (.arraylength, 1) := by decide +kernel
theorem d_K_connect_13 : decode b_K_connect 13 = .ok (.invokevirtual 205, 3) := by decide +kernel
theorem d_K_connect_16 : decode b_K_connect 16 = .ok (.pop, 1) := by decide +kernel
theorem d_K_connect_17 : decode b_K_connect 17 = .ok (.lconst 0, 1) := by decide +kernel
theorem d_K_connect_18 : decode b_K_connect 18 = .ok (.lstore_n 2, 1) := by decide +kernel
theorem d_K_connect_19 : decode b_K_connect 19 = .ok (.aload_n 0, 1) := by decide +kernel
theorem d_K_connect_20 : decode b_K_connect 20 = .ok (.iconst 0, 1) := by decide +kernel
theorem d_K_connect_21 : decode b_K_connect 21 = .ok (.putfield 271, 3) := by decide +kernel
theorem d_K_connect_24 : decode b_K_connect 24 = .ok (.iconst 0, 1) := by decide +kernel
theorem d_K_connect_25 : decode b_K_connect 25 = .ok (.istore 4, 2) := by decide +kernel
theorem d_K_connect_27 : decode b_K_connect 27 = .ok (.iload 4, 2) := by decide +kernel
theorem d_K_connect_29 : decode b_K_connect 29 = .ok (.aload_n 0, 1) := by decide +kernel
theorem d_K_connect_30 : decode b_K_connect 30 = .ok (.getfield 42, 3) := by decide +kernel
theorem d_K_connect_33 : decode b_K_connect 33 = .ok (.getfield 259, 3) := by decide +kernel
theorem d_K_connect_36 : decode b_K_connect 36 = .ok (.if_icmp .ge 81, 3) := by decide +kernel
theorem d_K_connect_39 : decode b_K_connect 39 = .ok (.iload 4, 2) := by decide +kernel
theorem d_K_connect_41 : decode b_K_connect 41 = .ok (.ifCond .le 53, 3) := by decide +kernel
theorem d_K_connect_44 : decode b_K_connect 44 = .ok (.aload_n 0, 1) := by decide +kernel
theorem d_K_connect_45 : decode b_K_connect 45 = .ok (.aload_n 1, 1) := by decide +kernel
theorem d_K_connect_46 : decode b_K_connect 46 = .ok (.iload 4, 2) := by decide +kernel
theorem d_K_connect_48 : decode b_K_connect 48 = .ok (.invokevirtual 274, 3) := by decide +kernel
theorem d_K_connect_51 : decode b_K_connect 51 = .ok (.istore 5, 2) := by decide +kernel
theorem d_K_connect_53 : decode b_K_connect 53 = .ok (.iload 5, 2) := by decide +kernel
theorem d_K_connect_55 : decode b_K_connect 55 = .ok (.ifCond .eq 6, 3) := by decide +kernel
theorem d_K_connect_58 : decode b_K_connect 58 = .ok (.iload 5, 2) := by decide +kernel
theorem d_K_connect_60 : decode b_K_connect 60 = .ok (.ireturn, 1) := by decide +kernel
theorem d_K_connect_61 : decode b_K_connect 61 = .ok (.aload_n 0, 1) := by decide +kernel
theorem d_K_connect_62 : decode b_K_connect 62 = .ok (.iload 4, 2) := by decide +kernel
theorem d_K_connect_64 : decode b_K_connect 64 = .ok (.invokevirtual 278, 3) := by decide +kernel
theorem d_K_connect_67 : decode b_K_connect 67 = .ok (.aload_n 0, 1) := by decide +kernel
theorem d_K_connect_68 : decode b_K_connect 68 = .ok (.getfield 42, 3) := by decide +kernel
theorem d_K_connect_71 : decode b_K_connect 71 = .ok (.iload 4, 2) := by decide +kernel
theorem d_K_connect_73 : decode b_K_connect 73 = .ok (.invokevirtual 282, 3) := by decide +kernel
theorem d_K_connect_76 : decode b_K_connect 76 = .ok (.lsub, 1) := by decide +kernel
theorem d_K_connect_77 : decode b_K_connect 77 = .ok (.lstore 6, 2) := by decide +kernel
theorem d_K_connect_79 : decode b_K_connect 79 = .ok (.lload 6, 2) := by decide +kernel
theorem d_K_connect_81 : decode b_K_connect 81 = .ok (.lconst 0, 1) := by decide +kernel
theorem d_K_connect_82 : decode b_K_connect 82 = .ok (.lcmp, 1) := by decide +kernel
theorem d_K_connect_83 : decode b_K_connect 83 = .ok (.ifCond .ge 6, 3) := by decide +kernel
theorem d_K_connect_86 : decode b_K_connect 86 = .ok (.bipush 12, 2) := by decide +kernel
theorem d_K_connect_88 : decode b_K_connect 88 = .ok (.ireturn, 1) := by decide +kernel
theorem d_K_connect_89 : decode b_K_connect 89 = .ok (.lload_n 2, 1) := by decide +kernel
theorem d_K_connect_90 : decode b_K_connect 90 = .ok (.lload 6, 2) := by decide +kernel
theorem d_K_connect_92 : decode b_K_connect 92 = .ok (.ladd, 1) := by decide +kernel
theorem d_K_connect_93 : decode b_K_connect 93 = .ok (.lstore_n 2, 1) := by decide +kernel
theorem d_K_connect_94 : decode b_K_connect 94 = .ok (.aload_n 0, 1) := by decide +kernel
theorem d_K_connect_95 : decode b_K_connect 95 = .ok (.aload_n 1, 1) := by decide +kernel
theorem d_K_connect_96 : decode b_K_connect 96 = .ok (.iload 4, 2) := by decide +kernel
theorem d_K_connect_98 : decode b_K_connect 98 = .ok (.invokevirtual 285, 3) := by decide +kernel
theorem d_K_connect_101 : decode b_K_connect 101 = .ok (.aload_n 0, 1) := by decide +kernel
theorem d_K_connect_102 : decode b_K_connect 102 = .ok (.dup, 1) := by decide +kernel
theorem d_K_connect_103 : decode b_K_connect 103 = .ok (.getfield 271, 3) := by decide +kernel
theorem d_K_connect_106 : decode b_K_connect 106 = .ok (.iconst 1, 1) := by decide +kernel
theorem d_K_connect_107 : decode b_K_connect 107 = .ok (.iadd, 1) := by decide +kernel
theorem d_K_connect_108 : decode b_K_connect 108 = .ok (.putfield 271, 3) := by decide +kernel
theorem d_K_connect_111 : decode b_K_connect 111 = .ok (.iinc 4 1, 3) := by decide +kernel
theorem d_K_connect_114 : decode b_K_connect 114 = .ok (.goto (-87), 3) := by decide +kernel
theorem d_K_connect_117 : decode b_K_connect 117 = .ok (.aload_n 1, 1) := by decide +kernel
theorem d_K_connect_118 : decode b_K_connect 118 = .ok (.aload_n 0, 1) := by decide +kernel
theorem d_K_connect_119 : decode b_K_connect 119 = .ok (.getfield 49, 3) := by decide +kernel
theorem d_K_connect_122 : decode b_K_connect 122 = .ok (.invokevirtual 289, 3) := by decide +kernel
theorem d_K_connect_125 : decode b_K_connect 125 = .ok (.putfield 117, 3) := by decide +kernel
theorem d_K_connect_128 : decode b_K_connect 128 = .ok (.aload_n 0, 1) := by decide +kernel
theorem d_K_connect_129 : decode b_K_connect 129 = .ok (.getfield 42, 3) := by decide +kernel
theorem d_K_connect_132 : decode b_K_connect 132 = .ok (.iconst 0, 1) := by decide +kernel
theorem d_K_connect_133 : decode b_K_connect 133 = .ok (.invokevirtual 282, 3) := by decide +kernel
theorem d_K_connect_136 : decode b_K_connect 136 = .ok (.aload_n 1, 1) := by decide +kernel
theorem d_K_connect_137 : decode b_K_connect 137 = .ok (.invokevirtual 291, 3) := by decide +kernel
theorem d_K_connect_140 : decode b_K_connect 140 = .ok (.lload_n 2, 1) := by decide +kernel
theorem d_K_connect_141 : decode b_K_connect 141 = .ok (.ladd, 1) := by decide +kernel
theorem d_K_connect_142 : decode b_K_connect 142 = .ok (.lcmp, 1) := by decide +kernel
theorem d_K_connect_143 : decode b_K_connect 143 = .ok (.ifCond .le 8, 3) := by decide +kernel
theorem d_K_connect_146 : decode b_K_connect 146 = .ok (.bipush 14, 2) := by decide +kernel
theorem d_K_connect_148 : decode b_K_connect 148 = .ok (.goto 4, 3) := by decide +kernel
theorem d_K_connect_151 : decode b_K_connect 151 = .ok (.iconst 0, 1) := by decide +kernel
theorem d_K_connect_152 : decode b_K_connect 152 = .ok (.ireturn, 1) := by decide +kernel
abbrev rmw_mK_connect (MC MS : Nat) : Room := { frames := 11, cells := MC, slots := MS, locals := 249 }
def Iw_mK_connect_94 (p : Program) (l : Launch) (e : Env) (s : State) (m : MethodId) (args : Array Value) (below : List Frame) (meth : Method) (c : Code) (D : va_G) (cy : Nat → ClassId) (A : Nat → Prop) (ad : Nat → Nat) (mi MC MS : Nat) (Φ : Int32 → Mm → Prop) (k : Nat → Nat → Mm → Nat → Nat → Int64 → Int32 → Prop) : Prop :=
  ∀ (κ σ : Nat) (M : Mm) (x0 : Nat) (x1 : Nat) (x2 : Int64) (x4 : Int32), k κ σ M x0 x1 x2 x4 → κ ≤ MC → σ ≤ MS → ∀ (H : Heap) (locs : List Loc) (ls : Array Slot), va_P D classes (mw M) H → va_D A (mw M) → va_S A s.heap H locs → lv_has ls 8 [(0, .ref x0), (1, .ref x1), (2, .long x2), (4, .int x4)] → W p l e (rmw_mK_connect MC MS) s m args below meth c H locs κ σ (MQ below (va_Qi Φ (fun u t => Po D cy A (mw u) t) A) args s MC MS A) (F0 m 94 ls [])
def Iw_mK_connect_27 (p : Program) (l : Launch) (e : Env) (s : State) (m : MethodId) (args : Array Value) (below : List Frame) (meth : Method) (c : Code) (D : va_G) (cy : Nat → ClassId) (A : Nat → Prop) (ad : Nat → Nat) (mi MC MS : Nat) (Φ : Int32 → Mm → Prop) (k : Nat → Nat → Mm → Nat → Nat → Int64 → Int32 → Prop) : Prop :=
  ∀ (κ σ : Nat) (M : Mm) (x0 : Nat) (x1 : Nat) (x2 : Int64) (x4 : Int32), k κ σ M x0 x1 x2 x4 → κ ≤ MC → σ ≤ MS → ∀ (H : Heap) (locs : List Loc) (ls : Array Slot), va_P D classes (mw M) H → va_D A (mw M) → va_S A s.heap H locs → lv_has ls 8 [(0, .ref x0), (1, .ref x1), (2, .long x2), (4, .int x4)] → W p l e (rmw_mK_connect MC MS) s m args below meth c H locs κ σ (MQ below (va_Qi Φ (fun u t => Po D cy A (mw u) t) A) args s MC MS A) (F0 m 27 ls [])
def Iw_mK_connect_e (p : Program) (l : Launch) (e : Env) (s : State) (m : MethodId) (args : Array Value) (below : List Frame) (meth : Method) (c : Code) (D : va_G) (cy : Nat → ClassId) (A : Nat → Prop) (ad : Nat → Nat) (mi MC MS : Nat) (Φ : Int32 → Mm → Prop) (k : Nat → Nat → Mm → Nat → Nat → Prop) : Prop :=
  ∀ (κ σ : Nat) (M : Mm) (a0 : Nat) (a1 : Nat), k κ σ M a0 a1 → κ ≤ MC → σ ≤ MS → ∀ (H : Heap) (locs : List Loc) (ls : Array Slot), va_P D classes (mw M) H → va_D A (mw M) → va_S A s.heap H locs → lv_has ls 8 [(0, .ref a0), (1, .ref a1)] → W p l e (rmw_mK_connect MC MS) s m args below meth c H locs κ σ (MQ below (va_Qi Φ (fun u t => Po D cy A (mw u) t) A) args s MC MS A) (F0 m 0 ls [])
theorem hdq_31 : ({ cls := "CoinKeeper", name := "exchange", desc := "(LCoinKeeper$Block;I)V" } : Jvm.MethodName).cls ≠ "java/lang/invoke/MethodHandle" ∧ ({ cls := "CoinKeeper", name := "exchange", desc := "(LCoinKeeper$Block;I)V" } : Jvm.MethodName).cls ≠ "java/lang/invoke/VarHandle" ∧ (parseMethodDescriptor ({ cls := "CoinKeeper", name := "exchange", desc := "(LCoinKeeper$Block;I)V" } : Jvm.MethodName).desc).map (fun d => d.parameters.length) = some 2 := by decide +kernel
set_option maxHeartbeats 8000000 in
set_option maxRecDepth 100000 in
theorem wv_mK_connect_94 {p : Program} {l : Launch} {e : Env} {s : State} {m : MethodId} {args : Array Value} {below : List Frame} {meth : Method} {c : Code} {D : va_G} {cy : Nat → ClassId} {A : Nat → Prop} {ad : Nat → Nat} {mi MC MS : Nat} {Φ : Int32 → Mm → Prop} {fu : Nat} {k_27 : Nat → Nat → Mm → Nat → Nat → Int64 → Int32 → Prop} (F : FxM p s m args meth c b_K_connect 8 "CoinKeeper" "connect" (some .int) D cy ad mi A) (hk_27 : Iw_mK_connect_27 p l e s m args below meth c D cy A ad mi MC MS Φ k_27) : Iw_mK_connect_94 p l e s m args below meth c D cy A ad mi MC MS Φ (xv_mK_connect_94 fu MC MS cy ad mi Φ k_27) := by
  obtain ⟨⟨hx, hb, hr, hml, hown, hts, hlocks, hK, hA, hSt, hnm, hex⟩, hT, hMi⟩ := id F
  intro κ σ M x0 x1 x2 x4 hf hkc hks H locs ls hP hD hS hl
  unfold xv_mK_connect_94 at hf
  refine lv_aload_n hx hb d_K_connect_94 rfl (lv_at hl 0 rfl) ?_
  refine lv_aload_n hx hb d_K_connect_95 rfl (lv_at hl 1 rfl) ?_
  refine lv_iload hx hb d_K_connect_96 (lv_at hl 3 rfl) ?_
  obtain ⟨fs_, hm_, hf⟩ := hf
  obtain ⟨ix_, hi_⟩ := m_ix hm_
  obtain ⟨mc1, ms2, ⟨hc_, hd_⟩, hf⟩ := hf
  refine m_av (va_runV (C := "CoinKeeper") (As := [.ref x1, .int x4]) (rest := []) ⟨hx, hb, hml, hown, hts⟩ (cw_mK_exchange l D cy ad mi fu mc1 ms2 x0 x1 x4 M _ hf H.size) ⟨q_cB hts gw_948 gw_1 gw_945 hdq_31 ⟨Nat.le_of_ble_eq_true rfl, Nat.le_of_ble_eq_true rfl⟩, hts _ gw_947, hts _ gs_26⟩ (q_preVM (q_preM hP hD hK hSt hT hMi hS (m_free hD hS hA) _) (va_recv hK hP (ci := 0) (q0 := ix_) rfl hi_)) rfl rfl hl.1 rfl (lv_room (Nat.le_of_ble_eq_true rfl)) d_K_connect_98 ⟨hc_, hd_⟩) hD hS hA (fun M3 H locs hf hP hD hS => ?_)
  have hkc : κ + mc1 ≤ MC := hc_
  have hks : σ + ms2 ≤ MS := hd_
  clear hc_ hd_
  refine lv_aload_n hx hb d_K_connect_101 rfl (lv_at hl 0 rfl) ?_
  refine lv_dup hx hb d_K_connect_102 rfl ?_
  obtain ⟨fs_, hm_, v4, hv_, hf⟩ := hf
  obtain ⟨ix_, hi_⟩ := m_ix hm_
  refine va_get (D := D) (ci := 0) (v := .int v4) (C := "CoinKeeper") (T := F_0) (N := 13) hx hb hts i_0 hown hK hP ix_ hi_ rfl 12 (by decide) (hts _ gw_512) (fun _ h9 => h9) hv_ d_K_connect_103 ?_
  clear hv_ hi_ hm_
  refine lv_iconst (v := 1) hx hb d_K_connect_106 (by decide) ?_
  refine lv_iadd hx hb d_K_connect_107 ?_
  refine lv_topi (fun v5 ev => ?_)
  have hf := bnQ ev hf
  clear ev
  obtain ⟨fs_, hm_, hlen_, hf⟩ := hf
  obtain ⟨ix_, hi_⟩ := m_ix hm_
  have hE_ := m_set (y := .inr (0, fs_.set 12 (.int v5))) hD hi_
  refine va_put (D := D) (ci := 0) (v := .int v5) (ty := .int) (C := "CoinKeeper") (T := F_0) (N := 13) hx hb hts i_0 t_0 t_0_ok n_0 hown hK hP hD hS ix_ hi_ rfl 12 (by decide) (hts _ gw_512) (fun _ h9 => h9) rfl (by decide +kernel) rfl rfl hlen_ d_K_connect_108 (fun H locs hP hD hS => ?_)
  obtain ⟨M6, eM_⟩ : ∃ z, z = mu M3 x0 (.inr (0, fs_.set 12 (.int v5))) := ⟨_, rfl⟩
  rw [← eM_] at hf hE_
  rw [hE_] at hP hD
  clear hE_ eM_ hi_ hm_
  obtain ⟨v7, ev, hf⟩ := bnP hf
  refine lv_iinc (v := v7) (lv' := [(4, .int v7), (0, .ref x0), (1, .ref x1), (2, .long x2)]) hx hb d_K_connect_111 hl (k := 3) rfl (by rw [ev]; rfl) (by decide) rfl (fun ls hl => ?_)
  clear ev
  refine lv_goto (tgt := 27) hx hb d_K_connect_114 (by decide) ?_
  exact hk_27 _ _ _ _ _ _ _ hf hkc hks _ _ _ hP hD hS (lv_sub hl [1, 2, 3, 0] rfl)
theorem hdq_32 : ({ cls := "CoinKeeper$Ledger", name := "mark", desc := "()I" } : Jvm.MethodName).cls ≠ "java/lang/invoke/MethodHandle" ∧ ({ cls := "CoinKeeper$Ledger", name := "mark", desc := "()I" } : Jvm.MethodName).cls ≠ "java/lang/invoke/VarHandle" ∧ (parseMethodDescriptor ({ cls := "CoinKeeper$Ledger", name := "mark", desc := "()I" } : Jvm.MethodName).desc).map (fun d => d.parameters.length) = some 0 := by decide +kernel
theorem hdq_33 : ({ cls := "CoinKeeper$Layout", name := "valueOut", desc := "(I)J" } : Jvm.MethodName).cls ≠ "java/lang/invoke/MethodHandle" ∧ ({ cls := "CoinKeeper$Layout", name := "valueOut", desc := "(I)J" } : Jvm.MethodName).cls ≠ "java/lang/invoke/VarHandle" ∧ (parseMethodDescriptor ({ cls := "CoinKeeper$Layout", name := "valueOut", desc := "(I)J" } : Jvm.MethodName).desc).map (fun d => d.parameters.length) = some 1 := by decide +kernel
theorem hdq_34 : ({ cls := "CoinKeeper$Block", name := "subsidy", desc := "()J" } : Jvm.MethodName).cls ≠ "java/lang/invoke/MethodHandle" ∧ ({ cls := "CoinKeeper$Block", name := "subsidy", desc := "()J" } : Jvm.MethodName).cls ≠ "java/lang/invoke/VarHandle" ∧ (parseMethodDescriptor ({ cls := "CoinKeeper$Block", name := "subsidy", desc := "()J" } : Jvm.MethodName).desc).map (fun d => d.parameters.length) = some 0 := by decide +kernel
theorem hdq_35 : ({ cls := "CoinKeeper", name := "collect", desc := "(LCoinKeeper$Block;I)I" } : Jvm.MethodName).cls ≠ "java/lang/invoke/MethodHandle" ∧ ({ cls := "CoinKeeper", name := "collect", desc := "(LCoinKeeper$Block;I)I" } : Jvm.MethodName).cls ≠ "java/lang/invoke/VarHandle" ∧ (parseMethodDescriptor ({ cls := "CoinKeeper", name := "collect", desc := "(LCoinKeeper$Block;I)I" } : Jvm.MethodName).desc).map (fun d => d.parameters.length) = some 2 := by decide +kernel
theorem hdq_36 : ({ cls := "CoinKeeper", name := "spentValue", desc := "(I)J" } : Jvm.MethodName).cls ≠ "java/lang/invoke/MethodHandle" ∧ ({ cls := "CoinKeeper", name := "spentValue", desc := "(I)J" } : Jvm.MethodName).cls ≠ "java/lang/invoke/VarHandle" ∧ (parseMethodDescriptor ({ cls := "CoinKeeper", name := "spentValue", desc := "(I)J" } : Jvm.MethodName).desc).map (fun d => d.parameters.length) = some 1 := by decide +kernel
set_option maxHeartbeats 8000000 in
set_option maxRecDepth 100000 in
theorem wv_mK_connect_27 {p : Program} {l : Launch} {e : Env} {s : State} {m : MethodId} {args : Array Value} {below : List Frame} {meth : Method} {c : Code} {D : va_G} {cy : Nat → ClassId} {A : Nat → Prop} {ad : Nat → Nat} {mi MC MS : Nat} {Φ : Int32 → Mm → Prop} {fu : Nat} {k_27 : Nat → Nat → Mm → Nat → Nat → Int64 → Int32 → Prop} (F : FxM p s m args meth c b_K_connect 8 "CoinKeeper" "connect" (some .int) D cy ad mi A) (hk_27 : Iw_mK_connect_27 p l e s m args below meth c D cy A ad mi MC MS Φ k_27) : Iw_mK_connect_27 p l e s m args below meth c D cy A ad mi MC MS Φ (xv_mK_connect_27 fu MC MS cy ad mi Φ k_27) := by
  obtain ⟨⟨hx, hb, hr, hml, hown, hts, hlocks, hK, hA, hSt, hnm, hex⟩, hT, hMi⟩ := id F
  intro κ σ M x0 x1 x2 x4 hf hkc hks H locs ls hP hD hS hl
  unfold xv_mK_connect_27 at hf
  refine lv_iload hx hb d_K_connect_27 (lv_at hl 3 rfl) ?_
  refine lv_aload_n hx hb d_K_connect_29 rfl (lv_at hl 0 rfl) ?_
  obtain ⟨fs_, hm_, r1, hv_, hf⟩ := hf
  obtain ⟨ix_, hi_⟩ := m_ix hm_
  refine va_get (D := D) (ci := 0) (v := va_rf r1) (C := "CoinKeeper") (T := F_0) (N := 13) hx hb hts i_0 hown hK hP ix_ hi_ rfl 6 (by decide) (hts _ gw_506) (fun _ h9 => h9) hv_ d_K_connect_30 ?_
  clear hv_ hi_ hm_
  obtain ⟨q2, rfl, hf⟩ := hf
  refine W.eq (g2 := F0 m 33 ls [.ref q2, .int x4]) rfl ?_
  obtain ⟨fs_, hm_, v3, hv_, hf⟩ := hf
  obtain ⟨ix_, hi_⟩ := m_ix hm_
  refine va_get (D := D) (ci := 4) (v := .int v3) (C := "CoinKeeper$Layout") (T := F_4) (N := 15) hx hb hts i_4 hown hK hP ix_ hi_ rfl 1 (by decide) (hts _ gw_273) (fun _ h9 => h9) hv_ d_K_connect_33 ?_
  clear hv_ hi_ hm_
  refine lv_icmp_ge (tgt := 117) hx hb d_K_connect_36 (by decide) (fun cx => ?_) (fun cx => ?_)
  · have hf := ifpP cx hf
    refine lv_aload_n hx hb d_K_connect_117 rfl (lv_at hl 1 rfl) ?_
    refine lv_aload_n hx hb d_K_connect_118 rfl (lv_at hl 0 rfl) ?_
    obtain ⟨fs_, hm_, r4, hv_, hf⟩ := hf
    obtain ⟨ix_, hi_⟩ := m_ix hm_
    refine va_get (D := D) (ci := 0) (v := va_rf r4) (C := "CoinKeeper") (T := F_0) (N := 13) hx hb hts i_0 hown hK hP ix_ hi_ rfl 7 (by decide) (hts _ gw_507) (fun _ h9 => h9) hv_ d_K_connect_119 ?_
    clear hv_ hi_ hm_
    obtain ⟨q5, rfl, hf⟩ := hf
    refine W.eq (g2 := F0 m 122 ls [.ref q5, .ref x1]) rfl ?_
    obtain ⟨fs_, hm_, hf⟩ := hf
    obtain ⟨ix_, hi_⟩ := m_ix hm_
    obtain ⟨mc6, ms7, ⟨hc_, hd_⟩, hf⟩ := hf
    refine mm_ai (va_runV (C := "CoinKeeper$Ledger") (As := []) (rest := [.ref x1]) ⟨hx, hb, hml, hown, hts⟩ (cw_mLe_mark l D cy ad mi fu mc6 ms7 q5 M _ hf H.size) ⟨q_cB hts gw_962 gw_9 gw_959 hdq_32 ⟨Nat.le_of_ble_eq_true rfl, Nat.le_of_ble_eq_true rfl⟩, hts _ gw_960, hts _ gw_961⟩ (q_preVM (q_preM hP hD hK hSt hT hMi hS (m_free hD hS hA) _) (va_recv hK hP (ci := 5) (q0 := ix_) rfl hi_)) rfl rfl hl.1 rfl (lv_room (Nat.le_of_ble_eq_true rfl)) d_K_connect_122 ⟨hc_, hd_⟩) hD hS hA (fun v9 M8 H locs hf hP hD hS => ?_)
    have hkc : κ + mc6 ≤ MC := hc_
    have hks : σ + ms7 ≤ MS := hd_
    clear hc_ hd_
    obtain ⟨fs_, hm_, hlen_, hf⟩ := hf
    obtain ⟨ix_, hi_⟩ := m_ix hm_
    have hE_ := m_set (y := .inr (1, fs_.set 11 (.int v9))) hD hi_
    refine va_put (D := D) (ci := 1) (v := .int v9) (ty := .int) (C := "CoinKeeper$Block") (T := F_1) (N := 12) hx hb hts i_1 t_1 t_1_ok n_1 hown hK hP hD hS ix_ hi_ rfl 11 (by decide) (hts _ gw_411) (fun _ h9 => h9) rfl (by decide +kernel) rfl rfl hlen_ d_K_connect_125 (fun H locs hP hD hS => ?_)
    obtain ⟨M10, eM_⟩ : ∃ z, z = mu M8 x1 (.inr (1, fs_.set 11 (.int v9))) := ⟨_, rfl⟩
    rw [← eM_] at hf hE_
    rw [hE_] at hP hD
    clear hE_ eM_ hi_ hm_
    refine lv_aload_n hx hb d_K_connect_128 rfl (lv_at hl 0 rfl) ?_
    obtain ⟨fs_, hm_, r11, hv_, hf⟩ := hf
    obtain ⟨ix_, hi_⟩ := m_ix hm_
    refine va_get (D := D) (ci := 0) (v := va_rf r11) (C := "CoinKeeper") (T := F_0) (N := 13) hx hb hts i_0 hown hK hP ix_ hi_ rfl 6 (by decide) (hts _ gw_506) (fun _ h9 => h9) hv_ d_K_connect_129 ?_
    clear hv_ hi_ hm_
    obtain ⟨q12, rfl, hf⟩ := hf
    refine W.eq (g2 := F0 m 132 ls [.ref q12]) rfl ?_
    refine lv_iconst (v := 0) hx hb d_K_connect_132 (by decide) ?_
    obtain ⟨b13, b14, b15, b16, b17, b18, b19, b20, b21, b22, c23, c24, c25, c26, c27, c28, c29, c30, c31, hal_, hnd_, v32, hc, hf⟩ := hf
    refine m_ll (va_runV (C := "CoinKeeper$Layout") (As := [.int (0 : Int32)]) (rest := []) ⟨hx, hb, hml, hown, hts⟩ (c_La_valueOut l D cy ad fu q12 b13 b14 b15 b16 b17 b18 b19 b20 b21 b22 c23 c24 c25 c26 c27 c28 c29 c30 c31 (0 : Int32) _ hc H.size) ⟨q_cB hts gw_944 gw_8 gw_941 hdq_33 ⟨Nat.le_of_ble_eq_true rfl, Nat.le_of_ble_eq_true rfl⟩, hts _ gw_942, hts _ gw_943⟩ (q_preV (q_pre (m_subP hP hal_) (m_subD hD hal_ hnd_) hK hSt hS (m_lF hD hS hA hal_) _) (va_recv hK (m_subP hP hal_) (ci := 4) (q0 := 0) rfl rfl)) rfl rfl hl.1 rfl (lv_room (Nat.le_of_ble_eq_true rfl)) d_K_connect_133 ⟨hkc, hks⟩) hP hD hS hA hal_ rfl (fun H locs hP hD hS => ?_)
    refine W.widen (k := κ + mc6) (n := σ + ms7) (Nat.le_refl _) (Nat.le_refl _) ?_
    obtain ⟨M33, eM_, hf⟩ := bnP hf
    have hP : va_P D classes (mw M33) H := by rw [eM_]; exact hP
    have hD : va_D A (mw M33) := by rw [eM_]; exact hD
    clear eM_ hal_ hnd_ hc
    refine lv_aload_n hx hb d_K_connect_136 rfl (lv_at hl 1 rfl) ?_
    obtain ⟨fs_, hm_, hf⟩ := hf
    obtain ⟨ix_, hi_⟩ := m_ix hm_
    obtain ⟨mc34, ms35, ⟨hc_, hd_⟩, hf⟩ := hf
    refine m_al (va_runV (C := "CoinKeeper$Block") (As := []) (rest := [.long v32]) ⟨hx, hb, hml, hown, hts⟩ (cw_mBl_subsidy l D cy ad mi fu mc34 ms35 x1 M33 _ hf H.size) ⟨q_cB hts gw_966 gw_13 gw_963 hdq_34 ⟨Nat.le_of_ble_eq_true rfl, Nat.le_of_ble_eq_true rfl⟩, hts _ gw_964, hts _ gw_965⟩ (q_preVM (q_preM hP hD hK hSt hT hMi hS (m_free hD hS hA) _) (va_recv hK hP (ci := 1) (q0 := ix_) rfl hi_)) rfl rfl hl.1 rfl (lv_room (Nat.le_of_ble_eq_true rfl)) d_K_connect_137 ⟨hc_, hd_⟩) hD hS hA (fun v37 M36 H locs hf hP hD hS => ?_)
    have hkc : κ + mc6 + mc34 ≤ MC := hc_
    have hks : σ + ms7 + ms35 ≤ MS := hd_
    clear hc_ hd_
    refine lv_lload_n hx hb d_K_connect_140 rfl (lv_at hl 2 rfl) ?_
    refine lv_ladd hx hb d_K_connect_141 ?_
    refine W.lcmp hx hb d_K_connect_142 ?_
    refine lv_if_le (tgt := 151) hx hb d_K_connect_143 (by decide) (fun cx => ?_) (fun cx => ?_)
    · have hf := ifpP cx hf
      refine lv_iconst (v := 0) hx hb d_K_connect_151 (by decide) ?_
      refine W.widen (k := MC) (n := MS) hkc hks ?_
      exact m_ri hf hx hb hr hlocks hK hP hD hS d_K_connect_152
    · have hf := ifnP cx hf
      refine lv_bipush (v := 14) hx hb d_K_connect_146 (by decide) ?_
      refine lv_goto (tgt := 152) hx hb d_K_connect_148 (by decide) ?_
      refine W.widen (k := MC) (n := MS) hkc hks ?_
      exact m_ri hf hx hb hr hlocks hK hP hD hS d_K_connect_152
  · have hf := ifnP cx hf
    refine lv_iload hx hb d_K_connect_39 (lv_at hl 3 rfl) ?_
    refine lv_if_le (tgt := 94) hx hb d_K_connect_41 (by decide) (fun cx => ?_) (fun cx => ?_)
    · have hf := ifpP cx hf
      exact wv_mK_connect_94 (fu := fu) F hk_27 _ _ _ _ _ _ _ hf hkc hks _ _ _ hP hD hS (lv_sub hl [0, 1, 2, 3] rfl)
    · have hf := ifnP cx hf
      refine lv_aload_n hx hb d_K_connect_44 rfl (lv_at hl 0 rfl) ?_
      refine lv_aload_n hx hb d_K_connect_45 rfl (lv_at hl 1 rfl) ?_
      refine lv_iload hx hb d_K_connect_46 (lv_at hl 3 rfl) ?_
      obtain ⟨fs_, hm_, hf⟩ := hf
      obtain ⟨ix_, hi_⟩ := m_ix hm_
      obtain ⟨mc38, ms39, ⟨hc_, hd_⟩, hf⟩ := hf
      refine mm_ai (va_runV (C := "CoinKeeper") (As := [.ref x1, .int x4]) (rest := []) ⟨hx, hb, hml, hown, hts⟩ (cw_mK_collect l D cy ad mi fu mc38 ms39 x0 x1 x4 M _ hf H.size) ⟨q_cB hts gw_930 gw_1 gw_927 hdq_35 ⟨Nat.le_of_ble_eq_true rfl, Nat.le_of_ble_eq_true rfl⟩, hts _ gw_929, hts _ gs_24⟩ (q_preVM (q_preM hP hD hK hSt hT hMi hS (m_free hD hS hA) _) (va_recv hK hP (ci := 0) (q0 := ix_) rfl hi_)) rfl rfl hl.1 rfl (lv_room (Nat.le_of_ble_eq_true rfl)) d_K_connect_48 ⟨hc_, hd_⟩) hD hS hA (fun v41 M40 H locs hf hP hD hS => ?_)
      have hkc : κ + mc38 ≤ MC := hc_
      have hks : σ + ms39 ≤ MS := hd_
      clear hc_ hd_
      refine lv_istore (lv' := [(5, .int v41), (0, .ref x0), (1, .ref x1), (2, .long x2), (4, .int x4)]) hx hb d_K_connect_51 hl (by decide) rfl (fun ls hl => ?_)
      refine lv_iload hx hb d_K_connect_53 (lv_at hl 0 rfl) ?_
      refine lv_if_eq (tgt := 61) hx hb d_K_connect_55 (by decide) (fun cx => ?_) (fun cx => ?_)
      · have hf := ifpP cx hf
        refine lv_aload_n hx hb d_K_connect_61 rfl (lv_at hl 1 rfl) ?_
        refine lv_iload hx hb d_K_connect_62 (lv_at hl 4 rfl) ?_
        obtain ⟨fs_, hm_, hf⟩ := hf
        obtain ⟨ix_, hi_⟩ := m_ix hm_
        obtain ⟨mc42, ms43, ⟨hc_, hd_⟩, hf⟩ := hf
        refine m_al (va_runV (C := "CoinKeeper") (As := [.int x4]) (rest := []) ⟨hx, hb, hml, hown, hts⟩ (cw_mK_spentValue l D cy ad mi fu mc42 ms43 x0 x4 M40 _ hf H.size) ⟨q_cB hts gw_940 gw_1 gw_937 hdq_36 ⟨Nat.le_of_ble_eq_true rfl, Nat.le_of_ble_eq_true rfl⟩, hts _ gw_939, hts _ gs_25⟩ (q_preVM (q_preM hP hD hK hSt hT hMi hS (m_free hD hS hA) _) (va_recv hK hP (ci := 0) (q0 := ix_) rfl hi_)) rfl rfl hl.1 rfl (lv_room (Nat.le_of_ble_eq_true rfl)) d_K_connect_64 ⟨hc_, hd_⟩) hD hS hA (fun v45 M44 H locs hf hP hD hS => ?_)
        have hkc : κ + mc38 + mc42 ≤ MC := hc_
        have hks : σ + ms39 + ms43 ≤ MS := hd_
        clear hc_ hd_
        refine lv_aload_n hx hb d_K_connect_67 rfl (lv_at hl 1 rfl) ?_
        obtain ⟨fs_, hm_, r46, hv_, hf⟩ := hf
        obtain ⟨ix_, hi_⟩ := m_ix hm_
        refine va_get (D := D) (ci := 0) (v := va_rf r46) (C := "CoinKeeper") (T := F_0) (N := 13) hx hb hts i_0 hown hK hP ix_ hi_ rfl 6 (by decide) (hts _ gw_506) (fun _ h9 => h9) hv_ d_K_connect_68 ?_
        clear hv_ hi_ hm_
        obtain ⟨q47, rfl, hf⟩ := hf
        refine W.eq (g2 := F0 m 71 ls [.ref q47, .long v45]) rfl ?_
        refine lv_iload hx hb d_K_connect_71 (lv_at hl 4 rfl) ?_
        obtain ⟨b48, b49, b50, b51, b52, b53, b54, b55, b56, b57, c58, c59, c60, c61, c62, c63, c64, c65, c66, hal_, hnd_, v67, hc, hf⟩ := hf
        refine m_ll (va_runV (C := "CoinKeeper$Layout") (As := [.int x4]) (rest := [.long v45]) ⟨hx, hb, hml, hown, hts⟩ (c_La_valueOut l D cy ad fu q47 b48 b49 b50 b51 b52 b53 b54 b55 b56 b57 c58 c59 c60 c61 c62 c63 c64 c65 c66 x4 _ hc H.size) ⟨q_cB hts gw_944 gw_8 gw_941 hdq_33 ⟨Nat.le_of_ble_eq_true rfl, Nat.le_of_ble_eq_true rfl⟩, hts _ gw_942, hts _ gw_943⟩ (q_preV (q_pre (m_subP hP hal_) (m_subD hD hal_ hnd_) hK hSt hS (m_lF hD hS hA hal_) _) (va_recv hK (m_subP hP hal_) (ci := 4) (q0 := 0) rfl rfl)) rfl rfl hl.1 rfl (lv_room (Nat.le_of_ble_eq_true rfl)) d_K_connect_73 ⟨hkc, hks⟩) hP hD hS hA hal_ rfl (fun H locs hP hD hS => ?_)
        refine W.widen (k := κ + mc38 + mc42) (n := σ + ms39 + ms43) (Nat.le_refl _) (Nat.le_refl _) ?_
        obtain ⟨M68, eM_, hf⟩ := bnP hf
        have hP : va_P D classes (mw M68) H := by rw [eM_]; exact hP
        have hD : va_D A (mw M68) := by rw [eM_]; exact hD
        clear eM_ hal_ hnd_ hc
        refine lv_lsub hx hb d_K_connect_76 ?_
        refine lv_topl (fun v69 ev => ?_)
        have hf := bnQ ev hf
        clear ev
        refine lv_lstore (lv' := [(6, .long v69), (5, .int v41), (0, .ref x0), (1, .ref x1), (2, .long x2), (4, .int x4)]) hx hb d_K_connect_77 hl (by decide) rfl (fun ls hl => ?_)
        refine lv_lload hx hb d_K_connect_79 (lv_at hl 0 rfl) ?_
        refine lv_lconst (v := 0) hx hb d_K_connect_81 (by decide) ?_
        refine W.lcmp hx hb d_K_connect_82 ?_
        refine lv_if_ge (tgt := 89) hx hb d_K_connect_83 (by decide) (fun cx => ?_) (fun cx => ?_)
        · have hf := ifpP cx hf
          refine lv_lload_n hx hb d_K_connect_89 rfl (lv_at hl 4 rfl) ?_
          refine lv_lload hx hb d_K_connect_90 (lv_at hl 0 rfl) ?_
          refine lv_ladd hx hb d_K_connect_92 ?_
          refine lv_topl (fun v70 ev => ?_)
          have hf := bnQ ev hf
          clear ev
          refine lv_lstore_n (lv' := [(2, .long v70), (6, .long v69), (5, .int v41), (0, .ref x0), (1, .ref x1), (4, .int x4)]) hx hb d_K_connect_93 rfl hl (by decide) rfl (fun ls hl => ?_)
          exact wv_mK_connect_94 (fu := fu) F hk_27 _ _ _ _ _ _ _ hf hkc hks _ _ _ hP hD hS (lv_sub hl [3, 4, 0, 5] rfl)
        · have hf := ifnP cx hf
          refine lv_bipush (v := 12) hx hb d_K_connect_86 (by decide) ?_
          refine W.widen (k := MC) (n := MS) hkc hks ?_
          exact m_ri hf hx hb hr hlocks hK hP hD hS d_K_connect_88
      · have hf := ifnP cx hf
        refine lv_iload hx hb d_K_connect_58 (lv_at hl 0 rfl) ?_
        refine W.widen (k := MC) (n := MS) hkc hks ?_
        exact m_ri hf hx hb hr hlocks hK hP hD hS d_K_connect_60
theorem ww_mK_connect_27 {p : Program} {l : Launch} {e : Env} {s : State} {m : MethodId} {args : Array Value} {below : List Frame} {meth : Method} {c : Code} {D : va_G} {cy : Nat → ClassId} {A : Nat → Prop} {ad : Nat → Nat} {mi MC MS : Nat} {Φ : Int32 → Mm → Prop} {fu : Nat} (F : FxM p s m args meth c b_K_connect 8 "CoinKeeper" "connect" (some .int) D cy ad mi A) : ∀ n : Nat, Iw_mK_connect_27 p l e s m args below meth c D cy A ad mi MC MS Φ (xw_mK_connect_27 fu MC MS cy ad mi Φ n)
  | 0 => fun _ _ _ _ _ _ _ hf => False.elim hf
  | n + 1 => wv_mK_connect_27 F (ww_mK_connect_27 F n)
theorem hdq_37 : ({ cls := "CoinKeeper$Layout", name := "read", desc := "([BI)Z" } : Jvm.MethodName).cls ≠ "java/lang/invoke/MethodHandle" ∧ ({ cls := "CoinKeeper$Layout", name := "read", desc := "([BI)Z" } : Jvm.MethodName).cls ≠ "java/lang/invoke/VarHandle" ∧ (parseMethodDescriptor ({ cls := "CoinKeeper$Layout", name := "read", desc := "([BI)Z" } : Jvm.MethodName).desc).map (fun d => d.parameters.length) = some 2 := by decide +kernel
set_option maxHeartbeats 8000000 in
set_option maxRecDepth 100000 in
theorem wew_mK_connect {p : Program} {l : Launch} {e : Env} {s : State} {m : MethodId} {args : Array Value} {below : List Frame} {meth : Method} {c : Code} {D : va_G} {cy : Nat → ClassId} {A : Nat → Prop} {ad : Nat → Nat} {mi MC MS : Nat} {Φ : Int32 → Mm → Prop} {fu : Nat} (F : FxM p s m args meth c b_K_connect 8 "CoinKeeper" "connect" (some .int) D cy ad mi A) : Iw_mK_connect_e p l e s m args below meth c D cy A ad mi MC MS Φ (xw_mK_connect fu MC MS cy ad mi Φ) := by
  obtain ⟨⟨hx, hb, hr, hml, hown, hts, hlocks, hK, hA, hSt, hnm, hex⟩, hT, hMi⟩ := id F
  intro κ σ M a0 a1 hf hkc hks H locs ls hP hD hS hl
  unfold xw_mK_connect at hf
  refine lv_aload_n hx hb d_K_connect_0 rfl (lv_at hl 0 rfl) ?_
  obtain ⟨fs_, hm_, r1, hv_, hf⟩ := hf
  obtain ⟨ix_, hi_⟩ := m_ix hm_
  refine va_get (D := D) (ci := 0) (v := va_rf r1) (C := "CoinKeeper") (T := F_0) (N := 13) hx hb hts i_0 hown hK hP ix_ hi_ rfl 6 (by decide) (hts _ gw_506) (fun _ h9 => h9) hv_ d_K_connect_1 ?_
  clear hv_ hi_ hm_
  obtain ⟨q2, rfl, hf⟩ := hf
  refine W.eq (g2 := F0 m 4 ls [.ref q2]) rfl ?_
  refine lv_aload_n hx hb d_K_connect_4 rfl (lv_at hl 1 rfl) ?_
  obtain ⟨fs_, hm_, r3, hv_, hf⟩ := hf
  obtain ⟨ix_, hi_⟩ := m_ix hm_
  refine va_get (D := D) (ci := 1) (v := va_rf r3) (C := "CoinKeeper$Block") (T := F_1) (N := 12) hx hb hts i_1 hown hK hP ix_ hi_ rfl 1 (by decide) (hts _ gw_393) (fun _ h9 => h9) hv_ d_K_connect_5 ?_
  clear hv_ hi_ hm_
  obtain ⟨q4, rfl, hf⟩ := hf
  refine W.eq (g2 := F0 m 8 ls [.ref q4, .ref q2]) rfl ?_
  refine lv_aload_n hx hb d_K_connect_8 rfl (lv_at hl 1 rfl) ?_
  obtain ⟨fs_, hm_, r5, hv_, hf⟩ := hf
  obtain ⟨ix_, hi_⟩ := m_ix hm_
  refine va_get (D := D) (ci := 1) (v := va_rf r5) (C := "CoinKeeper$Block") (T := F_1) (N := 12) hx hb hts i_1 hown hK hP ix_ hi_ rfl 1 (by decide) (hts _ gw_393) (fun _ h9 => h9) hv_ d_K_connect_9 ?_
  clear hv_ hi_ hm_
  obtain ⟨q6, rfl, hf⟩ := hf
  refine W.eq (g2 := F0 m 12 ls [.ref q6, .ref q4, .ref q2]) rfl ?_
  obtain ⟨x_, hm_, hf⟩ := hf
  obtain ⟨ix_, hi_⟩ := m_ix hm_
  refine va_alen hx hb hK hP ix_ 0 hi_ rfl rfl d_K_connect_12 ?_
  obtain ⟨v7, ev⟩ : ∃ z, z = Int32.ofNat x_.1 := ⟨_, rfl⟩
  first | rw [← ev] at hf ⊢ | rw [← ev]
  clear ev hi_ hm_
  obtain ⟨b8, b9, b10, b11, b12, b13, b14, b15, b16, b17, c18, c19, c20, c21, c22, c23, c24, c25, c26, c27, c28, c29, c30, c31, c32, c33, hal_, hnd_, v34, c35, c36, c37, c38, c39, c40, c41, c42, c43, c44, c45, c46, c47, c48, hc, hf⟩ := hf
  refine m_li (va_runV (C := "CoinKeeper$Layout") (As := [.ref q4, .int v7]) (rest := []) ⟨hx, hb, hml, hown, hts⟩ (c_La_read l D cy ad fu q2 b8 b9 b10 b11 b12 b13 b14 b15 b16 b17 q4 c18 c19 v7 c20 c21 c22 c23 c24 c25 c26 c27 c28 c29 c30 c31 c32 c33 _ hc H.size) ⟨q_cB hts gw_682 gw_8 gw_679 hdq_37 ⟨Nat.le_of_ble_eq_true rfl, Nat.le_of_ble_eq_true rfl⟩, hts _ gw_680, hts _ gw_681⟩ (q_preV (q_pre (m_subP hP hal_) (m_subD hD hal_ hnd_) hK hSt hS (m_lF hD hS hA hal_) _) (va_recv hK (m_subP hP hal_) (ci := 4) (q0 := 0) rfl rfl)) rfl rfl hl.1 rfl (lv_room (Nat.le_of_ble_eq_true rfl)) d_K_connect_13 ⟨hkc, hks⟩) hP hD hS hA hal_ rfl (fun H locs hP hD hS => ?_)
  refine W.widen (k := κ) (n := σ) (Nat.le_refl _) (Nat.le_refl _) ?_
  obtain ⟨M49, eM_, hf⟩ := bnP hf
  have hP : va_P D classes (mw M49) H := by rw [eM_]; exact hP
  have hD : va_D A (mw M49) := by rw [eM_]; exact hD
  clear eM_ hal_ hnd_ hc
  refine lv_pop hx hb d_K_connect_16 rfl ?_
  refine lv_lconst (v := 0) hx hb d_K_connect_17 (by decide) ?_
  refine lv_lstore_n (lv' := [(2, .long (0 : Int64)), (0, .ref a0), (1, .ref a1)]) hx hb d_K_connect_18 rfl hl (by decide) rfl (fun ls hl => ?_)
  refine lv_aload_n hx hb d_K_connect_19 rfl (lv_at hl 1 rfl) ?_
  refine lv_iconst (v := 0) hx hb d_K_connect_20 (by decide) ?_
  obtain ⟨fs_, hm_, hlen_, hf⟩ := hf
  obtain ⟨ix_, hi_⟩ := m_ix hm_
  have hE_ := m_set (y := .inr (0, fs_.set 12 (.int (0 : Int32)))) hD hi_
  refine va_put (D := D) (ci := 0) (v := .int (0 : Int32)) (ty := .int) (C := "CoinKeeper") (T := F_0) (N := 13) hx hb hts i_0 t_0 t_0_ok n_0 hown hK hP hD hS ix_ hi_ rfl 12 (by decide) (hts _ gw_512) (fun _ h9 => h9) rfl (by decide +kernel) rfl rfl hlen_ d_K_connect_21 (fun H locs hP hD hS => ?_)
  obtain ⟨M50, eM_⟩ : ∃ z, z = mu M49 a0 (.inr (0, fs_.set 12 (.int (0 : Int32)))) := ⟨_, rfl⟩
  rw [← eM_] at hf hE_
  rw [hE_] at hP hD
  clear hE_ eM_ hi_ hm_
  refine lv_iconst (v := 0) hx hb d_K_connect_24 (by decide) ?_
  refine lv_istore (lv' := [(4, .int (0 : Int32)), (2, .long (0 : Int64)), (0, .ref a0), (1, .ref a1)]) hx hb d_K_connect_25 hl (by decide) rfl (fun ls hl => ?_)
  exact ww_mK_connect_27 F fu _ _ _ _ _ _ _ hf hkc hks _ _ _ hP hD hS (lv_sub hl [2, 3, 1, 0] rfl)
theorem cw_mK_connect (l : Launch) (D : va_G) (cy : Nat → ClassId) (ad : Nat → Nat) (mi fu MC MS : Nat) (a0 : Nat) (a1 : Nat) (M : Mm) (Φ : Int32 → Mm → Prop) (hf : xw_mK_connect fu MC MS cy ad mi Φ 0 0 M a0 a1) (sz : Nat) : Met l ({ cls := "CoinKeeper", name := "connect", desc := "(LCoinKeeper$Block;)I" } : Jvm.MethodName) (.code ({ cls := "CoinKeeper", name := "connect", desc := "(LCoinKeeper$Block;)I" } : Jvm.MethodName) b_K_connect 8 (some .int) :: gw) (rmw_mK_connect MC MS) (va_Pc [.ref a0, .ref a1] (PrM D cy ad mi (mw M) sz)) (va_Qi Φ (fun u t => Po D cy (va_A (mw M) sz) (mw u) t) (va_A (mw M) sz)) MC MS (va_A (mw M) sz) :=
  q_metM (Qc := fun A => va_Qi Φ (fun u t => Po D cy A (mw u) t) A) (by decide) rfl rfl (Nat.le_of_ble_eq_true rfl) (fun p e s m below meth c ls F hP hD hS hl => wew_mK_connect (fu := fu) F 0 0 M a0 a1 hf (Nat.zero_le _) (Nat.zero_le _) _ _ _ hP hD hS hl) sz
abbrev b_K_comeBack : ByteArray := prog_1_method_22_code
theorem d_K_comeBack_0 : decode b_K_comeBack 0 = .ok (.aload_n 0, 1) := by decide +kernel
theorem d_K_comeBack_1 : decode b_K_comeBack 1 = .ok (.getfield 49, 3) := by decide +kernel
theorem d_K_comeBack_4 : decode b_K_comeBack 4 = .ok (.aload_n 1, 1) := by decide +kernel
theorem d_K_comeBack_5 : decode b_K_comeBack 5 = .ok (.getfield 117, 3) := by decide +kernel
theorem d_K_comeBack_8 : decode b_K_comeBack 8 = .ok (.invokevirtual 120, 3) := by decide +kernel
theorem d_K_comeBack_11 : decode b_K_comeBack 11 = .ok (.aload_n 1, 1) := by decide +kernel
theorem d_K_comeBack_12 : decode b_K_comeBack 12 = .ok (.getfield 123, 3) := by decide +kernel
theorem d_K_comeBack_15 : decode b_K_comeBack 15 = .ok (.iconst 1, 1) := by decide +kernel
theorem d_K_comeBack_16 : decode b_K_comeBack 16 = .ok (.iadd, 1) := by decide +kernel
theorem d_K_comeBack_17 : decode b_K_comeBack 17 = .ok (.istore_n 2, 1) := by decide +kernel
theorem d_K_comeBack_18 : decode b_K_comeBack 18 = .ok (.iload_n 2, 1) := by decide +kernel
theorem d_K_comeBack_19 : decode b_K_comeBack 19 = .ok (.aload_n 0, 1) := by decide +kernel
theorem d_K_comeBack_20 : decode b_K_comeBack 20 = .ok (.getfield 71, 3) := by decide +kernel
theorem d_K_comeBack_23 : decode b_K_comeBack 23 = .ok (.getfield 123, 3) := by decide +kernel
theorem d_K_comeBack_26 : decode b_K_comeBack 26 = .ok (.if_icmp .gt 22, 3) := by decide +kernel
theorem d_K_comeBack_29 : decode b_K_comeBack 29 = .ok (.aload_n 0, 1) := by decide +kernel
theorem d_K_comeBack_30 : decode b_K_comeBack 30 = .ok (.aload_n 0, 1) := by decide +kernel
theorem d_K_comeBack_31 : decode b_K_comeBack 31 = .ok (.getfield 71, 3) := by decide +kernel
theorem d_K_comeBack_34 : decode b_K_comeBack 34 = .ok (.iload_n 2, 1) := by decide +kernel
theorem d_K_comeBack_35 : decode b_K_comeBack 35 = .ok (.invokevirtual 126, 3) := by decide +kernel
theorem d_K_comeBack_38 : decode b_K_comeBack 38 = .ok (.invokevirtual 129, 3) := by decide +kernel
theorem d_K_comeBack_41 : decode b_K_comeBack 41 = .ok (.pop, 1) := by decide +kernel
theorem d_K_comeBack_42 : decode b_K_comeBack 42 = .ok (.iinc 2 1, 3) := by decide +kernel
theorem d_K_comeBack_45 : decode b_K_comeBack 45 = .ok (.goto (-27), 3) := by decide +kernel
theorem d_K_comeBack_48 : decode b_K_comeBack 48 = .ok (.return_, 1) := by decide +kernel
abbrev rmw_mK_comeBack (MC MS : Nat) : Room := { frames := 12, cells := MC, slots := MS, locals := 276 }
def Iw_mK_comeBack_18 (p : Program) (l : Launch) (e : Env) (s : State) (m : MethodId) (args : Array Value) (below : List Frame) (meth : Method) (c : Code) (D : va_G) (cy : Nat → ClassId) (A : Nat → Prop) (ad : Nat → Nat) (mi MC MS : Nat) (Φ : Mm → Prop) (k : Nat → Nat → Mm → Nat → Int32 → Prop) : Prop :=
  ∀ (κ σ : Nat) (M : Mm) (x0 : Nat) (x2 : Int32), k κ σ M x0 x2 → κ ≤ MC → σ ≤ MS → ∀ (H : Heap) (locs : List Loc) (ls : Array Slot), va_P D classes (mw M) H → va_D A (mw M) → va_S A s.heap H locs → lv_has ls 3 [(0, .ref x0), (2, .int x2)] → W p l e (rmw_mK_comeBack MC MS) s m args below meth c H locs κ σ (MQ below (va_Qv Φ (fun u t => Po D cy A (mw u) t) A) args s MC MS A) (F0 m 18 ls [])
def Iw_mK_comeBack_e (p : Program) (l : Launch) (e : Env) (s : State) (m : MethodId) (args : Array Value) (below : List Frame) (meth : Method) (c : Code) (D : va_G) (cy : Nat → ClassId) (A : Nat → Prop) (ad : Nat → Nat) (mi MC MS : Nat) (Φ : Mm → Prop) (k : Nat → Nat → Mm → Nat → Nat → Prop) : Prop :=
  ∀ (κ σ : Nat) (M : Mm) (a0 : Nat) (a1 : Nat), k κ σ M a0 a1 → κ ≤ MC → σ ≤ MS → ∀ (H : Heap) (locs : List Loc) (ls : Array Slot), va_P D classes (mw M) H → va_D A (mw M) → va_S A s.heap H locs → lv_has ls 3 [(0, .ref a0), (1, .ref a1)] → W p l e (rmw_mK_comeBack MC MS) s m args below meth c H locs κ σ (MQ below (va_Qv Φ (fun u t => Po D cy A (mw u) t) A) args s MC MS A) (F0 m 0 ls [])
theorem hdq_38 : ({ cls := "CoinKeeper", name := "connect", desc := "(LCoinKeeper$Block;)I" } : Jvm.MethodName).cls ≠ "java/lang/invoke/MethodHandle" ∧ ({ cls := "CoinKeeper", name := "connect", desc := "(LCoinKeeper$Block;)I" } : Jvm.MethodName).cls ≠ "java/lang/invoke/VarHandle" ∧ (parseMethodDescriptor ({ cls := "CoinKeeper", name := "connect", desc := "(LCoinKeeper$Block;)I" } : Jvm.MethodName).desc).map (fun d => d.parameters.length) = some 1 := by decide +kernel
set_option maxHeartbeats 8000000 in
set_option maxRecDepth 100000 in
theorem wv_mK_comeBack_18 {p : Program} {l : Launch} {e : Env} {s : State} {m : MethodId} {args : Array Value} {below : List Frame} {meth : Method} {c : Code} {D : va_G} {cy : Nat → ClassId} {A : Nat → Prop} {ad : Nat → Nat} {mi MC MS : Nat} {Φ : Mm → Prop} {fu : Nat} {k_18 : Nat → Nat → Mm → Nat → Int32 → Prop} (F : FxM p s m args meth c b_K_comeBack 3 "CoinKeeper" "comeBack" none D cy ad mi A) (hk_18 : Iw_mK_comeBack_18 p l e s m args below meth c D cy A ad mi MC MS Φ k_18) : Iw_mK_comeBack_18 p l e s m args below meth c D cy A ad mi MC MS Φ (xv_mK_comeBack_18 fu MC MS cy ad mi Φ k_18) := by
  obtain ⟨⟨hx, hb, hr, hml, hown, hts, hlocks, hK, hA, hSt, hnm, hex⟩, hT, hMi⟩ := id F
  intro κ σ M x0 x2 hf hkc hks H locs ls hP hD hS hl
  unfold xv_mK_comeBack_18 at hf
  refine lv_iload_n hx hb d_K_comeBack_18 rfl (lv_at hl 1 rfl) ?_
  refine lv_aload_n hx hb d_K_comeBack_19 rfl (lv_at hl 0 rfl) ?_
  obtain ⟨fs_, hm_, r1, hv_, hf⟩ := hf
  obtain ⟨ix_, hi_⟩ := m_ix hm_
  refine va_get (D := D) (ci := 0) (v := va_rf r1) (C := "CoinKeeper") (T := F_0) (N := 13) hx hb hts i_0 hown hK hP ix_ hi_ rfl 10 (by decide) (hts _ gw_510) (fun _ h9 => h9) hv_ d_K_comeBack_20 ?_
  clear hv_ hi_ hm_
  obtain ⟨q2, rfl, hf⟩ := hf
  refine W.eq (g2 := F0 m 23 ls [.ref q2, .int x2]) rfl ?_
  obtain ⟨fs_, hm_, v3, hv_, hf⟩ := hf
  obtain ⟨ix_, hi_⟩ := m_ix hm_
  refine va_get (D := D) (ci := 1) (v := .int v3) (C := "CoinKeeper$Block") (T := F_1) (N := 12) hx hb hts i_1 hown hK hP ix_ hi_ rfl 4 (by decide) (hts _ gw_401) (fun _ h9 => h9) hv_ d_K_comeBack_23 ?_
  clear hv_ hi_ hm_
  refine lv_icmp_gt (tgt := 48) hx hb d_K_comeBack_26 (by decide) (fun cx => ?_) (fun cx => ?_)
  · have hf := ifpP cx hf
    refine W.widen (k := MC) (n := MS) hkc hks ?_
    exact m_rv hf hx hb hr hlocks hK hP hD hS d_K_comeBack_48
  · have hf := ifnP cx hf
    refine lv_aload_n hx hb d_K_comeBack_29 rfl (lv_at hl 0 rfl) ?_
    refine lv_aload_n hx hb d_K_comeBack_30 rfl (lv_at hl 0 rfl) ?_
    obtain ⟨fs_, hm_, r4, hv_, hf⟩ := hf
    obtain ⟨ix_, hi_⟩ := m_ix hm_
    refine va_get (D := D) (ci := 0) (v := va_rf r4) (C := "CoinKeeper") (T := F_0) (N := 13) hx hb hts i_0 hown hK hP ix_ hi_ rfl 10 (by decide) (hts _ gw_510) (fun _ h9 => h9) hv_ d_K_comeBack_31 ?_
    clear hv_ hi_ hm_
    obtain ⟨q5, rfl, hf⟩ := hf
    refine W.eq (g2 := F0 m 34 ls [.ref q5, .ref x0]) rfl ?_
    refine lv_iload_n hx hb d_K_comeBack_34 rfl (lv_at hl 1 rfl) ?_
    obtain ⟨fs_, hm_, hf⟩ := hf
    obtain ⟨ix_, hi_⟩ := m_ix hm_
    obtain ⟨mc6, ms7, ⟨hc_, hd_⟩, hf⟩ := hf
    refine m_aq (va_runV (C := "CoinKeeper$Block") (As := [.int x2]) (rest := [.ref x0]) ⟨hx, hb, hml, hown, hts⟩ (cw_mBl_ancestor l D cy ad mi fu mc6 ms7 q5 x2 M _ hf H.size) ⟨q_cB hts gw_755 gw_13 gw_922 hdq_0 ⟨Nat.le_of_ble_eq_true rfl, Nat.le_of_ble_eq_true rfl⟩, hts _ gw_753, hts _ gw_754⟩ (q_preVM (q_preM hP hD hK hSt hT hMi hS (m_free hD hS hA) _) (va_recv hK hP (ci := 1) (q0 := ix_) rfl hi_)) rfl rfl hl.1 rfl (lv_room (Nat.le_of_ble_eq_true rfl)) d_K_comeBack_35 ⟨hc_, hd_⟩) hD hS hA (fun v9 M8 H locs hf hP hD hS => ?_)
    have hkc : κ + mc6 ≤ MC := hc_
    have hks : σ + ms7 ≤ MS := hd_
    clear hc_ hd_
    obtain ⟨q10, rfl, hf⟩ := hf
    refine W.eq (g2 := F0 m 38 ls [.ref q10, .ref x0]) rfl ?_
    obtain ⟨fs_, hm_, hf⟩ := hf
    obtain ⟨ix_, hi_⟩ := m_ix hm_
    obtain ⟨mc11, ms12, ⟨hc_, hd_⟩, hf⟩ := hf
    refine mm_ai (va_runV (C := "CoinKeeper") (As := [.ref q10]) (rest := []) ⟨hx, hb, hml, hown, hts⟩ (cw_mK_connect l D cy ad mi fu mc11 ms12 x0 q10 M8 _ hf H.size) ⟨q_cB hts gw_926 gw_1 gw_923 hdq_38 ⟨Nat.le_of_ble_eq_true rfl, Nat.le_of_ble_eq_true rfl⟩, hts _ gw_925, hts _ gs_23⟩ (q_preVM (q_preM hP hD hK hSt hT hMi hS (m_free hD hS hA) _) (va_recv hK hP (ci := 0) (q0 := ix_) rfl hi_)) rfl rfl hl.1 rfl (lv_room (Nat.le_of_ble_eq_true rfl)) d_K_comeBack_38 ⟨hc_, hd_⟩) hD hS hA (fun v14 M13 H locs hf hP hD hS => ?_)
    have hkc : κ + mc6 + mc11 ≤ MC := hc_
    have hks : σ + ms7 + ms12 ≤ MS := hd_
    clear hc_ hd_
    refine lv_pop hx hb d_K_comeBack_41 rfl ?_
    obtain ⟨v15, ev, hf⟩ := bnP hf
    refine lv_iinc (v := v15) (lv' := [(2, .int v15), (0, .ref x0)]) hx hb d_K_comeBack_42 hl (k := 1) rfl (by rw [ev]; rfl) (by decide) rfl (fun ls hl => ?_)
    clear ev
    refine lv_goto (tgt := 18) hx hb d_K_comeBack_45 (by decide) ?_
    exact hk_18 _ _ _ _ _ hf hkc hks _ _ _ hP hD hS (lv_sub hl [1, 0] rfl)
theorem ww_mK_comeBack_18 {p : Program} {l : Launch} {e : Env} {s : State} {m : MethodId} {args : Array Value} {below : List Frame} {meth : Method} {c : Code} {D : va_G} {cy : Nat → ClassId} {A : Nat → Prop} {ad : Nat → Nat} {mi MC MS : Nat} {Φ : Mm → Prop} {fu : Nat} (F : FxM p s m args meth c b_K_comeBack 3 "CoinKeeper" "comeBack" none D cy ad mi A) : ∀ n : Nat, Iw_mK_comeBack_18 p l e s m args below meth c D cy A ad mi MC MS Φ (xw_mK_comeBack_18 fu MC MS cy ad mi Φ n)
  | 0 => fun _ _ _ _ _ hf => False.elim hf
  | n + 1 => wv_mK_comeBack_18 F (ww_mK_comeBack_18 F n)
theorem hdq_39 : ({ cls := "CoinKeeper$Ledger", name := "rollBack", desc := "(I)V" } : Jvm.MethodName).cls ≠ "java/lang/invoke/MethodHandle" ∧ ({ cls := "CoinKeeper$Ledger", name := "rollBack", desc := "(I)V" } : Jvm.MethodName).cls ≠ "java/lang/invoke/VarHandle" ∧ (parseMethodDescriptor ({ cls := "CoinKeeper$Ledger", name := "rollBack", desc := "(I)V" } : Jvm.MethodName).desc).map (fun d => d.parameters.length) = some 1 := by decide +kernel
set_option maxHeartbeats 8000000 in
set_option maxRecDepth 100000 in
theorem wew_mK_comeBack {p : Program} {l : Launch} {e : Env} {s : State} {m : MethodId} {args : Array Value} {below : List Frame} {meth : Method} {c : Code} {D : va_G} {cy : Nat → ClassId} {A : Nat → Prop} {ad : Nat → Nat} {mi MC MS : Nat} {Φ : Mm → Prop} {fu : Nat} (F : FxM p s m args meth c b_K_comeBack 3 "CoinKeeper" "comeBack" none D cy ad mi A) : Iw_mK_comeBack_e p l e s m args below meth c D cy A ad mi MC MS Φ (xw_mK_comeBack fu MC MS cy ad mi Φ) := by
  obtain ⟨⟨hx, hb, hr, hml, hown, hts, hlocks, hK, hA, hSt, hnm, hex⟩, hT, hMi⟩ := id F
  intro κ σ M a0 a1 hf hkc hks H locs ls hP hD hS hl
  unfold xw_mK_comeBack at hf
  refine lv_aload_n hx hb d_K_comeBack_0 rfl (lv_at hl 0 rfl) ?_
  obtain ⟨fs_, hm_, r1, hv_, hf⟩ := hf
  obtain ⟨ix_, hi_⟩ := m_ix hm_
  refine va_get (D := D) (ci := 0) (v := va_rf r1) (C := "CoinKeeper") (T := F_0) (N := 13) hx hb hts i_0 hown hK hP ix_ hi_ rfl 7 (by decide) (hts _ gw_507) (fun _ h9 => h9) hv_ d_K_comeBack_1 ?_
  clear hv_ hi_ hm_
  obtain ⟨q2, rfl, hf⟩ := hf
  refine W.eq (g2 := F0 m 4 ls [.ref q2]) rfl ?_
  refine lv_aload_n hx hb d_K_comeBack_4 rfl (lv_at hl 1 rfl) ?_
  obtain ⟨fs_, hm_, v3, hv_, hf⟩ := hf
  obtain ⟨ix_, hi_⟩ := m_ix hm_
  refine va_get (D := D) (ci := 1) (v := .int v3) (C := "CoinKeeper$Block") (T := F_1) (N := 12) hx hb hts i_1 hown hK hP ix_ hi_ rfl 11 (by decide) (hts _ gw_411) (fun _ h9 => h9) hv_ d_K_comeBack_5 ?_
  clear hv_ hi_ hm_
  obtain ⟨fs_, hm_, hf⟩ := hf
  obtain ⟨ix_, hi_⟩ := m_ix hm_
  obtain ⟨mc4, ms5, ⟨hc_, hd_⟩, hf⟩ := hf
  refine m_av (va_runV (C := "CoinKeeper$Ledger") (As := [.int v3]) (rest := []) ⟨hx, hb, hml, hown, hts⟩ (cw_mLe_rollBack l D cy ad mi fu mc4 ms5 q2 v3 M _ hf H.size) ⟨q_cB hts gw_903 gw_9 gw_900 hdq_39 ⟨Nat.le_of_ble_eq_true rfl, Nat.le_of_ble_eq_true rfl⟩, hts _ gw_901, hts _ gw_902⟩ (q_preVM (q_preM hP hD hK hSt hT hMi hS (m_free hD hS hA) _) (va_recv hK hP (ci := 5) (q0 := ix_) rfl hi_)) rfl rfl hl.1 rfl (lv_room (Nat.le_of_ble_eq_true rfl)) d_K_comeBack_8 ⟨hc_, hd_⟩) hD hS hA (fun M6 H locs hf hP hD hS => ?_)
  have hkc : κ + mc4 ≤ MC := hc_
  have hks : σ + ms5 ≤ MS := hd_
  clear hc_ hd_
  refine lv_aload_n hx hb d_K_comeBack_11 rfl (lv_at hl 1 rfl) ?_
  obtain ⟨fs_, hm_, v7, hv_, hf⟩ := hf
  obtain ⟨ix_, hi_⟩ := m_ix hm_
  refine va_get (D := D) (ci := 1) (v := .int v7) (C := "CoinKeeper$Block") (T := F_1) (N := 12) hx hb hts i_1 hown hK hP ix_ hi_ rfl 4 (by decide) (hts _ gw_401) (fun _ h9 => h9) hv_ d_K_comeBack_12 ?_
  clear hv_ hi_ hm_
  refine lv_iconst (v := 1) hx hb d_K_comeBack_15 (by decide) ?_
  refine lv_iadd hx hb d_K_comeBack_16 ?_
  refine lv_topi (fun v8 ev => ?_)
  have hf := bnQ ev hf
  clear ev
  refine lv_istore_n (lv' := [(2, .int v8), (0, .ref a0), (1, .ref a1)]) hx hb d_K_comeBack_17 rfl hl (by decide) rfl (fun ls hl => ?_)
  exact ww_mK_comeBack_18 F fu _ _ _ _ _ hf hkc hks _ _ _ hP hD hS (lv_sub hl [1, 0] rfl)
theorem cw_mK_comeBack (l : Launch) (D : va_G) (cy : Nat → ClassId) (ad : Nat → Nat) (mi fu MC MS : Nat) (a0 : Nat) (a1 : Nat) (M : Mm) (Φ : Mm → Prop) (hf : xw_mK_comeBack fu MC MS cy ad mi Φ 0 0 M a0 a1) (sz : Nat) : Met l ({ cls := "CoinKeeper", name := "comeBack", desc := "(LCoinKeeper$Block;)V" } : Jvm.MethodName) (.code ({ cls := "CoinKeeper", name := "comeBack", desc := "(LCoinKeeper$Block;)V" } : Jvm.MethodName) b_K_comeBack 3 none :: gw) (rmw_mK_comeBack MC MS) (va_Pc [.ref a0, .ref a1] (PrM D cy ad mi (mw M) sz)) (va_Qv Φ (fun u t => Po D cy (va_A (mw M) sz) (mw u) t) (va_A (mw M) sz)) MC MS (va_A (mw M) sz) :=
  q_metM (Qc := fun A => va_Qv Φ (fun u t => Po D cy A (mw u) t) A) (by decide) rfl rfl (Nat.le_of_ble_eq_true rfl) (fun p e s m below meth c ls F hP hD hS hl => wew_mK_comeBack (fu := fu) F 0 0 M a0 a1 hf (Nat.zero_le _) (Nat.zero_le _) _ _ _ hP hD hS hl) sz
abbrev b_K_refusal : ByteArray := prog_1_method_13_code
theorem d_K_refusal_0 : decode b_K_refusal 0 = .ok (.aload_n 0, 1) := by decide +kernel
theorem d_K_refusal_1 : decode b_K_refusal 1 = .ok (.getfield 42, 3) := by decide +kernel
theorem d_K_refusal_4 : decode b_K_refusal 4 = .ok (.aload_n 0, 1) := by decide +kernel
theorem d_K_refusal_5 : decode b_K_refusal 5 = .ok (.getfield 9, 3) := by decide +kernel
theorem d_K_refusal_8 : decode b_K_refusal 8 = .ok (.iload_n 1, 1) := by decide +kernel
theorem d_K_refusal_9 : decode b_K_refusal 9 = .ok (.invokevirtual 205, 3) := by decide +kernel
theorem d_K_refusal_12 : decode b_K_refusal 12 = .ok (.ifCond .ne 5, 3) := by decide +kernel
theorem d_K_refusal_15 : decode b_K_refusal 15 = .ok (.iconst 1, 1) := by decide +kernel
theorem d_K_refusal_16 : decode b_K_refusal 16 = .ok (.ireturn, 1) := by decide +kernel
theorem d_K_refusal_17 : decode b_K_refusal 17 = .ok (.aload_n 0, 1) := by decide +kernel
theorem d_K_refusal_18 : decode b_K_refusal 18 = .ok (.getfield 19, 3) := by decide +kernel
theorem d_K_refusal_21 : decode b_K_refusal 21 = .ok (.aload_n 0, 1) := by decide +kernel
theorem d_K_refusal_22 : decode b_K_refusal 22 = .ok (.getfield 9, 3) := by decide +kernel
theorem d_K_refusal_25 : decode b_K_refusal 25 = .ok (.iconst 0, 1) := by decide +kernel
theorem d_K_refusal_26 : decode b_K_refusal 26 = .ok (.bipush 80, 2) := by decide +kernel
theorem d_K_refusal_28 : decode b_K_refusal 28 = .ok (.aload_n 0, 1) := by decide +kernel
theorem d_K_refusal_29 : decode b_K_refusal 29 = .ok (.getfield 13, 3) := by decide +kernel
theorem d_K_refusal_32 : decode b_K_refusal 32 = .ok (.iconst 0, 1) := by decide +kernel
theorem d_K_refusal_33 : decode b_K_refusal 33 = .ok (.invokevirtual 162, 3) := by decide +kernel
theorem d_K_refusal_36 : decode b_K_refusal 36 = .ok (.aload_n 0, 1) := by decide +kernel
theorem d_K_refusal_37 : decode b_K_refusal 37 = .ok (.aload_n 0, 1) := by decide +kernel
theorem d_K_refusal_38 : decode b_K_refusal 38 = .ok (.getfield 13, 3) := by decide +kernel
theorem d_K_refusal_41 : decode b_K_refusal 41 = .ok (.iconst 0, 1) := by decide +kernel
theorem d_K_refusal_42 : decode b_K_refusal 42 = .ok (.invokevirtual 209, 3) := by decide +kernel
theorem d_K_refusal_45 : decode b_K_refusal 45 = .ok (.ifnull 5, 3) := by decide +kernel
theorem d_K_refusal_48 : decode b_K_refusal 48 = .ok (.iconst 2, 1) := by decide +kernel
theorem d_K_refusal_49 : decode b_K_refusal 49 = .ok (.ireturn, 1) := by decide +kernel
theorem d_K_refusal_50 : decode b_K_refusal 50 = .ok (.aload_n 0, 1) := by decide +kernel
theorem d_K_refusal_51 : decode b_K_refusal 51 = .ok (.aload_n 0, 1) := by decide +kernel
theorem d_K_refusal_52 : decode b_K_refusal 52 = .ok (.getfield 9, 3) := by decide +kernel
theorem d_K_refusal_55 : decode b_K_refusal 55 = .ok (.iconst 4, 1) := by decide +kernel
theorem d_K_refusal_56 : decode b_K_refusal 56 = .ok (.invokevirtual 209, 3) := by decide +kernel
theorem d_K_refusal_59 : decode b_K_refusal 59 = .ok (.astore_n 2, 1) := by decide +kernel
theorem d_K_refusal_60 : decode b_K_refusal 60 = .ok (.aload_n 2, 1) := by decide +kernel
theorem d_K_refusal_61 : decode b_K_refusal 61 = .ok (.ifnonnull 5, 3) := by decide +kernel
theorem d_K_refusal_64 : decode b_K_refusal 64 = .ok (.iconst 3, 1) := by decide +kernel
theorem d_K_refusal_65 : decode b_K_refusal 65 = .ok (.ireturn, 1) := by decide +kernel
theorem d_K_refusal_66 : decode b_K_refusal 66 = .ok (.aload_n 2, 1) := by decide +kernel
theorem d_K_refusal_67 : decode b_K_refusal 67 = .ok (.getfield 213, 3) := by decide +kernel
theorem d_K_refusal_70 : decode b_K_refusal 70 = .ok (.ifCond .eq 5, 3) := by decide +kernel
theorem d_K_refusal_73 : decode b_K_refusal 73 = .ok (.iconst 4, 1) := by decide +kernel
theorem d_K_refusal_74 : decode b_K_refusal 74 = .ok (.ireturn, 1) := by decide +kernel
theorem d_K_refusal_75 : decode b_K_refusal 75 = .ok (.aload_n 0, 1) := by decide +kernel
theorem d_K_refusal_76 : decode b_K_refusal 76 = .ok (.getfield 9, 3) := by decide +kernel
theorem d_K_refusal_79 : decode b_K_refusal 79 = .ok (.bipush 72, 2) := by decide +kernel
theorem d_K_refusal_81 : decode b_K_refusal 81 = .ok (.invokestatic 166, 3) := by decide +kernel
theorem d_K_refusal_84 : decode b_K_refusal 84 = .ok (.istore_n 3, 1) := by decide +kernel
theorem d_K_refusal_85 : decode b_K_refusal 85 = .ok (.iload_n 3, 1) := by decide +kernel
theorem d_K_refusal_86 : decode b_K_refusal 86 = .ok (.aload_n 2, 1) := by decide +kernel
theorem d_K_refusal_87 : decode b_K_refusal 87 = .ok (.invokevirtual 177, 3) := by decide +kernel
theorem d_K_refusal_90 : decode b_K_refusal 90 = .ok (.if_icmp .eq 5, 3) := by decide +kernel
theorem d_K_refusal_93 : decode b_K_refusal 93 = .ok (.iconst 5, 1) := by decide +kernel
theorem d_K_refusal_94 : decode b_K_refusal 94 = .ok (.ireturn, 1) := by decide +kernel
theorem d_K_refusal_95 : decode b_K_refusal 95 = .ok (.aload_n 0, 1) := by decide +kernel
theorem d_K_refusal_96 : decode b_K_refusal 96 = .ok (.getfield 13, 3) := by decide +kernel
theorem d_K_refusal_99 : decode b_K_refusal 99 = .ok (.iload_n 3, 1) := by decide +kernel
theorem d_K_refusal_100 : decode b_K_refusal 100 = .ok (.invokestatic 216, 3) := by decide +kernel
theorem d_K_refusal_103 : decode b_K_refusal 103 = .ok (.ifCond .eq 6, 3) := by decide +kernel
theorem d_K_refusal_106 : decode b_K_refusal 106 = .ok (.bipush 6, 2) := by decide +kernel
theorem d_K_refusal_108 : decode b_K_refusal 108 = .ok (.ireturn, 1) := by decide +kernel
theorem d_K_refusal_109 : decode b_K_refusal 109 = .ok (.aload_n 0, 1) := by decide +kernel
theorem d_K_refusal_110 : decode b_K_refusal 110 = .ok (.getfield 9, 3) := by decide +kernel
theorem d_K_refusal_113 : decode b_K_refusal 113 = .ok (.bipush 68, 2) := by decide +kernel
theorem d_K_refusal_115 : decode b_K_refusal 115 = .ok (.invokestatic 166, 3) := by decide +kernel
theorem d_K_refusal_118 : decode b_K_refusal 118 = .ok (.i2l, 1) := by decide +kernel
theorem d_K_refusal_119 : decode b_K_refusal 119 = .ok (.ldc2_w 219, 3) := by decide +kernel
theorem d_K_refusal_122 : decode b_K_refusal 122 = .ok (.land, 1) := by decide +kernel
theorem d_K_refusal_123 : decode b_K_refusal 123 = .ok (.lstore 4, 2) := by decide +kernel
theorem d_K_refusal_125 : decode b_K_refusal 125 = .ok (.lload 4, 2) := by decide +kernel
theorem d_K_refusal_127 : decode b_K_refusal 127 = .ok (.aload_n 2, 1) := by decide +kernel
theorem d_K_refusal_128 : decode b_K_refusal 128 = .ok (.invokevirtual 221, 3) := by decide +kernel
theorem d_K_refusal_131 : decode b_K_refusal 131 = .ok (.lcmp, 1) := by decide +kernel
theorem d_K_refusal_132 : decode b_K_refusal 132 = .ok (.ifCond .gt 6, 3) := by decide +kernel
theorem d_K_refusal_135 : decode b_K_refusal 135 = .ok (.bipush 7, 2) := by decide +kernel
theorem d_K_refusal_137 : decode b_K_refusal 137 = .ok (.ireturn, 1) := by decide +kernel
theorem d_K_refusal_138 : decode b_K_refusal 138 = .ok (.aload_n 0, 1) := by decide +kernel
theorem d_K_refusal_139 : decode b_K_refusal 139 = .ok (.getfield 42, 3) := by decide +kernel
theorem d_K_refusal_142 : decode b_K_refusal 142 = .ok (.aload_n 0, 1) := by decide +kernel
theorem d_K_refusal_143 : decode b_K_refusal 143 = .ok (.getfield 19, 3) := by decide +kernel
theorem d_K_refusal_146 : decode b_K_refusal 146 = .ok (.invokevirtual 224, 3) := by decide +kernel
theorem d_K_refusal_149 : decode b_K_refusal 149 = .ok (.ifCond .ne 6, 3) := by decide +kernel
theorem d_K_refusal_152 : decode b_K_refusal 152 = .ok (.bipush 8, 2) := by decide +kernel
theorem d_K_refusal_154 : decode b_K_refusal 154 = .ok (.ireturn, 1) := by decide +kernel
theorem d_K_refusal_155 : decode b_K_refusal 155 = .ok (.aload_n 0, 1) := by decide +kernel
theorem d_K_refusal_156 : decode b_K_refusal 156 = .ok (.getfield 42, 3) := by decide +kernel
theorem d_K_refusal_159 : decode b_K_refusal 159 = .ok (.aload_n 2, 1) := by decide +kernel
theorem d_K_refusal_160 : decode b_K_refusal 160 = .ok (.getfield 123, 3) := by decide +kernel
theorem d_K_refusal_163 : decode b_K_refusal 163 = .ok (.iconst 1, 1) := by decide +kernel
theorem d_K_refusal_164 : decode b_K_refusal 164 = .ok (.iadd, 1) := by decide +kernel
theorem d_K_refusal_165 : decode b_K_refusal 165 = .ok (.lload 4, 2) := by decide +kernel
theorem d_K_refusal_167 : decode b_K_refusal 167 = .ok (.invokevirtual 228, 3) := by decide +kernel
theorem d_K_refusal_170 : decode b_K_refusal 170 = .ok (.ifCond .eq 7, 3) := by decide +kernel
theorem d_K_refusal_173 : decode b_K_refusal 173 = .ok (.iconst 0, 1) := by decide +kernel
theorem d_K_refusal_174 : decode b_K_refusal 174 = .ok (.goto 5, 3) := by decide +kernel
theorem d_K_refusal_177 : decode b_K_refusal 177 = .ok (.bipush 9, 2) := by decide +kernel
theorem d_K_refusal_179 : decode b_K_refusal 179 = .ok (.ireturn, 1) := by decide +kernel
abbrev rmw_mK_refusal (MC MS : Nat) : Room := { frames := 6, cells := MC, slots := MS, locals := 154 }
def Iw_mK_refusal_e (p : Program) (l : Launch) (e : Env) (s : State) (m : MethodId) (args : Array Value) (below : List Frame) (meth : Method) (c : Code) (D : va_G) (cy : Nat → ClassId) (A : Nat → Prop) (ad : Nat → Nat) (mi MC MS : Nat) (Φ : Int32 → Mm → Prop) (k : Nat → Nat → Mm → Nat → Int32 → Prop) : Prop :=
  ∀ (κ σ : Nat) (M : Mm) (a0 : Nat) (a1 : Int32), k κ σ M a0 a1 → κ ≤ MC → σ ≤ MS → ∀ (H : Heap) (locs : List Loc) (ls : Array Slot), va_P D classes (mw M) H → va_D A (mw M) → va_S A s.heap H locs → lv_has ls 6 [(0, .ref a0), (1, .int a1)] → W p l e (rmw_mK_refusal MC MS) s m args below meth c H locs κ σ (MQ below (va_Qi Φ (fun u t => Po D cy A (mw u) t) A) args s MC MS A) (F0 m 0 ls [])
theorem hdq_40 : ({ cls := "CoinKeeper$Block", name := "wantedBits", desc := "()I" } : Jvm.MethodName).cls ≠ "java/lang/invoke/MethodHandle" ∧ ({ cls := "CoinKeeper$Block", name := "wantedBits", desc := "()I" } : Jvm.MethodName).cls ≠ "java/lang/invoke/VarHandle" ∧ (parseMethodDescriptor ({ cls := "CoinKeeper$Block", name := "wantedBits", desc := "()I" } : Jvm.MethodName).desc).map (fun d => d.parameters.length) = some 0 := by decide +kernel
theorem hdq_41 : ({ cls := "CoinKeeper$Block", name := "isAbove", desc := "([BI)Z" } : Jvm.MethodName).cls ≠ "java/lang/invoke/MethodHandle" ∧ ({ cls := "CoinKeeper$Block", name := "isAbove", desc := "([BI)Z" } : Jvm.MethodName).cls ≠ "java/lang/invoke/VarHandle" ∧ (parseMethodDescriptor ({ cls := "CoinKeeper$Block", name := "isAbove", desc := "([BI)Z" } : Jvm.MethodName).desc).map (fun d => d.parameters.length) = some 2 := by decide +kernel
theorem hdq_42 : ({ cls := "CoinKeeper$Block", name := "median", desc := "()J" } : Jvm.MethodName).cls ≠ "java/lang/invoke/MethodHandle" ∧ ({ cls := "CoinKeeper$Block", name := "median", desc := "()J" } : Jvm.MethodName).cls ≠ "java/lang/invoke/VarHandle" ∧ (parseMethodDescriptor ({ cls := "CoinKeeper$Block", name := "median", desc := "()J" } : Jvm.MethodName).desc).map (fun d => d.parameters.length) = some 0 := by decide +kernel
theorem hdq_43 : ({ cls := "CoinKeeper$Layout", name := "rootIsRight", desc := "(LCoinKeeper$Sha256;)Z" } : Jvm.MethodName).cls ≠ "java/lang/invoke/MethodHandle" ∧ ({ cls := "CoinKeeper$Layout", name := "rootIsRight", desc := "(LCoinKeeper$Sha256;)Z" } : Jvm.MethodName).cls ≠ "java/lang/invoke/VarHandle" ∧ (parseMethodDescriptor ({ cls := "CoinKeeper$Layout", name := "rootIsRight", desc := "(LCoinKeeper$Sha256;)Z" } : Jvm.MethodName).desc).map (fun d => d.parameters.length) = some 1 := by decide +kernel
theorem hdq_44 : ({ cls := "CoinKeeper$Layout", name := "isSound", desc := "(IJ)Z" } : Jvm.MethodName).cls ≠ "java/lang/invoke/MethodHandle" ∧ ({ cls := "CoinKeeper$Layout", name := "isSound", desc := "(IJ)Z" } : Jvm.MethodName).cls ≠ "java/lang/invoke/VarHandle" ∧ (parseMethodDescriptor ({ cls := "CoinKeeper$Layout", name := "isSound", desc := "(IJ)Z" } : Jvm.MethodName).desc).map (fun d => d.parameters.length) = some 2 := by decide +kernel
set_option maxHeartbeats 8000000 in
set_option maxRecDepth 100000 in
theorem wew_mK_refusal {p : Program} {l : Launch} {e : Env} {s : State} {m : MethodId} {args : Array Value} {below : List Frame} {meth : Method} {c : Code} {D : va_G} {cy : Nat → ClassId} {A : Nat → Prop} {ad : Nat → Nat} {mi MC MS : Nat} {Φ : Int32 → Mm → Prop} {fu : Nat} (F : FxM p s m args meth c b_K_refusal 6 "CoinKeeper" "refusal" (some .int) D cy ad mi A) : Iw_mK_refusal_e p l e s m args below meth c D cy A ad mi MC MS Φ (xw_mK_refusal fu MC MS cy ad mi Φ) := by
  obtain ⟨⟨hx, hb, hr, hml, hown, hts, hlocks, hK, hA, hSt, hnm, hex⟩, hT, hMi⟩ := id F
  intro κ σ M a0 a1 hf hkc hks H locs ls hP hD hS hl
  unfold xw_mK_refusal at hf
  refine lv_aload_n hx hb d_K_refusal_0 rfl (lv_at hl 0 rfl) ?_
  obtain ⟨fs_, hm_, r1, hv_, hf⟩ := hf
  obtain ⟨ix_, hi_⟩ := m_ix hm_
  refine va_get (D := D) (ci := 0) (v := va_rf r1) (C := "CoinKeeper") (T := F_0) (N := 13) hx hb hts i_0 hown hK hP ix_ hi_ rfl 6 (by decide) (hts _ gw_506) (fun _ h9 => h9) hv_ d_K_refusal_1 ?_
  clear hv_ hi_ hm_
  obtain ⟨q2, rfl, hf⟩ := hf
  refine W.eq (g2 := F0 m 4 ls [.ref q2]) rfl ?_
  refine lv_aload_n hx hb d_K_refusal_4 rfl (lv_at hl 0 rfl) ?_
  obtain ⟨fs_, hm_, r3, hv_, hf⟩ := hf
  obtain ⟨ix_, hi_⟩ := m_ix hm_
  refine va_get (D := D) (ci := 0) (v := va_rf r3) (C := "CoinKeeper") (T := F_0) (N := 13) hx hb hts i_0 hown hK hP ix_ hi_ rfl 0 (by decide) (hts _ gw_500) (fun _ h9 => h9) hv_ d_K_refusal_5 ?_
  clear hv_ hi_ hm_
  obtain ⟨q4, rfl, hf⟩ := hf
  refine W.eq (g2 := F0 m 8 ls [.ref q4, .ref q2]) rfl ?_
  refine lv_iload_n hx hb d_K_refusal_8 rfl (lv_at hl 1 rfl) ?_
  obtain ⟨b5, b6, b7, b8, b9, b10, b11, b12, b13, b14, c15, c16, c17, c18, c19, c20, c21, c22, c23, c24, c25, c26, c27, c28, c29, c30, hal_, hnd_, v31, c32, c33, c34, c35, c36, c37, c38, c39, c40, c41, c42, c43, c44, c45, hc, hf⟩ := hf
  refine m_li (va_runV (C := "CoinKeeper$Layout") (As := [.ref q4, .int a1]) (rest := []) ⟨hx, hb, hml, hown, hts⟩ (c_La_read l D cy ad fu q2 b5 b6 b7 b8 b9 b10 b11 b12 b13 b14 q4 c15 c16 a1 c17 c18 c19 c20 c21 c22 c23 c24 c25 c26 c27 c28 c29 c30 _ hc H.size) ⟨q_cB hts gw_682 gw_8 gw_679 hdq_37 ⟨Nat.le_of_ble_eq_true rfl, Nat.le_of_ble_eq_true rfl⟩, hts _ gw_680, hts _ gw_681⟩ (q_preV (q_pre (m_subP hP hal_) (m_subD hD hal_ hnd_) hK hSt hS (m_lF hD hS hA hal_) _) (va_recv hK (m_subP hP hal_) (ci := 4) (q0 := 0) rfl rfl)) rfl rfl hl.1 rfl (lv_room (Nat.le_of_ble_eq_true rfl)) d_K_refusal_9 ⟨hkc, hks⟩) hP hD hS hA hal_ rfl (fun H locs hP hD hS => ?_)
  refine W.widen (k := κ) (n := σ) (Nat.le_refl _) (Nat.le_refl _) ?_
  obtain ⟨M46, eM_, hf⟩ := bnP hf
  have hP : va_P D classes (mw M46) H := by rw [eM_]; exact hP
  have hD : va_D A (mw M46) := by rw [eM_]; exact hD
  clear eM_ hal_ hnd_ hc
  refine lv_if_ne (tgt := 17) hx hb d_K_refusal_12 (by decide) (fun cx => ?_) (fun cx => ?_)
  · have hf := ifnP cx hf
    refine lv_aload_n hx hb d_K_refusal_17 rfl (lv_at hl 0 rfl) ?_
    obtain ⟨fs_, hm_, r47, hv_, hf⟩ := hf
    obtain ⟨ix_, hi_⟩ := m_ix hm_
    refine va_get (D := D) (ci := 0) (v := va_rf r47) (C := "CoinKeeper") (T := F_0) (N := 13) hx hb hts i_0 hown hK hP ix_ hi_ rfl 3 (by decide) (hts _ gw_503) (fun _ h9 => h9) hv_ d_K_refusal_18 ?_
    clear hv_ hi_ hm_
    obtain ⟨q48, rfl, hf⟩ := hf
    refine W.eq (g2 := F0 m 21 ls [.ref q48]) rfl ?_
    refine lv_aload_n hx hb d_K_refusal_21 rfl (lv_at hl 0 rfl) ?_
    obtain ⟨fs_, hm_, r49, hv_, hf⟩ := hf
    obtain ⟨ix_, hi_⟩ := m_ix hm_
    refine va_get (D := D) (ci := 0) (v := va_rf r49) (C := "CoinKeeper") (T := F_0) (N := 13) hx hb hts i_0 hown hK hP ix_ hi_ rfl 0 (by decide) (hts _ gw_500) (fun _ h9 => h9) hv_ d_K_refusal_22 ?_
    clear hv_ hi_ hm_
    obtain ⟨q50, rfl, hf⟩ := hf
    refine W.eq (g2 := F0 m 25 ls [.ref q50, .ref q48]) rfl ?_
    refine lv_iconst (v := 0) hx hb d_K_refusal_25 (by decide) ?_
    refine lv_bipush (v := 80) hx hb d_K_refusal_26 (by decide) ?_
    refine lv_aload_n hx hb d_K_refusal_28 rfl (lv_at hl 0 rfl) ?_
    obtain ⟨fs_, hm_, r51, hv_, hf⟩ := hf
    obtain ⟨ix_, hi_⟩ := m_ix hm_
    refine va_get (D := D) (ci := 0) (v := va_rf r51) (C := "CoinKeeper") (T := F_0) (N := 13) hx hb hts i_0 hown hK hP ix_ hi_ rfl 2 (by decide) (hts _ gw_502) (fun _ h9 => h9) hv_ d_K_refusal_29 ?_
    clear hv_ hi_ hm_
    obtain ⟨q52, rfl, hf⟩ := hf
    refine W.eq (g2 := F0 m 32 ls [.ref q52, .int (80 : Int32), .int (0 : Int32), .ref q50, .ref q48]) rfl ?_
    refine lv_iconst (v := 0) hx hb d_K_refusal_32 (by decide) ?_
    by_cases cx : q50 = q52
    · have hg_ := ifpP cx hf
      clear hf
      subst cx
      have hf := hg_
      clear hg_
      obtain ⟨b53, b54, b55, c56, c57, c58, c59, c60, c61, c62, hal_, hnd_, c63, c64, c65, c66, c67, c68, hc, hf⟩ := hf
      refine m_lv (va_runV (C := "CoinKeeper$Sha256") (As := [.ref q50, .int (0 : Int32), .int (80 : Int32), .ref q50, .int (0 : Int32)]) (rest := []) ⟨hx, hb, hml, hown, hts⟩ (c_Sh_twice_e41 l D cy ad fu q48 b53 b54 b55 q50 c56 (0 : Int32) (80 : Int32) (0 : Int32) c57 c58 c59 c60 c61 c62 _ hc H.size) ⟨q_cB hts gw_707 gw_2 gw_704 hdq_23 ⟨Nat.le_of_ble_eq_true rfl, Nat.le_of_ble_eq_true rfl⟩, hts _ gw_705, hts _ gw_706⟩ (q_preV (q_pre (m_subP hP hal_) (m_subD hD hal_ hnd_) hK hSt hS (m_lF hD hS hA hal_) _) (va_recv hK (m_subP hP hal_) (ci := 9) (q0 := 0) rfl rfl)) rfl rfl hl.1 rfl (lv_room (Nat.le_of_ble_eq_true rfl)) d_K_refusal_33 ⟨hkc, hks⟩) hP hD hS hA hal_ rfl (fun H locs hP hD hS => ?_)
      refine W.widen (k := κ) (n := σ) (Nat.le_refl _) (Nat.le_refl _) ?_
      obtain ⟨M69, eM_, hf⟩ := bnP hf
      have hP : va_P D classes (mw M69) H := by rw [eM_]; exact hP
      have hD : va_D A (mw M69) := by rw [eM_]; exact hD
      clear eM_ hal_ hnd_ hc
      refine lv_aload_n hx hb d_K_refusal_36 rfl (lv_at hl 0 rfl) ?_
      refine lv_aload_n hx hb d_K_refusal_37 rfl (lv_at hl 0 rfl) ?_
      obtain ⟨fs_, hm_, r70, hv_, hf⟩ := hf
      obtain ⟨ix_, hi_⟩ := m_ix hm_
      refine va_get (D := D) (ci := 0) (v := va_rf r70) (C := "CoinKeeper") (T := F_0) (N := 13) hx hb hts i_0 hown hK hP ix_ hi_ rfl 2 (by decide) (hts _ gw_502) (fun _ h9 => h9) hv_ d_K_refusal_38 ?_
      clear hv_ hi_ hm_
      obtain ⟨q71, rfl, hf⟩ := hf
      refine W.eq (g2 := F0 m 41 ls [.ref q71, .ref a0]) rfl ?_
      refine lv_iconst (v := 0) hx hb d_K_refusal_41 (by decide) ?_
      obtain ⟨fs_, hm_, hf⟩ := hf
      obtain ⟨ix_, hi_⟩ := m_ix hm_
      obtain ⟨mc72, ms73, ⟨hc_, hd_⟩, hf⟩ := hf
      refine m_aq (va_runV (C := "CoinKeeper") (As := [.ref q71, .int (0 : Int32)]) (rest := []) ⟨hx, hb, hml, hown, hts⟩ (cw_mK_blockOf l D cy ad mi fu mc72 ms73 a0 q71 (0 : Int32) M69 _ hf H.size) ⟨q_cB hts gw_742 gw_1 gw_739 hdq_28 ⟨Nat.le_of_ble_eq_true rfl, Nat.le_of_ble_eq_true rfl⟩, hts _ gw_741, hts _ gs_12⟩ (q_preVM (q_preM hP hD hK hSt hT hMi hS (m_free hD hS hA) _) (va_recv hK hP (ci := 0) (q0 := ix_) rfl hi_)) rfl rfl hl.1 rfl (lv_room (Nat.le_of_ble_eq_true rfl)) d_K_refusal_42 ⟨hc_, hd_⟩) hD hS hA (fun v75 M74 H locs hf hP hD hS => ?_)
      have hkc : κ + mc72 ≤ MC := hc_
      have hks : σ + ms73 ≤ MS := hd_
      clear hc_ hd_
      have hq_ := ospp hf
      clear hf
      rcases hq_ with ⟨rfl, hf⟩ | ⟨q76, rfl, hf⟩
      · refine W.eq (g2 := F0 m 45 ls [.null]) rfl ?_
        refine lv_ifnullN (tgt := 50) hx hb d_K_refusal_45 (by decide) ?_
        refine lv_aload_n hx hb d_K_refusal_50 rfl (lv_at hl 0 rfl) ?_
        refine lv_aload_n hx hb d_K_refusal_51 rfl (lv_at hl 0 rfl) ?_
        obtain ⟨fs_, hm_, r77, hv_, hf⟩ := hf
        obtain ⟨ix_, hi_⟩ := m_ix hm_
        refine va_get (D := D) (ci := 0) (v := va_rf r77) (C := "CoinKeeper") (T := F_0) (N := 13) hx hb hts i_0 hown hK hP ix_ hi_ rfl 0 (by decide) (hts _ gw_500) (fun _ h9 => h9) hv_ d_K_refusal_52 ?_
        clear hv_ hi_ hm_
        obtain ⟨q78, rfl, hf⟩ := hf
        refine W.eq (g2 := F0 m 55 ls [.ref q78, .ref a0]) rfl ?_
        refine lv_iconst (v := 4) hx hb d_K_refusal_55 (by decide) ?_
        obtain ⟨fs_, hm_, hf⟩ := hf
        obtain ⟨ix_, hi_⟩ := m_ix hm_
        obtain ⟨mc79, ms80, ⟨hc_, hd_⟩, hf⟩ := hf
        refine m_aq (va_runV (C := "CoinKeeper") (As := [.ref q78, .int (4 : Int32)]) (rest := []) ⟨hx, hb, hml, hown, hts⟩ (cw_mK_blockOf l D cy ad mi fu mc79 ms80 a0 q78 (4 : Int32) M74 _ hf H.size) ⟨q_cB hts gw_742 gw_1 gw_739 hdq_28 ⟨Nat.le_of_ble_eq_true rfl, Nat.le_of_ble_eq_true rfl⟩, hts _ gw_741, hts _ gs_12⟩ (q_preVM (q_preM hP hD hK hSt hT hMi hS (m_free hD hS hA) _) (va_recv hK hP (ci := 0) (q0 := ix_) rfl hi_)) rfl rfl hl.1 rfl (lv_room (Nat.le_of_ble_eq_true rfl)) d_K_refusal_56 ⟨hc_, hd_⟩) hD hS hA (fun v82 M81 H locs hf hP hD hS => ?_)
        have hkc : κ + mc72 + mc79 ≤ MC := hc_
        have hks : σ + ms73 + ms80 ≤ MS := hd_
        clear hc_ hd_
        have hq_ := ospp hf
        clear hf
        rcases hq_ with ⟨rfl, hf⟩ | ⟨q83, rfl, hf⟩
        · refine W.eq (g2 := F0 m 59 ls [.null]) rfl ?_
          refine lv_astore_nN (lv' := [(2, .null), (0, .ref a0), (1, .int a1)]) hx hb d_K_refusal_59 rfl hl (by decide) rfl (fun ls hl => ?_)
          refine lv_aload_nN hx hb d_K_refusal_60 rfl (lv_at hl 0 rfl) ?_
          refine lv_ifnonnullN hx hb d_K_refusal_61 ?_
          refine lv_iconst (v := 3) hx hb d_K_refusal_64 (by decide) ?_
          refine W.widen (k := MC) (n := MS) hkc hks ?_
          exact m_ri hf hx hb hr hlocks hK hP hD hS d_K_refusal_65
        · refine W.eq (g2 := F0 m 59 ls [.ref q83]) rfl ?_
          refine lv_astore_n (lv' := [(2, .ref q83), (0, .ref a0), (1, .int a1)]) hx hb d_K_refusal_59 rfl hl (by decide) rfl (fun ls hl => ?_)
          refine lv_aload_n hx hb d_K_refusal_60 rfl (lv_at hl 0 rfl) ?_
          refine lv_ifnonnull (tgt := 66) hx hb d_K_refusal_61 (by decide) ?_
          refine lv_aload_n hx hb d_K_refusal_66 rfl (lv_at hl 0 rfl) ?_
          obtain ⟨fs_, hm_, v84, hv_, hf⟩ := hf
          obtain ⟨ix_, hi_⟩ := m_ix hm_
          refine va_get (D := D) (ci := 1) (v := .int v84) (C := "CoinKeeper$Block") (T := F_1) (N := 12) hx hb hts i_1 hown hK hP ix_ hi_ rfl 9 (by decide) (hts _ gw_409) (fun _ h9 => h9) hv_ d_K_refusal_67 ?_
          clear hv_ hi_ hm_
          refine lv_if_eq (tgt := 75) hx hb d_K_refusal_70 (by decide) (fun cx => ?_) (fun cx => ?_)
          · have hf := ifpP cx hf
            refine lv_aload_n hx hb d_K_refusal_75 rfl (lv_at hl 1 rfl) ?_
            obtain ⟨fs_, hm_, r85, hv_, hf⟩ := hf
            obtain ⟨ix_, hi_⟩ := m_ix hm_
            refine va_get (D := D) (ci := 0) (v := va_rf r85) (C := "CoinKeeper") (T := F_0) (N := 13) hx hb hts i_0 hown hK hP ix_ hi_ rfl 0 (by decide) (hts _ gw_500) (fun _ h9 => h9) hv_ d_K_refusal_76 ?_
            clear hv_ hi_ hm_
            obtain ⟨q86, rfl, hf⟩ := hf
            refine W.eq (g2 := F0 m 79 ls [.ref q86]) rfl ?_
            refine lv_bipush (v := 72) hx hb d_K_refusal_79 (by decide) ?_
            obtain ⟨c87, c88, hal_, hnd_, v89, hc, hf⟩ := hf
            refine m_li (va_runS (As := [.ref q86, .int (72 : Int32)]) (rest := []) ⟨hx, hb, hml, hown, hts⟩ (c_K_word l D cy ad fu q86 c87 c88 (72 : Int32) _ hc H.size) ⟨q_cB hts gw_383 gw_1 gw_747 hdq_16 ⟨Nat.le_of_ble_eq_true rfl, Nat.le_of_ble_eq_true rfl⟩, hts _ gw_382⟩ (q_pre (m_subP hP hal_) (m_subD hD hal_ hnd_) hK hSt hS (m_lF hD hS hA hal_) _) rfl rfl hl.1 rfl (lv_room (Nat.le_of_ble_eq_true rfl)) d_K_refusal_81 ⟨hkc, hks⟩) hP hD hS hA hal_ rfl (fun H locs hP hD hS => ?_)
            refine W.widen (k := κ + mc72 + mc79) (n := σ + ms73 + ms80) (Nat.le_refl _) (Nat.le_refl _) ?_
            obtain ⟨M90, eM_, hf⟩ := bnP hf
            have hP : va_P D classes (mw M90) H := by rw [eM_]; exact hP
            have hD : va_D A (mw M90) := by rw [eM_]; exact hD
            clear eM_ hal_ hnd_ hc
            refine lv_istore_n (lv' := [(3, .int v89), (2, .ref q83), (0, .ref a0), (1, .int a1)]) hx hb d_K_refusal_84 rfl hl (by decide) rfl (fun ls hl => ?_)
            refine lv_iload_n hx hb d_K_refusal_85 rfl (lv_at hl 0 rfl) ?_
            refine lv_aload_n hx hb d_K_refusal_86 rfl (lv_at hl 1 rfl) ?_
            obtain ⟨fs_, hm_, hf⟩ := hf
            obtain ⟨ix_, hi_⟩ := m_ix hm_
            obtain ⟨mc91, ms92, ⟨hc_, hd_⟩, hf⟩ := hf
            refine mm_ai (va_runV (C := "CoinKeeper$Block") (As := []) (rest := [.int v89]) ⟨hx, hb, hml, hown, hts⟩ (cw_mBl_wantedBits l D cy ad mi fu mc91 ms92 q83 M90 _ hf H.size) ⟨q_cB hts gw_751 gw_13 gw_748 hdq_40 ⟨Nat.le_of_ble_eq_true rfl, Nat.le_of_ble_eq_true rfl⟩, hts _ gw_749, hts _ gw_750⟩ (q_preVM (q_preM hP hD hK hSt hT hMi hS (m_free hD hS hA) _) (va_recv hK hP (ci := 1) (q0 := ix_) rfl hi_)) rfl rfl hl.1 rfl (lv_room (Nat.le_of_ble_eq_true rfl)) d_K_refusal_87 ⟨hc_, hd_⟩) hD hS hA (fun v94 M93 H locs hf hP hD hS => ?_)
            have hkc : κ + mc72 + mc79 + mc91 ≤ MC := hc_
            have hks : σ + ms73 + ms80 + ms92 ≤ MS := hd_
            clear hc_ hd_
            refine lv_icmp_eq (tgt := 95) hx hb d_K_refusal_90 (by decide) (fun cx => ?_) (fun cx => ?_)
            · have hf := ifpP cx hf
              refine lv_aload_n hx hb d_K_refusal_95 rfl (lv_at hl 2 rfl) ?_
              obtain ⟨fs_, hm_, r95, hv_, hf⟩ := hf
              obtain ⟨ix_, hi_⟩ := m_ix hm_
              refine va_get (D := D) (ci := 0) (v := va_rf r95) (C := "CoinKeeper") (T := F_0) (N := 13) hx hb hts i_0 hown hK hP ix_ hi_ rfl 2 (by decide) (hts _ gw_502) (fun _ h9 => h9) hv_ d_K_refusal_96 ?_
              clear hv_ hi_ hm_
              obtain ⟨q96, rfl, hf⟩ := hf
              refine W.eq (g2 := F0 m 99 ls [.ref q96]) rfl ?_
              refine lv_iload_n hx hb d_K_refusal_99 rfl (lv_at hl 0 rfl) ?_
              obtain ⟨c97, c98, hal_, hnd_, v99, hc, hf⟩ := hf
              refine m_li (va_runS (As := [.ref q96, .int v89]) (rest := []) ⟨hx, hb, hml, hown, hts⟩ (c_Bl_isAbove l D cy ad fu q96 c97 c98 v89 _ hc H.size) ⟨q_cB hts gw_773 gw_13 gw_771 hdq_41 ⟨Nat.le_of_ble_eq_true rfl, Nat.le_of_ble_eq_true rfl⟩, hts _ gw_772⟩ (q_pre (m_subP hP hal_) (m_subD hD hal_ hnd_) hK hSt hS (m_lF hD hS hA hal_) _) rfl rfl hl.1 rfl (lv_room (Nat.le_of_ble_eq_true rfl)) d_K_refusal_100 ⟨hkc, hks⟩) hP hD hS hA hal_ rfl (fun H locs hP hD hS => ?_)
              refine W.widen (k := κ + mc72 + mc79 + mc91) (n := σ + ms73 + ms80 + ms92) (Nat.le_refl _) (Nat.le_refl _) ?_
              obtain ⟨M100, eM_, hf⟩ := bnP hf
              have hP : va_P D classes (mw M100) H := by rw [eM_]; exact hP
              have hD : va_D A (mw M100) := by rw [eM_]; exact hD
              clear eM_ hal_ hnd_ hc
              refine lv_if_eq (tgt := 109) hx hb d_K_refusal_103 (by decide) (fun cx => ?_) (fun cx => ?_)
              · have hf := ifpP cx hf
                refine lv_aload_n hx hb d_K_refusal_109 rfl (lv_at hl 2 rfl) ?_
                obtain ⟨fs_, hm_, r101, hv_, hf⟩ := hf
                obtain ⟨ix_, hi_⟩ := m_ix hm_
                refine va_get (D := D) (ci := 0) (v := va_rf r101) (C := "CoinKeeper") (T := F_0) (N := 13) hx hb hts i_0 hown hK hP ix_ hi_ rfl 0 (by decide) (hts _ gw_500) (fun _ h9 => h9) hv_ d_K_refusal_110 ?_
                clear hv_ hi_ hm_
                obtain ⟨q102, rfl, hf⟩ := hf
                refine W.eq (g2 := F0 m 113 ls [.ref q102]) rfl ?_
                refine lv_bipush (v := 68) hx hb d_K_refusal_113 (by decide) ?_
                obtain ⟨c103, c104, hal_, hnd_, v105, hc, hf⟩ := hf
                refine m_li (va_runS (As := [.ref q102, .int (68 : Int32)]) (rest := []) ⟨hx, hb, hml, hown, hts⟩ (c_K_word l D cy ad fu q102 c103 c104 (68 : Int32) _ hc H.size) ⟨q_cB hts gw_383 gw_1 gw_747 hdq_16 ⟨Nat.le_of_ble_eq_true rfl, Nat.le_of_ble_eq_true rfl⟩, hts _ gw_382⟩ (q_pre (m_subP hP hal_) (m_subD hD hal_ hnd_) hK hSt hS (m_lF hD hS hA hal_) _) rfl rfl hl.1 rfl (lv_room (Nat.le_of_ble_eq_true rfl)) d_K_refusal_115 ⟨hkc, hks⟩) hP hD hS hA hal_ rfl (fun H locs hP hD hS => ?_)
                refine W.widen (k := κ + mc72 + mc79 + mc91) (n := σ + ms73 + ms80 + ms92) (Nat.le_refl _) (Nat.le_refl _) ?_
                obtain ⟨M106, eM_, hf⟩ := bnP hf
                have hP : va_P D classes (mw M106) H := by rw [eM_]; exact hP
                have hD : va_D A (mw M106) := by rw [eM_]; exact hD
                clear eM_ hal_ hnd_ hc
                refine lv_i2l hx hb d_K_refusal_118 rfl ?_
                refine lv_topl (fun v107 ev => ?_)
                have hf := bnQ ev hf
                clear ev
                refine lv_ldc2 (v := 4294967295) hx hb hown (hts _ gw_774) d_K_refusal_119 ?_
                refine lv_land hx hb d_K_refusal_122 ?_
                refine lv_topl (fun v108 ev => ?_)
                have hf := bnQ ev hf
                clear ev
                refine lv_lstore (lv' := [(4, .long v108), (3, .int v89), (2, .ref q83), (0, .ref a0), (1, .int a1)]) hx hb d_K_refusal_123 hl (by decide) rfl (fun ls hl => ?_)
                refine lv_lload hx hb d_K_refusal_125 (lv_at hl 0 rfl) ?_
                refine lv_aload_n hx hb d_K_refusal_127 rfl (lv_at hl 2 rfl) ?_
                obtain ⟨fs_, hm_, hf⟩ := hf
                obtain ⟨ix_, hi_⟩ := m_ix hm_
                obtain ⟨mc109, ms110, ⟨hc_, hd_⟩, hf⟩ := hf
                refine m_al (va_runV (C := "CoinKeeper$Block") (As := []) (rest := [.long v108]) ⟨hx, hb, hml, hown, hts⟩ (cw_mBl_median l D cy ad mi fu mc109 ms110 q83 M106 _ hf H.size) ⟨q_cB hts gw_778 gw_13 gw_775 hdq_42 ⟨Nat.le_of_ble_eq_true rfl, Nat.le_of_ble_eq_true rfl⟩, hts _ gw_776, hts _ gw_777⟩ (q_preVM (q_preM hP hD hK hSt hT hMi hS (m_free hD hS hA) _) (va_recv hK hP (ci := 1) (q0 := ix_) rfl hi_)) rfl rfl hl.1 rfl (lv_room (Nat.le_of_ble_eq_true rfl)) d_K_refusal_128 ⟨hc_, hd_⟩) hD hS hA (fun v112 M111 H locs hf hP hD hS => ?_)
                have hkc : κ + mc72 + mc79 + mc91 + mc109 ≤ MC := hc_
                have hks : σ + ms73 + ms80 + ms92 + ms110 ≤ MS := hd_
                clear hc_ hd_
                refine W.lcmp hx hb d_K_refusal_131 ?_
                refine lv_if_gt (tgt := 138) hx hb d_K_refusal_132 (by decide) (fun cx => ?_) (fun cx => ?_)
                · have hf := ifpP cx hf
                  refine lv_aload_n hx hb d_K_refusal_138 rfl (lv_at hl 3 rfl) ?_
                  obtain ⟨fs_, hm_, r113, hv_, hf⟩ := hf
                  obtain ⟨ix_, hi_⟩ := m_ix hm_
                  refine va_get (D := D) (ci := 0) (v := va_rf r113) (C := "CoinKeeper") (T := F_0) (N := 13) hx hb hts i_0 hown hK hP ix_ hi_ rfl 6 (by decide) (hts _ gw_506) (fun _ h9 => h9) hv_ d_K_refusal_139 ?_
                  clear hv_ hi_ hm_
                  obtain ⟨q114, rfl, hf⟩ := hf
                  refine W.eq (g2 := F0 m 142 ls [.ref q114]) rfl ?_
                  refine lv_aload_n hx hb d_K_refusal_142 rfl (lv_at hl 3 rfl) ?_
                  obtain ⟨fs_, hm_, r115, hv_, hf⟩ := hf
                  obtain ⟨ix_, hi_⟩ := m_ix hm_
                  refine va_get (D := D) (ci := 0) (v := va_rf r115) (C := "CoinKeeper") (T := F_0) (N := 13) hx hb hts i_0 hown hK hP ix_ hi_ rfl 3 (by decide) (hts _ gw_503) (fun _ h9 => h9) hv_ d_K_refusal_143 ?_
                  clear hv_ hi_ hm_
                  obtain ⟨q116, rfl, hf⟩ := hf
                  refine W.eq (g2 := F0 m 146 ls [.ref q116, .ref q114]) rfl ?_
                  obtain ⟨fs_, hm_, hf⟩ := hf
                  obtain ⟨ix_, hi_⟩ := m_ix hm_
                  obtain ⟨mc117, ms118, ⟨hc_, hd_⟩, hf⟩ := hf
                  refine mm_ai (va_runV (C := "CoinKeeper$Layout") (As := [.ref q116]) (rest := []) ⟨hx, hb, hml, hown, hts⟩ (cw_mLa_rootIsRight l D cy ad mi fu mc117 ms118 q114 q116 M111 _ hf H.size) ⟨q_cB hts gw_782 gw_8 gw_779 hdq_43 ⟨Nat.le_of_ble_eq_true rfl, Nat.le_of_ble_eq_true rfl⟩, hts _ gw_780, hts _ gw_781⟩ (q_preVM (q_preM hP hD hK hSt hT hMi hS (m_free hD hS hA) _) (va_recv hK hP (ci := 4) (q0 := ix_) rfl hi_)) rfl rfl hl.1 rfl (lv_room (Nat.le_of_ble_eq_true rfl)) d_K_refusal_146 ⟨hc_, hd_⟩) hD hS hA (fun v120 M119 H locs hf hP hD hS => ?_)
                  have hkc : κ + mc72 + mc79 + mc91 + mc109 + mc117 ≤ MC := hc_
                  have hks : σ + ms73 + ms80 + ms92 + ms110 + ms118 ≤ MS := hd_
                  clear hc_ hd_
                  refine lv_if_ne (tgt := 155) hx hb d_K_refusal_149 (by decide) (fun cx => ?_) (fun cx => ?_)
                  · have hf := ifnP cx hf
                    refine lv_aload_n hx hb d_K_refusal_155 rfl (lv_at hl 3 rfl) ?_
                    obtain ⟨fs_, hm_, r121, hv_, hf⟩ := hf
                    obtain ⟨ix_, hi_⟩ := m_ix hm_
                    refine va_get (D := D) (ci := 0) (v := va_rf r121) (C := "CoinKeeper") (T := F_0) (N := 13) hx hb hts i_0 hown hK hP ix_ hi_ rfl 6 (by decide) (hts _ gw_506) (fun _ h9 => h9) hv_ d_K_refusal_156 ?_
                    clear hv_ hi_ hm_
                    obtain ⟨q122, rfl, hf⟩ := hf
                    refine W.eq (g2 := F0 m 159 ls [.ref q122]) rfl ?_
                    refine lv_aload_n hx hb d_K_refusal_159 rfl (lv_at hl 2 rfl) ?_
                    obtain ⟨fs_, hm_, v123, hv_, hf⟩ := hf
                    obtain ⟨ix_, hi_⟩ := m_ix hm_
                    refine va_get (D := D) (ci := 1) (v := .int v123) (C := "CoinKeeper$Block") (T := F_1) (N := 12) hx hb hts i_1 hown hK hP ix_ hi_ rfl 4 (by decide) (hts _ gw_401) (fun _ h9 => h9) hv_ d_K_refusal_160 ?_
                    clear hv_ hi_ hm_
                    refine lv_iconst (v := 1) hx hb d_K_refusal_163 (by decide) ?_
                    refine lv_iadd hx hb d_K_refusal_164 ?_
                    refine lv_topi (fun v124 ev => ?_)
                    have hf := bnQ ev hf
                    clear ev
                    refine lv_lload hx hb d_K_refusal_165 (lv_at hl 0 rfl) ?_
                    obtain ⟨b125, b126, b127, b128, b129, b130, b131, b132, b133, b134, c135, c136, c137, c138, c139, c140, c141, c142, c143, c144, c145, c146, c147, c148, c149, c150, hal_, hnd_, v151, hc, hf⟩ := hf
                    refine m_li (va_runV (C := "CoinKeeper$Layout") (As := [.int v124, .long v108]) (rest := []) ⟨hx, hb, hml, hown, hts⟩ (c_La_isSound l D cy ad fu q122 b125 b126 b127 b128 b129 b130 b131 b132 b133 b134 c135 c136 c137 c138 c139 c140 c141 c142 c143 c144 c145 c146 c147 c148 c149 c150 v124 v108 _ hc H.size) ⟨q_cB hts gw_793 gw_8 gw_790 hdq_44 ⟨Nat.le_of_ble_eq_true rfl, Nat.le_of_ble_eq_true rfl⟩, hts _ gw_791, hts _ gw_792⟩ (q_preV (q_pre (m_subP hP hal_) (m_subD hD hal_ hnd_) hK hSt hS (m_lF hD hS hA hal_) _) (va_recv hK (m_subP hP hal_) (ci := 4) (q0 := 0) rfl rfl)) rfl rfl hl.1 rfl (lv_room (Nat.le_of_ble_eq_true rfl)) d_K_refusal_167 ⟨hkc, hks⟩) hP hD hS hA hal_ rfl (fun H locs hP hD hS => ?_)
                    refine W.widen (k := κ + mc72 + mc79 + mc91 + mc109 + mc117) (n := σ + ms73 + ms80 + ms92 + ms110 + ms118) (Nat.le_refl _) (Nat.le_refl _) ?_
                    obtain ⟨M152, eM_, hf⟩ := bnP hf
                    have hP : va_P D classes (mw M152) H := by rw [eM_]; exact hP
                    have hD : va_D A (mw M152) := by rw [eM_]; exact hD
                    clear eM_ hal_ hnd_ hc
                    refine lv_if_eq (tgt := 177) hx hb d_K_refusal_170 (by decide) (fun cx => ?_) (fun cx => ?_)
                    · have hf := ifpP cx hf
                      refine lv_bipush (v := 9) hx hb d_K_refusal_177 (by decide) ?_
                      refine W.widen (k := MC) (n := MS) hkc hks ?_
                      exact m_ri hf hx hb hr hlocks hK hP hD hS d_K_refusal_179
                    · have hf := ifnP cx hf
                      refine lv_iconst (v := 0) hx hb d_K_refusal_173 (by decide) ?_
                      refine lv_goto (tgt := 179) hx hb d_K_refusal_174 (by decide) ?_
                      refine W.widen (k := MC) (n := MS) hkc hks ?_
                      exact m_ri hf hx hb hr hlocks hK hP hD hS d_K_refusal_179
                  · have hf := ifpP cx hf
                    refine lv_bipush (v := 8) hx hb d_K_refusal_152 (by decide) ?_
                    refine W.widen (k := MC) (n := MS) hkc hks ?_
                    exact m_ri hf hx hb hr hlocks hK hP hD hS d_K_refusal_154
                · have hf := ifnP cx hf
                  refine lv_bipush (v := 7) hx hb d_K_refusal_135 (by decide) ?_
                  refine W.widen (k := MC) (n := MS) hkc hks ?_
                  exact m_ri hf hx hb hr hlocks hK hP hD hS d_K_refusal_137
              · have hf := ifnP cx hf
                refine lv_bipush (v := 6) hx hb d_K_refusal_106 (by decide) ?_
                refine W.widen (k := MC) (n := MS) hkc hks ?_
                exact m_ri hf hx hb hr hlocks hK hP hD hS d_K_refusal_108
            · have hf := ifnP cx hf
              refine lv_iconst (v := 5) hx hb d_K_refusal_93 (by decide) ?_
              refine W.widen (k := MC) (n := MS) hkc hks ?_
              exact m_ri hf hx hb hr hlocks hK hP hD hS d_K_refusal_94
          · have hf := ifnP cx hf
            refine lv_iconst (v := 4) hx hb d_K_refusal_73 (by decide) ?_
            refine W.widen (k := MC) (n := MS) hkc hks ?_
            exact m_ri hf hx hb hr hlocks hK hP hD hS d_K_refusal_74
      · refine W.eq (g2 := F0 m 45 ls [.ref q76]) rfl ?_
        refine lv_ifnull hx hb d_K_refusal_45 ?_
        refine lv_iconst (v := 2) hx hb d_K_refusal_48 (by decide) ?_
        refine W.widen (k := MC) (n := MS) hkc hks ?_
        exact m_ri hf hx hb hr hlocks hK hP hD hS d_K_refusal_49
    · have hf := ifnP cx hf
      obtain ⟨b153, b154, b155, c156, c157, c158, c159, c160, c161, c162, c163, c164, hal_, hnd_, c165, c166, c167, c168, c169, c170, hc, hf⟩ := hf
      refine m_lv (va_runV (C := "CoinKeeper$Sha256") (As := [.ref q50, .int (0 : Int32), .int (80 : Int32), .ref q52, .int (0 : Int32)]) (rest := []) ⟨hx, hb, hml, hown, hts⟩ (c_Sh_twice l D cy ad fu q48 b153 b154 b155 q50 q52 c156 c157 c158 (0 : Int32) (80 : Int32) (0 : Int32) c159 c160 c161 c162 c163 c164 _ hc H.size) ⟨q_cB hts gw_707 gw_2 gw_704 hdq_23 ⟨Nat.le_of_ble_eq_true rfl, Nat.le_of_ble_eq_true rfl⟩, hts _ gw_705, hts _ gw_706⟩ (q_preV (q_pre (m_subP hP hal_) (m_subD hD hal_ hnd_) hK hSt hS (m_lF hD hS hA hal_) _) (va_recv hK (m_subP hP hal_) (ci := 9) (q0 := 0) rfl rfl)) rfl rfl hl.1 rfl (lv_room (Nat.le_of_ble_eq_true rfl)) d_K_refusal_33 ⟨hkc, hks⟩) hP hD hS hA hal_ rfl (fun H locs hP hD hS => ?_)
      refine W.widen (k := κ) (n := σ) (Nat.le_refl _) (Nat.le_refl _) ?_
      obtain ⟨M171, eM_, hf⟩ := bnP hf
      have hP : va_P D classes (mw M171) H := by rw [eM_]; exact hP
      have hD : va_D A (mw M171) := by rw [eM_]; exact hD
      clear eM_ hal_ hnd_ hc
      refine lv_aload_n hx hb d_K_refusal_36 rfl (lv_at hl 0 rfl) ?_
      refine lv_aload_n hx hb d_K_refusal_37 rfl (lv_at hl 0 rfl) ?_
      obtain ⟨fs_, hm_, r172, hv_, hf⟩ := hf
      obtain ⟨ix_, hi_⟩ := m_ix hm_
      refine va_get (D := D) (ci := 0) (v := va_rf r172) (C := "CoinKeeper") (T := F_0) (N := 13) hx hb hts i_0 hown hK hP ix_ hi_ rfl 2 (by decide) (hts _ gw_502) (fun _ h9 => h9) hv_ d_K_refusal_38 ?_
      clear hv_ hi_ hm_
      obtain ⟨q173, rfl, hf⟩ := hf
      refine W.eq (g2 := F0 m 41 ls [.ref q173, .ref a0]) rfl ?_
      refine lv_iconst (v := 0) hx hb d_K_refusal_41 (by decide) ?_
      obtain ⟨fs_, hm_, hf⟩ := hf
      obtain ⟨ix_, hi_⟩ := m_ix hm_
      obtain ⟨mc174, ms175, ⟨hc_, hd_⟩, hf⟩ := hf
      refine m_aq (va_runV (C := "CoinKeeper") (As := [.ref q173, .int (0 : Int32)]) (rest := []) ⟨hx, hb, hml, hown, hts⟩ (cw_mK_blockOf l D cy ad mi fu mc174 ms175 a0 q173 (0 : Int32) M171 _ hf H.size) ⟨q_cB hts gw_742 gw_1 gw_739 hdq_28 ⟨Nat.le_of_ble_eq_true rfl, Nat.le_of_ble_eq_true rfl⟩, hts _ gw_741, hts _ gs_12⟩ (q_preVM (q_preM hP hD hK hSt hT hMi hS (m_free hD hS hA) _) (va_recv hK hP (ci := 0) (q0 := ix_) rfl hi_)) rfl rfl hl.1 rfl (lv_room (Nat.le_of_ble_eq_true rfl)) d_K_refusal_42 ⟨hc_, hd_⟩) hD hS hA (fun v177 M176 H locs hf hP hD hS => ?_)
      have hkc : κ + mc174 ≤ MC := hc_
      have hks : σ + ms175 ≤ MS := hd_
      clear hc_ hd_
      have hq_ := ospp hf
      clear hf
      rcases hq_ with ⟨rfl, hf⟩ | ⟨q178, rfl, hf⟩
      · refine W.eq (g2 := F0 m 45 ls [.null]) rfl ?_
        refine lv_ifnullN (tgt := 50) hx hb d_K_refusal_45 (by decide) ?_
        refine lv_aload_n hx hb d_K_refusal_50 rfl (lv_at hl 0 rfl) ?_
        refine lv_aload_n hx hb d_K_refusal_51 rfl (lv_at hl 0 rfl) ?_
        obtain ⟨fs_, hm_, r179, hv_, hf⟩ := hf
        obtain ⟨ix_, hi_⟩ := m_ix hm_
        refine va_get (D := D) (ci := 0) (v := va_rf r179) (C := "CoinKeeper") (T := F_0) (N := 13) hx hb hts i_0 hown hK hP ix_ hi_ rfl 0 (by decide) (hts _ gw_500) (fun _ h9 => h9) hv_ d_K_refusal_52 ?_
        clear hv_ hi_ hm_
        obtain ⟨q180, rfl, hf⟩ := hf
        refine W.eq (g2 := F0 m 55 ls [.ref q180, .ref a0]) rfl ?_
        refine lv_iconst (v := 4) hx hb d_K_refusal_55 (by decide) ?_
        obtain ⟨fs_, hm_, hf⟩ := hf
        obtain ⟨ix_, hi_⟩ := m_ix hm_
        obtain ⟨mc181, ms182, ⟨hc_, hd_⟩, hf⟩ := hf
        refine m_aq (va_runV (C := "CoinKeeper") (As := [.ref q180, .int (4 : Int32)]) (rest := []) ⟨hx, hb, hml, hown, hts⟩ (cw_mK_blockOf l D cy ad mi fu mc181 ms182 a0 q180 (4 : Int32) M176 _ hf H.size) ⟨q_cB hts gw_742 gw_1 gw_739 hdq_28 ⟨Nat.le_of_ble_eq_true rfl, Nat.le_of_ble_eq_true rfl⟩, hts _ gw_741, hts _ gs_12⟩ (q_preVM (q_preM hP hD hK hSt hT hMi hS (m_free hD hS hA) _) (va_recv hK hP (ci := 0) (q0 := ix_) rfl hi_)) rfl rfl hl.1 rfl (lv_room (Nat.le_of_ble_eq_true rfl)) d_K_refusal_56 ⟨hc_, hd_⟩) hD hS hA (fun v184 M183 H locs hf hP hD hS => ?_)
        have hkc : κ + mc174 + mc181 ≤ MC := hc_
        have hks : σ + ms175 + ms182 ≤ MS := hd_
        clear hc_ hd_
        have hq_ := ospp hf
        clear hf
        rcases hq_ with ⟨rfl, hf⟩ | ⟨q185, rfl, hf⟩
        · refine W.eq (g2 := F0 m 59 ls [.null]) rfl ?_
          refine lv_astore_nN (lv' := [(2, .null), (0, .ref a0), (1, .int a1)]) hx hb d_K_refusal_59 rfl hl (by decide) rfl (fun ls hl => ?_)
          refine lv_aload_nN hx hb d_K_refusal_60 rfl (lv_at hl 0 rfl) ?_
          refine lv_ifnonnullN hx hb d_K_refusal_61 ?_
          refine lv_iconst (v := 3) hx hb d_K_refusal_64 (by decide) ?_
          refine W.widen (k := MC) (n := MS) hkc hks ?_
          exact m_ri hf hx hb hr hlocks hK hP hD hS d_K_refusal_65
        · refine W.eq (g2 := F0 m 59 ls [.ref q185]) rfl ?_
          refine lv_astore_n (lv' := [(2, .ref q185), (0, .ref a0), (1, .int a1)]) hx hb d_K_refusal_59 rfl hl (by decide) rfl (fun ls hl => ?_)
          refine lv_aload_n hx hb d_K_refusal_60 rfl (lv_at hl 0 rfl) ?_
          refine lv_ifnonnull (tgt := 66) hx hb d_K_refusal_61 (by decide) ?_
          refine lv_aload_n hx hb d_K_refusal_66 rfl (lv_at hl 0 rfl) ?_
          obtain ⟨fs_, hm_, v186, hv_, hf⟩ := hf
          obtain ⟨ix_, hi_⟩ := m_ix hm_
          refine va_get (D := D) (ci := 1) (v := .int v186) (C := "CoinKeeper$Block") (T := F_1) (N := 12) hx hb hts i_1 hown hK hP ix_ hi_ rfl 9 (by decide) (hts _ gw_409) (fun _ h9 => h9) hv_ d_K_refusal_67 ?_
          clear hv_ hi_ hm_
          refine lv_if_eq (tgt := 75) hx hb d_K_refusal_70 (by decide) (fun cx => ?_) (fun cx => ?_)
          · have hf := ifpP cx hf
            refine lv_aload_n hx hb d_K_refusal_75 rfl (lv_at hl 1 rfl) ?_
            obtain ⟨fs_, hm_, r187, hv_, hf⟩ := hf
            obtain ⟨ix_, hi_⟩ := m_ix hm_
            refine va_get (D := D) (ci := 0) (v := va_rf r187) (C := "CoinKeeper") (T := F_0) (N := 13) hx hb hts i_0 hown hK hP ix_ hi_ rfl 0 (by decide) (hts _ gw_500) (fun _ h9 => h9) hv_ d_K_refusal_76 ?_
            clear hv_ hi_ hm_
            obtain ⟨q188, rfl, hf⟩ := hf
            refine W.eq (g2 := F0 m 79 ls [.ref q188]) rfl ?_
            refine lv_bipush (v := 72) hx hb d_K_refusal_79 (by decide) ?_
            obtain ⟨c189, c190, hal_, hnd_, v191, hc, hf⟩ := hf
            refine m_li (va_runS (As := [.ref q188, .int (72 : Int32)]) (rest := []) ⟨hx, hb, hml, hown, hts⟩ (c_K_word l D cy ad fu q188 c189 c190 (72 : Int32) _ hc H.size) ⟨q_cB hts gw_383 gw_1 gw_747 hdq_16 ⟨Nat.le_of_ble_eq_true rfl, Nat.le_of_ble_eq_true rfl⟩, hts _ gw_382⟩ (q_pre (m_subP hP hal_) (m_subD hD hal_ hnd_) hK hSt hS (m_lF hD hS hA hal_) _) rfl rfl hl.1 rfl (lv_room (Nat.le_of_ble_eq_true rfl)) d_K_refusal_81 ⟨hkc, hks⟩) hP hD hS hA hal_ rfl (fun H locs hP hD hS => ?_)
            refine W.widen (k := κ + mc174 + mc181) (n := σ + ms175 + ms182) (Nat.le_refl _) (Nat.le_refl _) ?_
            obtain ⟨M192, eM_, hf⟩ := bnP hf
            have hP : va_P D classes (mw M192) H := by rw [eM_]; exact hP
            have hD : va_D A (mw M192) := by rw [eM_]; exact hD
            clear eM_ hal_ hnd_ hc
            refine lv_istore_n (lv' := [(3, .int v191), (2, .ref q185), (0, .ref a0), (1, .int a1)]) hx hb d_K_refusal_84 rfl hl (by decide) rfl (fun ls hl => ?_)
            refine lv_iload_n hx hb d_K_refusal_85 rfl (lv_at hl 0 rfl) ?_
            refine lv_aload_n hx hb d_K_refusal_86 rfl (lv_at hl 1 rfl) ?_
            obtain ⟨fs_, hm_, hf⟩ := hf
            obtain ⟨ix_, hi_⟩ := m_ix hm_
            obtain ⟨mc193, ms194, ⟨hc_, hd_⟩, hf⟩ := hf
            refine mm_ai (va_runV (C := "CoinKeeper$Block") (As := []) (rest := [.int v191]) ⟨hx, hb, hml, hown, hts⟩ (cw_mBl_wantedBits l D cy ad mi fu mc193 ms194 q185 M192 _ hf H.size) ⟨q_cB hts gw_751 gw_13 gw_748 hdq_40 ⟨Nat.le_of_ble_eq_true rfl, Nat.le_of_ble_eq_true rfl⟩, hts _ gw_749, hts _ gw_750⟩ (q_preVM (q_preM hP hD hK hSt hT hMi hS (m_free hD hS hA) _) (va_recv hK hP (ci := 1) (q0 := ix_) rfl hi_)) rfl rfl hl.1 rfl (lv_room (Nat.le_of_ble_eq_true rfl)) d_K_refusal_87 ⟨hc_, hd_⟩) hD hS hA (fun v196 M195 H locs hf hP hD hS => ?_)
            have hkc : κ + mc174 + mc181 + mc193 ≤ MC := hc_
            have hks : σ + ms175 + ms182 + ms194 ≤ MS := hd_
            clear hc_ hd_
            refine lv_icmp_eq (tgt := 95) hx hb d_K_refusal_90 (by decide) (fun cx => ?_) (fun cx => ?_)
            · have hf := ifpP cx hf
              refine lv_aload_n hx hb d_K_refusal_95 rfl (lv_at hl 2 rfl) ?_
              obtain ⟨fs_, hm_, r197, hv_, hf⟩ := hf
              obtain ⟨ix_, hi_⟩ := m_ix hm_
              refine va_get (D := D) (ci := 0) (v := va_rf r197) (C := "CoinKeeper") (T := F_0) (N := 13) hx hb hts i_0 hown hK hP ix_ hi_ rfl 2 (by decide) (hts _ gw_502) (fun _ h9 => h9) hv_ d_K_refusal_96 ?_
              clear hv_ hi_ hm_
              obtain ⟨q198, rfl, hf⟩ := hf
              refine W.eq (g2 := F0 m 99 ls [.ref q198]) rfl ?_
              refine lv_iload_n hx hb d_K_refusal_99 rfl (lv_at hl 0 rfl) ?_
              obtain ⟨c199, c200, hal_, hnd_, v201, hc, hf⟩ := hf
              refine m_li (va_runS (As := [.ref q198, .int v191]) (rest := []) ⟨hx, hb, hml, hown, hts⟩ (c_Bl_isAbove l D cy ad fu q198 c199 c200 v191 _ hc H.size) ⟨q_cB hts gw_773 gw_13 gw_771 hdq_41 ⟨Nat.le_of_ble_eq_true rfl, Nat.le_of_ble_eq_true rfl⟩, hts _ gw_772⟩ (q_pre (m_subP hP hal_) (m_subD hD hal_ hnd_) hK hSt hS (m_lF hD hS hA hal_) _) rfl rfl hl.1 rfl (lv_room (Nat.le_of_ble_eq_true rfl)) d_K_refusal_100 ⟨hkc, hks⟩) hP hD hS hA hal_ rfl (fun H locs hP hD hS => ?_)
              refine W.widen (k := κ + mc174 + mc181 + mc193) (n := σ + ms175 + ms182 + ms194) (Nat.le_refl _) (Nat.le_refl _) ?_
              obtain ⟨M202, eM_, hf⟩ := bnP hf
              have hP : va_P D classes (mw M202) H := by rw [eM_]; exact hP
              have hD : va_D A (mw M202) := by rw [eM_]; exact hD
              clear eM_ hal_ hnd_ hc
              refine lv_if_eq (tgt := 109) hx hb d_K_refusal_103 (by decide) (fun cx => ?_) (fun cx => ?_)
              · have hf := ifpP cx hf
                refine lv_aload_n hx hb d_K_refusal_109 rfl (lv_at hl 2 rfl) ?_
                obtain ⟨fs_, hm_, r203, hv_, hf⟩ := hf
                obtain ⟨ix_, hi_⟩ := m_ix hm_
                refine va_get (D := D) (ci := 0) (v := va_rf r203) (C := "CoinKeeper") (T := F_0) (N := 13) hx hb hts i_0 hown hK hP ix_ hi_ rfl 0 (by decide) (hts _ gw_500) (fun _ h9 => h9) hv_ d_K_refusal_110 ?_
                clear hv_ hi_ hm_
                obtain ⟨q204, rfl, hf⟩ := hf
                refine W.eq (g2 := F0 m 113 ls [.ref q204]) rfl ?_
                refine lv_bipush (v := 68) hx hb d_K_refusal_113 (by decide) ?_
                obtain ⟨c205, c206, hal_, hnd_, v207, hc, hf⟩ := hf
                refine m_li (va_runS (As := [.ref q204, .int (68 : Int32)]) (rest := []) ⟨hx, hb, hml, hown, hts⟩ (c_K_word l D cy ad fu q204 c205 c206 (68 : Int32) _ hc H.size) ⟨q_cB hts gw_383 gw_1 gw_747 hdq_16 ⟨Nat.le_of_ble_eq_true rfl, Nat.le_of_ble_eq_true rfl⟩, hts _ gw_382⟩ (q_pre (m_subP hP hal_) (m_subD hD hal_ hnd_) hK hSt hS (m_lF hD hS hA hal_) _) rfl rfl hl.1 rfl (lv_room (Nat.le_of_ble_eq_true rfl)) d_K_refusal_115 ⟨hkc, hks⟩) hP hD hS hA hal_ rfl (fun H locs hP hD hS => ?_)
                refine W.widen (k := κ + mc174 + mc181 + mc193) (n := σ + ms175 + ms182 + ms194) (Nat.le_refl _) (Nat.le_refl _) ?_
                obtain ⟨M208, eM_, hf⟩ := bnP hf
                have hP : va_P D classes (mw M208) H := by rw [eM_]; exact hP
                have hD : va_D A (mw M208) := by rw [eM_]; exact hD
                clear eM_ hal_ hnd_ hc
                refine lv_i2l hx hb d_K_refusal_118 rfl ?_
                refine lv_topl (fun v209 ev => ?_)
                have hf := bnQ ev hf
                clear ev
                refine lv_ldc2 (v := 4294967295) hx hb hown (hts _ gw_774) d_K_refusal_119 ?_
                refine lv_land hx hb d_K_refusal_122 ?_
                refine lv_topl (fun v210 ev => ?_)
                have hf := bnQ ev hf
                clear ev
                refine lv_lstore (lv' := [(4, .long v210), (3, .int v191), (2, .ref q185), (0, .ref a0), (1, .int a1)]) hx hb d_K_refusal_123 hl (by decide) rfl (fun ls hl => ?_)
                refine lv_lload hx hb d_K_refusal_125 (lv_at hl 0 rfl) ?_
                refine lv_aload_n hx hb d_K_refusal_127 rfl (lv_at hl 2 rfl) ?_
                obtain ⟨fs_, hm_, hf⟩ := hf
                obtain ⟨ix_, hi_⟩ := m_ix hm_
                obtain ⟨mc211, ms212, ⟨hc_, hd_⟩, hf⟩ := hf
                refine m_al (va_runV (C := "CoinKeeper$Block") (As := []) (rest := [.long v210]) ⟨hx, hb, hml, hown, hts⟩ (cw_mBl_median l D cy ad mi fu mc211 ms212 q185 M208 _ hf H.size) ⟨q_cB hts gw_778 gw_13 gw_775 hdq_42 ⟨Nat.le_of_ble_eq_true rfl, Nat.le_of_ble_eq_true rfl⟩, hts _ gw_776, hts _ gw_777⟩ (q_preVM (q_preM hP hD hK hSt hT hMi hS (m_free hD hS hA) _) (va_recv hK hP (ci := 1) (q0 := ix_) rfl hi_)) rfl rfl hl.1 rfl (lv_room (Nat.le_of_ble_eq_true rfl)) d_K_refusal_128 ⟨hc_, hd_⟩) hD hS hA (fun v214 M213 H locs hf hP hD hS => ?_)
                have hkc : κ + mc174 + mc181 + mc193 + mc211 ≤ MC := hc_
                have hks : σ + ms175 + ms182 + ms194 + ms212 ≤ MS := hd_
                clear hc_ hd_
                refine W.lcmp hx hb d_K_refusal_131 ?_
                refine lv_if_gt (tgt := 138) hx hb d_K_refusal_132 (by decide) (fun cx => ?_) (fun cx => ?_)
                · have hf := ifpP cx hf
                  refine lv_aload_n hx hb d_K_refusal_138 rfl (lv_at hl 3 rfl) ?_
                  obtain ⟨fs_, hm_, r215, hv_, hf⟩ := hf
                  obtain ⟨ix_, hi_⟩ := m_ix hm_
                  refine va_get (D := D) (ci := 0) (v := va_rf r215) (C := "CoinKeeper") (T := F_0) (N := 13) hx hb hts i_0 hown hK hP ix_ hi_ rfl 6 (by decide) (hts _ gw_506) (fun _ h9 => h9) hv_ d_K_refusal_139 ?_
                  clear hv_ hi_ hm_
                  obtain ⟨q216, rfl, hf⟩ := hf
                  refine W.eq (g2 := F0 m 142 ls [.ref q216]) rfl ?_
                  refine lv_aload_n hx hb d_K_refusal_142 rfl (lv_at hl 3 rfl) ?_
                  obtain ⟨fs_, hm_, r217, hv_, hf⟩ := hf
                  obtain ⟨ix_, hi_⟩ := m_ix hm_
                  refine va_get (D := D) (ci := 0) (v := va_rf r217) (C := "CoinKeeper") (T := F_0) (N := 13) hx hb hts i_0 hown hK hP ix_ hi_ rfl 3 (by decide) (hts _ gw_503) (fun _ h9 => h9) hv_ d_K_refusal_143 ?_
                  clear hv_ hi_ hm_
                  obtain ⟨q218, rfl, hf⟩ := hf
                  refine W.eq (g2 := F0 m 146 ls [.ref q218, .ref q216]) rfl ?_
                  obtain ⟨fs_, hm_, hf⟩ := hf
                  obtain ⟨ix_, hi_⟩ := m_ix hm_
                  obtain ⟨mc219, ms220, ⟨hc_, hd_⟩, hf⟩ := hf
                  refine mm_ai (va_runV (C := "CoinKeeper$Layout") (As := [.ref q218]) (rest := []) ⟨hx, hb, hml, hown, hts⟩ (cw_mLa_rootIsRight l D cy ad mi fu mc219 ms220 q216 q218 M213 _ hf H.size) ⟨q_cB hts gw_782 gw_8 gw_779 hdq_43 ⟨Nat.le_of_ble_eq_true rfl, Nat.le_of_ble_eq_true rfl⟩, hts _ gw_780, hts _ gw_781⟩ (q_preVM (q_preM hP hD hK hSt hT hMi hS (m_free hD hS hA) _) (va_recv hK hP (ci := 4) (q0 := ix_) rfl hi_)) rfl rfl hl.1 rfl (lv_room (Nat.le_of_ble_eq_true rfl)) d_K_refusal_146 ⟨hc_, hd_⟩) hD hS hA (fun v222 M221 H locs hf hP hD hS => ?_)
                  have hkc : κ + mc174 + mc181 + mc193 + mc211 + mc219 ≤ MC := hc_
                  have hks : σ + ms175 + ms182 + ms194 + ms212 + ms220 ≤ MS := hd_
                  clear hc_ hd_
                  refine lv_if_ne (tgt := 155) hx hb d_K_refusal_149 (by decide) (fun cx => ?_) (fun cx => ?_)
                  · have hf := ifnP cx hf
                    refine lv_aload_n hx hb d_K_refusal_155 rfl (lv_at hl 3 rfl) ?_
                    obtain ⟨fs_, hm_, r223, hv_, hf⟩ := hf
                    obtain ⟨ix_, hi_⟩ := m_ix hm_
                    refine va_get (D := D) (ci := 0) (v := va_rf r223) (C := "CoinKeeper") (T := F_0) (N := 13) hx hb hts i_0 hown hK hP ix_ hi_ rfl 6 (by decide) (hts _ gw_506) (fun _ h9 => h9) hv_ d_K_refusal_156 ?_
                    clear hv_ hi_ hm_
                    obtain ⟨q224, rfl, hf⟩ := hf
                    refine W.eq (g2 := F0 m 159 ls [.ref q224]) rfl ?_
                    refine lv_aload_n hx hb d_K_refusal_159 rfl (lv_at hl 2 rfl) ?_
                    obtain ⟨fs_, hm_, v225, hv_, hf⟩ := hf
                    obtain ⟨ix_, hi_⟩ := m_ix hm_
                    refine va_get (D := D) (ci := 1) (v := .int v225) (C := "CoinKeeper$Block") (T := F_1) (N := 12) hx hb hts i_1 hown hK hP ix_ hi_ rfl 4 (by decide) (hts _ gw_401) (fun _ h9 => h9) hv_ d_K_refusal_160 ?_
                    clear hv_ hi_ hm_
                    refine lv_iconst (v := 1) hx hb d_K_refusal_163 (by decide) ?_
                    refine lv_iadd hx hb d_K_refusal_164 ?_
                    refine lv_topi (fun v226 ev => ?_)
                    have hf := bnQ ev hf
                    clear ev
                    refine lv_lload hx hb d_K_refusal_165 (lv_at hl 0 rfl) ?_
                    obtain ⟨b227, b228, b229, b230, b231, b232, b233, b234, b235, b236, c237, c238, c239, c240, c241, c242, c243, c244, c245, c246, c247, c248, c249, c250, c251, c252, hal_, hnd_, v253, hc, hf⟩ := hf
                    refine m_li (va_runV (C := "CoinKeeper$Layout") (As := [.int v226, .long v210]) (rest := []) ⟨hx, hb, hml, hown, hts⟩ (c_La_isSound l D cy ad fu q224 b227 b228 b229 b230 b231 b232 b233 b234 b235 b236 c237 c238 c239 c240 c241 c242 c243 c244 c245 c246 c247 c248 c249 c250 c251 c252 v226 v210 _ hc H.size) ⟨q_cB hts gw_793 gw_8 gw_790 hdq_44 ⟨Nat.le_of_ble_eq_true rfl, Nat.le_of_ble_eq_true rfl⟩, hts _ gw_791, hts _ gw_792⟩ (q_preV (q_pre (m_subP hP hal_) (m_subD hD hal_ hnd_) hK hSt hS (m_lF hD hS hA hal_) _) (va_recv hK (m_subP hP hal_) (ci := 4) (q0 := 0) rfl rfl)) rfl rfl hl.1 rfl (lv_room (Nat.le_of_ble_eq_true rfl)) d_K_refusal_167 ⟨hkc, hks⟩) hP hD hS hA hal_ rfl (fun H locs hP hD hS => ?_)
                    refine W.widen (k := κ + mc174 + mc181 + mc193 + mc211 + mc219) (n := σ + ms175 + ms182 + ms194 + ms212 + ms220) (Nat.le_refl _) (Nat.le_refl _) ?_
                    obtain ⟨M254, eM_, hf⟩ := bnP hf
                    have hP : va_P D classes (mw M254) H := by rw [eM_]; exact hP
                    have hD : va_D A (mw M254) := by rw [eM_]; exact hD
                    clear eM_ hal_ hnd_ hc
                    refine lv_if_eq (tgt := 177) hx hb d_K_refusal_170 (by decide) (fun cx => ?_) (fun cx => ?_)
                    · have hf := ifpP cx hf
                      refine lv_bipush (v := 9) hx hb d_K_refusal_177 (by decide) ?_
                      refine W.widen (k := MC) (n := MS) hkc hks ?_
                      exact m_ri hf hx hb hr hlocks hK hP hD hS d_K_refusal_179
                    · have hf := ifnP cx hf
                      refine lv_iconst (v := 0) hx hb d_K_refusal_173 (by decide) ?_
                      refine lv_goto (tgt := 179) hx hb d_K_refusal_174 (by decide) ?_
                      refine W.widen (k := MC) (n := MS) hkc hks ?_
                      exact m_ri hf hx hb hr hlocks hK hP hD hS d_K_refusal_179
                  · have hf := ifpP cx hf
                    refine lv_bipush (v := 8) hx hb d_K_refusal_152 (by decide) ?_
                    refine W.widen (k := MC) (n := MS) hkc hks ?_
                    exact m_ri hf hx hb hr hlocks hK hP hD hS d_K_refusal_154
                · have hf := ifnP cx hf
                  refine lv_bipush (v := 7) hx hb d_K_refusal_135 (by decide) ?_
                  refine W.widen (k := MC) (n := MS) hkc hks ?_
                  exact m_ri hf hx hb hr hlocks hK hP hD hS d_K_refusal_137
              · have hf := ifnP cx hf
                refine lv_bipush (v := 6) hx hb d_K_refusal_106 (by decide) ?_
                refine W.widen (k := MC) (n := MS) hkc hks ?_
                exact m_ri hf hx hb hr hlocks hK hP hD hS d_K_refusal_108
            · have hf := ifnP cx hf
              refine lv_iconst (v := 5) hx hb d_K_refusal_93 (by decide) ?_
              refine W.widen (k := MC) (n := MS) hkc hks ?_
              exact m_ri hf hx hb hr hlocks hK hP hD hS d_K_refusal_94
          · have hf := ifnP cx hf
            refine lv_iconst (v := 4) hx hb d_K_refusal_73 (by decide) ?_
            refine W.widen (k := MC) (n := MS) hkc hks ?_
            exact m_ri hf hx hb hr hlocks hK hP hD hS d_K_refusal_74
      · refine W.eq (g2 := F0 m 45 ls [.ref q178]) rfl ?_
        refine lv_ifnull hx hb d_K_refusal_45 ?_
        refine lv_iconst (v := 2) hx hb d_K_refusal_48 (by decide) ?_
        refine W.widen (k := MC) (n := MS) hkc hks ?_
        exact m_ri hf hx hb hr hlocks hK hP hD hS d_K_refusal_49
  · have hf := ifpP cx hf
    refine lv_iconst (v := 1) hx hb d_K_refusal_15 (by decide) ?_
    refine W.widen (k := MC) (n := MS) hkc hks ?_
    exact m_ri hf hx hb hr hlocks hK hP hD hS d_K_refusal_16
theorem cw_mK_refusal (l : Launch) (D : va_G) (cy : Nat → ClassId) (ad : Nat → Nat) (mi fu MC MS : Nat) (a0 : Nat) (a1 : Int32) (M : Mm) (Φ : Int32 → Mm → Prop) (hf : xw_mK_refusal fu MC MS cy ad mi Φ 0 0 M a0 a1) (sz : Nat) : Met l ({ cls := "CoinKeeper", name := "refusal", desc := "(I)I" } : Jvm.MethodName) (.code ({ cls := "CoinKeeper", name := "refusal", desc := "(I)I" } : Jvm.MethodName) b_K_refusal 6 (some .int) :: gw) (rmw_mK_refusal MC MS) (va_Pc [.ref a0, .int a1] (PrM D cy ad mi (mw M) sz)) (va_Qi Φ (fun u t => Po D cy (va_A (mw M) sz) (mw u) t) (va_A (mw M) sz)) MC MS (va_A (mw M) sz) :=
  q_metM (Qc := fun A => va_Qi Φ (fun u t => Po D cy A (mw u) t) A) (by decide) rfl rfl (Nat.le_of_ble_eq_true rfl) (fun p e s m below meth c ls F hP hD hS hl => wew_mK_refusal (fu := fu) F 0 0 M a0 a1 hf (Nat.zero_le _) (Nat.zero_le _) _ _ _ hP hD hS hl) sz
abbrev b_K_tip : ByteArray := prog_1_method_7_code
theorem d_K_tip_0 : decode b_K_tip 0 = .ok (.iload_n 1, 1) := by decide +kernel
theorem d_K_tip_1 : decode b_K_tip 1 = .ok (.ifCond .lt 9, 3) := by decide +kernel
theorem d_K_tip_4 : decode b_K_tip 4 = .ok (.iload_n 1, 1) := by decide +kernel
theorem d_K_tip_5 : decode b_K_tip 5 = .ok (.bipush 11, 2) := by decide +kernel
theorem d_K_tip_7 : decode b_K_tip 7 = .ok (.if_icmp .le 11, 3) := by decide +kernel
theorem d_K_tip_10 : decode b_K_tip 10 = .ok (.new 90, 3) := by decide +kernel
theorem d_K_tip_13 : decode b_K_tip 13 = .ok (.dup, 1) := by decide +kernel
theorem d_K_tip_14 : decode b_K_tip 14 = .ok (.invokespecial 92, 3) := by decide +kernel
theorem d_K_tip_17 : decode b_K_tip 17 = .ok (.athrow, 1) := by decide +kernel
theorem d_K_tip_18 : decode b_K_tip 18 = .ok (.iload_n 1, 1) := by decide +kernel
theorem d_K_tip_19 : decode b_K_tip 19 = .ok (.bipush 8, 2) := by decide +kernel
theorem d_K_tip_21 : decode b_K_tip 21 = .ok (.if_icmp .ge 17, 3) := by decide +kernel
theorem d_K_tip_24 : decode b_K_tip 24 = .ok (.aload_n 0, 1) := by decide +kernel
theorem d_K_tip_25 : decode b_K_tip 25 = .ok (.getfield 71, 3) := by decide +kernel
theorem d_K_tip_28 : decode b_K_tip 28 = .ok (.getfield 170, 3) := by decide +kernel
theorem d_K_tip_31 : decode b_K_tip 31 = .ok (.iconst 4, 1) := by decide +kernel
theorem d_K_tip_32 : decode b_K_tip 32 = .ok (.iload_n 1, 1) := by decide +kernel
theorem d_K_tip_33 : decode b_K_tip 33 = .ok (.imul, 1) := by decide +kernel
theorem d_K_tip_34 : decode b_K_tip 34 = .ok (.invokestatic 166, 3) := by decide +kernel
theorem d_K_tip_37 : decode b_K_tip 37 = .ok (.ireturn, 1) := by decide +kernel
theorem d_K_tip_38 : decode b_K_tip 38 = .ok (.iload_n 1, 1) := by decide +kernel
theorem d_K_tip_39 : decode b_K_tip 39 = .ok (.bipush 8, 2) := by decide +kernel
theorem d_K_tip_41 : decode b_K_tip 41 = .ok (.if_icmp .ne 11, 3) := by decide +kernel
theorem d_K_tip_44 : decode b_K_tip 44 = .ok (.aload_n 0, 1) := by decide +kernel
theorem d_K_tip_45 : decode b_K_tip 45 = .ok (.getfield 71, 3) := by decide +kernel
theorem d_K_tip_48 : decode b_K_tip 48 = .ok (.getfield 123, 3) := by decide +kernel
theorem d_K_tip_51 : decode b_K_tip 51 = .ok (.ireturn, 1) := by decide +kernel
theorem d_K_tip_52 : decode b_K_tip 52 = .ok (.iload_n 1, 1) := by decide +kernel
theorem d_K_tip_53 : decode b_K_tip 53 = .ok (.bipush 9, 2) := by decide +kernel
theorem d_K_tip_55 : decode b_K_tip 55 = .ok (.if_icmp .ne 12, 3) := by decide +kernel
theorem d_K_tip_58 : decode b_K_tip 58 = .ok (.aload_n 0, 1) := by decide +kernel
theorem d_K_tip_59 : decode b_K_tip 59 = .ok (.getfield 71, 3) := by decide +kernel
theorem d_K_tip_62 : decode b_K_tip 62 = .ok (.getfield 171, 3) := by decide +kernel
theorem d_K_tip_65 : decode b_K_tip 65 = .ok (.l2i, 1) := by decide +kernel
theorem d_K_tip_66 : decode b_K_tip 66 = .ok (.ireturn, 1) := by decide +kernel
theorem d_K_tip_67 : decode b_K_tip 67 = .ok (.iload_n 1, 1) := by decide +kernel
theorem d_K_tip_68 : decode b_K_tip 68 = .ok (.bipush 10, 2) := by decide +kernel
theorem d_K_tip_70 : decode b_K_tip 70 = .ok (.if_icmp .ne 13, 3) := by decide +kernel
theorem d_K_tip_73 : decode b_K_tip 73 = .ok (.aload_n 0, 1) := by decide +kernel
theorem d_K_tip_74 : decode b_K_tip 74 = .ok (.getfield 71, 3) := by decide +kernel
theorem d_K_tip_77 : decode b_K_tip 77 = .ok (.getfield 174, 3) := by decide +kernel
theorem d_K_tip_80 : decode b_K_tip 80 = .ok (.goto 10, 3) := by decide +kernel
theorem d_K_tip_83 : decode b_K_tip 83 = .ok (.aload_n 0, 1) := by decide +kernel
theorem d_K_tip_84 : decode b_K_tip 84 = .ok (.getfield 71, 3) := by decide +kernel
theorem d_K_tip_87 : decode b_K_tip 87 = .ok (.invokevirtual 177, 3) := by decide +kernel
theorem d_K_tip_90 : decode b_K_tip 90 = .ok (.ireturn, 1) := by decide +kernel
abbrev rmw_mK_tip (MC MS : Nat) : Room := { frames := 2, cells := MC, slots := MS, locals := 48 }
def Iw_mK_tip_10 (p : Program) (l : Launch) (e : Env) (s : State) (m : MethodId) (args : Array Value) (below : List Frame) (meth : Method) (c : Code) (D : va_G) (cy : Nat → ClassId) (A : Nat → Prop) (ad : Nat → Nat) (mi MC MS : Nat) (Φ : Int32 → Mm → Prop) (k : Nat → Nat → Mm → Prop) : Prop :=
  ∀ (κ σ : Nat) (M : Mm), k κ σ M → κ ≤ MC → σ ≤ MS → ∀ (H : Heap) (locs : List Loc) (ls : Array Slot), va_P D classes (mw M) H → va_D A (mw M) → va_S A s.heap H locs → lv_has ls 2 [] → W p l e (rmw_mK_tip MC MS) s m args below meth c H locs κ σ (MQ below (va_Qi Φ (fun u t => Po D cy A (mw u) t) A) args s MC MS A) (F0 m 10 ls [])
def Iw_mK_tip_e (p : Program) (l : Launch) (e : Env) (s : State) (m : MethodId) (args : Array Value) (below : List Frame) (meth : Method) (c : Code) (D : va_G) (cy : Nat → ClassId) (A : Nat → Prop) (ad : Nat → Nat) (mi MC MS : Nat) (Φ : Int32 → Mm → Prop) (k : Nat → Nat → Mm → Nat → Int32 → Prop) : Prop :=
  ∀ (κ σ : Nat) (M : Mm) (a0 : Nat) (a1 : Int32), k κ σ M a0 a1 → κ ≤ MC → σ ≤ MS → ∀ (H : Heap) (locs : List Loc) (ls : Array Slot), va_P D classes (mw M) H → va_D A (mw M) → va_S A s.heap H locs → lv_has ls 2 [(0, .ref a0), (1, .int a1)] → W p l e (rmw_mK_tip MC MS) s m args below meth c H locs κ σ (MQ below (va_Qi Φ (fun u t => Po D cy A (mw u) t) A) args s MC MS A) (F0 m 0 ls [])
set_option maxHeartbeats 8000000 in
set_option maxRecDepth 100000 in
theorem wv_mK_tip_10 {p : Program} {l : Launch} {e : Env} {s : State} {m : MethodId} {args : Array Value} {below : List Frame} {meth : Method} {c : Code} {D : va_G} {cy : Nat → ClassId} {A : Nat → Prop} {ad : Nat → Nat} {mi MC MS : Nat} {Φ : Int32 → Mm → Prop} {fu : Nat} (F : FxM p s m args meth c b_K_tip 2 "CoinKeeper" "tip" (some .int) D cy ad mi A) : Iw_mK_tip_10 p l e s m args below meth c D cy A ad mi MC MS Φ (xv_mK_tip_10 fu MC MS cy ad mi Φ) := by
  obtain ⟨⟨hx, hb, hr, hml, hown, hts, hlocks, hK, hA, hSt, hnm, hex⟩, hT, hMi⟩ := id F
  intro κ σ M hf hkc hks H locs ls hP hD hS hl
  unfold xv_mK_tip_10 at hf
  exact hf.elim
set_option maxHeartbeats 8000000 in
set_option maxRecDepth 100000 in
theorem wew_mK_tip {p : Program} {l : Launch} {e : Env} {s : State} {m : MethodId} {args : Array Value} {below : List Frame} {meth : Method} {c : Code} {D : va_G} {cy : Nat → ClassId} {A : Nat → Prop} {ad : Nat → Nat} {mi MC MS : Nat} {Φ : Int32 → Mm → Prop} {fu : Nat} (F : FxM p s m args meth c b_K_tip 2 "CoinKeeper" "tip" (some .int) D cy ad mi A) : Iw_mK_tip_e p l e s m args below meth c D cy A ad mi MC MS Φ (xw_mK_tip fu MC MS cy ad mi Φ) := by
  obtain ⟨⟨hx, hb, hr, hml, hown, hts, hlocks, hK, hA, hSt, hnm, hex⟩, hT, hMi⟩ := id F
  intro κ σ M a0 a1 hf hkc hks H locs ls hP hD hS hl
  unfold xw_mK_tip at hf
  refine lv_iload_n hx hb d_K_tip_0 rfl (lv_at hl 1 rfl) ?_
  refine lv_if_lt (tgt := 10) hx hb d_K_tip_1 (by decide) (fun cx => ?_) (fun cx => ?_)
  · have hf := ifpP cx hf
    exact wv_mK_tip_10 (fu := fu) F _ _ _  hf hkc hks _ _ _ hP hD hS (lv_sub hl [] rfl)
  · have hf := ifnP cx hf
    refine lv_iload_n hx hb d_K_tip_4 rfl (lv_at hl 1 rfl) ?_
    refine lv_bipush (v := 11) hx hb d_K_tip_5 (by decide) ?_
    refine lv_icmp_le (tgt := 18) hx hb d_K_tip_7 (by decide) (fun cx => ?_) (fun cx => ?_)
    · have hf := ifpP cx hf
      refine lv_iload_n hx hb d_K_tip_18 rfl (lv_at hl 1 rfl) ?_
      refine lv_bipush (v := 8) hx hb d_K_tip_19 (by decide) ?_
      refine lv_icmp_ge (tgt := 38) hx hb d_K_tip_21 (by decide) (fun cx => ?_) (fun cx => ?_)
      · have hf := ifpP cx hf
        refine lv_iload_n hx hb d_K_tip_38 rfl (lv_at hl 1 rfl) ?_
        refine lv_bipush (v := 8) hx hb d_K_tip_39 (by decide) ?_
        refine lv_icmp_ne (tgt := 52) hx hb d_K_tip_41 (by decide) (fun cx => ?_) (fun cx => ?_)
        · have hf := ifnP cx hf
          refine lv_iload_n hx hb d_K_tip_52 rfl (lv_at hl 1 rfl) ?_
          refine lv_bipush (v := 9) hx hb d_K_tip_53 (by decide) ?_
          refine lv_icmp_ne (tgt := 67) hx hb d_K_tip_55 (by decide) (fun cx => ?_) (fun cx => ?_)
          · have hf := ifnP cx hf
            refine lv_iload_n hx hb d_K_tip_67 rfl (lv_at hl 1 rfl) ?_
            refine lv_bipush (v := 10) hx hb d_K_tip_68 (by decide) ?_
            refine lv_icmp_ne (tgt := 83) hx hb d_K_tip_70 (by decide) (fun cx => ?_) (fun cx => ?_)
            · have hf := ifnP cx hf
              refine lv_aload_n hx hb d_K_tip_83 rfl (lv_at hl 0 rfl) ?_
              obtain ⟨fs_, hm_, r1, hv_, hf⟩ := hf
              obtain ⟨ix_, hi_⟩ := m_ix hm_
              refine va_get (D := D) (ci := 0) (v := va_rf r1) (C := "CoinKeeper") (T := F_0) (N := 13) hx hb hts i_0 hown hK hP ix_ hi_ rfl 10 (by decide) (hts _ gw_510) (fun _ h9 => h9) hv_ d_K_tip_84 ?_
              clear hv_ hi_ hm_
              obtain ⟨q2, rfl, hf⟩ := hf
              refine W.eq (g2 := F0 m 87 ls [.ref q2]) rfl ?_
              obtain ⟨fs_, hm_, hf⟩ := hf
              obtain ⟨ix_, hi_⟩ := m_ix hm_
              obtain ⟨mc3, ms4, ⟨hc_, hd_⟩, hf⟩ := hf
              refine mm_ai (va_runV (C := "CoinKeeper$Block") (As := []) (rest := []) ⟨hx, hb, hml, hown, hts⟩ (cw_mBl_wantedBits l D cy ad mi fu mc3 ms4 q2 M _ hf H.size) ⟨q_cB hts gw_751 gw_13 gw_748 hdq_40 ⟨Nat.le_of_ble_eq_true rfl, Nat.le_of_ble_eq_true rfl⟩, hts _ gw_749, hts _ gw_750⟩ (q_preVM (q_preM hP hD hK hSt hT hMi hS (m_free hD hS hA) _) (va_recv hK hP (ci := 1) (q0 := ix_) rfl hi_)) rfl rfl hl.1 rfl (lv_room (Nat.le_of_ble_eq_true rfl)) d_K_tip_87 ⟨hc_, hd_⟩) hD hS hA (fun v6 M5 H locs hf hP hD hS => ?_)
              have hkc : κ + mc3 ≤ MC := hc_
              have hks : σ + ms4 ≤ MS := hd_
              clear hc_ hd_
              refine W.widen (k := MC) (n := MS) hkc hks ?_
              exact m_ri hf hx hb hr hlocks hK hP hD hS d_K_tip_90
            · have hf := ifpP cx hf
              refine lv_aload_n hx hb d_K_tip_73 rfl (lv_at hl 0 rfl) ?_
              obtain ⟨fs_, hm_, r7, hv_, hf⟩ := hf
              obtain ⟨ix_, hi_⟩ := m_ix hm_
              refine va_get (D := D) (ci := 0) (v := va_rf r7) (C := "CoinKeeper") (T := F_0) (N := 13) hx hb hts i_0 hown hK hP ix_ hi_ rfl 10 (by decide) (hts _ gw_510) (fun _ h9 => h9) hv_ d_K_tip_74 ?_
              clear hv_ hi_ hm_
              obtain ⟨q8, rfl, hf⟩ := hf
              refine W.eq (g2 := F0 m 77 ls [.ref q8]) rfl ?_
              obtain ⟨fs_, hm_, v9, hv_, hf⟩ := hf
              obtain ⟨ix_, hi_⟩ := m_ix hm_
              refine va_get (D := D) (ci := 1) (v := .int v9) (C := "CoinKeeper$Block") (T := F_1) (N := 12) hx hb hts i_1 hown hK hP ix_ hi_ rfl 6 (by decide) (hts _ gw_405) (fun _ h9 => h9) hv_ d_K_tip_77 ?_
              clear hv_ hi_ hm_
              refine lv_goto (tgt := 90) hx hb d_K_tip_80 (by decide) ?_
              refine W.widen (k := MC) (n := MS) hkc hks ?_
              exact m_ri hf hx hb hr hlocks hK hP hD hS d_K_tip_90
          · have hf := ifpP cx hf
            refine lv_aload_n hx hb d_K_tip_58 rfl (lv_at hl 0 rfl) ?_
            obtain ⟨fs_, hm_, r10, hv_, hf⟩ := hf
            obtain ⟨ix_, hi_⟩ := m_ix hm_
            refine va_get (D := D) (ci := 0) (v := va_rf r10) (C := "CoinKeeper") (T := F_0) (N := 13) hx hb hts i_0 hown hK hP ix_ hi_ rfl 10 (by decide) (hts _ gw_510) (fun _ h9 => h9) hv_ d_K_tip_59 ?_
            clear hv_ hi_ hm_
            obtain ⟨q11, rfl, hf⟩ := hf
            refine W.eq (g2 := F0 m 62 ls [.ref q11]) rfl ?_
            obtain ⟨fs_, hm_, v12, hv_, hf⟩ := hf
            obtain ⟨ix_, hi_⟩ := m_ix hm_
            refine va_get (D := D) (ci := 1) (v := .long v12) (C := "CoinKeeper$Block") (T := F_1) (N := 12) hx hb hts i_1 hown hK hP ix_ hi_ rfl 5 (by decide) (hts _ gw_403) (fun _ h9 => h9) hv_ d_K_tip_62 ?_
            clear hv_ hi_ hm_
            refine lv_l2i hx hb d_K_tip_65 rfl ?_
            refine lv_topi (fun v13 ev => ?_)
            have hf := bnQ ev hf
            clear ev
            refine W.widen (k := MC) (n := MS) hkc hks ?_
            exact m_ri hf hx hb hr hlocks hK hP hD hS d_K_tip_66
        · have hf := ifpP cx hf
          refine lv_aload_n hx hb d_K_tip_44 rfl (lv_at hl 0 rfl) ?_
          obtain ⟨fs_, hm_, r14, hv_, hf⟩ := hf
          obtain ⟨ix_, hi_⟩ := m_ix hm_
          refine va_get (D := D) (ci := 0) (v := va_rf r14) (C := "CoinKeeper") (T := F_0) (N := 13) hx hb hts i_0 hown hK hP ix_ hi_ rfl 10 (by decide) (hts _ gw_510) (fun _ h9 => h9) hv_ d_K_tip_45 ?_
          clear hv_ hi_ hm_
          obtain ⟨q15, rfl, hf⟩ := hf
          refine W.eq (g2 := F0 m 48 ls [.ref q15]) rfl ?_
          obtain ⟨fs_, hm_, v16, hv_, hf⟩ := hf
          obtain ⟨ix_, hi_⟩ := m_ix hm_
          refine va_get (D := D) (ci := 1) (v := .int v16) (C := "CoinKeeper$Block") (T := F_1) (N := 12) hx hb hts i_1 hown hK hP ix_ hi_ rfl 4 (by decide) (hts _ gw_401) (fun _ h9 => h9) hv_ d_K_tip_48 ?_
          clear hv_ hi_ hm_
          refine W.widen (k := MC) (n := MS) hkc hks ?_
          exact m_ri hf hx hb hr hlocks hK hP hD hS d_K_tip_51
      · have hf := ifnP cx hf
        refine lv_aload_n hx hb d_K_tip_24 rfl (lv_at hl 0 rfl) ?_
        obtain ⟨fs_, hm_, r17, hv_, hf⟩ := hf
        obtain ⟨ix_, hi_⟩ := m_ix hm_
        refine va_get (D := D) (ci := 0) (v := va_rf r17) (C := "CoinKeeper") (T := F_0) (N := 13) hx hb hts i_0 hown hK hP ix_ hi_ rfl 10 (by decide) (hts _ gw_510) (fun _ h9 => h9) hv_ d_K_tip_25 ?_
        clear hv_ hi_ hm_
        obtain ⟨q18, rfl, hf⟩ := hf
        refine W.eq (g2 := F0 m 28 ls [.ref q18]) rfl ?_
        obtain ⟨fs_, hm_, r19, hv_, hf⟩ := hf
        obtain ⟨ix_, hi_⟩ := m_ix hm_
        refine va_get (D := D) (ci := 1) (v := va_rf r19) (C := "CoinKeeper$Block") (T := F_1) (N := 12) hx hb hts i_1 hown hK hP ix_ hi_ rfl 2 (by decide) (hts _ gw_396) (fun _ h9 => h9) hv_ d_K_tip_28 ?_
        clear hv_ hi_ hm_
        obtain ⟨q20, rfl, hf⟩ := hf
        refine W.eq (g2 := F0 m 31 ls [.ref q20]) rfl ?_
        refine lv_iconst (v := 4) hx hb d_K_tip_31 (by decide) ?_
        refine lv_iload_n hx hb d_K_tip_32 rfl (lv_at hl 1 rfl) ?_
        refine lv_imul hx hb d_K_tip_33 ?_
        refine lv_topi (fun v21 ev => ?_)
        have hf := bnQ ev hf
        clear ev
        obtain ⟨c22, c23, hal_, hnd_, v24, hc, hf⟩ := hf
        refine m_li (va_runS (As := [.ref q20, .int v21]) (rest := []) ⟨hx, hb, hml, hown, hts⟩ (c_K_word l D cy ad fu q20 c22 c23 v21 _ hc H.size) ⟨q_cB hts gw_383 gw_1 gw_747 hdq_16 ⟨Nat.le_of_ble_eq_true rfl, Nat.le_of_ble_eq_true rfl⟩, hts _ gw_382⟩ (q_pre (m_subP hP hal_) (m_subD hD hal_ hnd_) hK hSt hS (m_lF hD hS hA hal_) _) rfl rfl hl.1 rfl (lv_room (Nat.le_of_ble_eq_true rfl)) d_K_tip_34 ⟨hkc, hks⟩) hP hD hS hA hal_ rfl (fun H locs hP hD hS => ?_)
        refine W.widen (k := κ) (n := σ) (Nat.le_refl _) (Nat.le_refl _) ?_
        obtain ⟨M25, eM_, hf⟩ := bnP hf
        have hP : va_P D classes (mw M25) H := by rw [eM_]; exact hP
        have hD : va_D A (mw M25) := by rw [eM_]; exact hD
        clear eM_ hal_ hnd_ hc
        refine W.widen (k := MC) (n := MS) hkc hks ?_
        exact m_ri hf hx hb hr hlocks hK hP hD hS d_K_tip_37
    · have hf := ifnP cx hf
      exact wv_mK_tip_10 (fu := fu) F _ _ _  hf hkc hks _ _ _ hP hD hS (lv_sub hl [] rfl)
theorem cw_mK_tip (l : Launch) (D : va_G) (cy : Nat → ClassId) (ad : Nat → Nat) (mi fu MC MS : Nat) (a0 : Nat) (a1 : Int32) (M : Mm) (Φ : Int32 → Mm → Prop) (hf : xw_mK_tip fu MC MS cy ad mi Φ 0 0 M a0 a1) (sz : Nat) : Met l ({ cls := "CoinKeeper", name := "tip", desc := "(I)I" } : Jvm.MethodName) (.code ({ cls := "CoinKeeper", name := "tip", desc := "(I)I" } : Jvm.MethodName) b_K_tip 2 (some .int) :: gw) (rmw_mK_tip MC MS) (va_Pc [.ref a0, .int a1] (PrM D cy ad mi (mw M) sz)) (va_Qi Φ (fun u t => Po D cy (va_A (mw M) sz) (mw u) t) (va_A (mw M) sz)) MC MS (va_A (mw M) sz) :=
  q_metM (Qc := fun A => va_Qi Φ (fun u t => Po D cy A (mw u) t) A) (by decide) rfl rfl (Nat.le_of_ble_eq_true rfl) (fun p e s m below meth c ls F hP hD hS hl => wew_mK_tip (fu := fu) F 0 0 M a0 a1 hf (Nat.zero_le _) (Nat.zero_le _) _ _ _ hP hD hS hl) sz
abbrev b_K_count : ByteArray := prog_1_method_9_code
theorem d_K_count_0 : decode b_K_count 0 = .ok (.iload_n 1, 1) := by decide +kernel
theorem d_K_count_1 : decode b_K_count 1 = .ok (.ifCond .lt 8, 3) := by decide +kernel
theorem d_K_count_4 : decode b_K_count 4 = .ok (.iload_n 1, 1) := by decide +kernel
theorem d_K_count_5 : decode b_K_count 5 = .ok (.iconst 5, 1) := by decide +kernel
theorem d_K_count_6 : decode b_K_count 6 = .ok (.if_icmp .le 11, 3) := by decide +kernel
theorem d_K_count_9 : decode b_K_count 9 = .ok (.new 90, 3) := by decide +kernel
theorem d_K_count_12 : decode b_K_count 12 = .ok (.dup, 1) := by decide +kernel
theorem d_K_count_13 : decode b_K_count 13 = .ok (.invokespecial 92, 3) := by decide +kernel
theorem d_K_count_16 : decode b_K_count 16 = .ok (.athrow, 1) := by decide +kernel
theorem d_K_count_17 : decode b_K_count 17 = .ok (.iload_n 1, 1) := by decide +kernel
theorem d_K_count_18 : decode b_K_count 18 = .ok (.ifCond .ne 14, 3) := by decide +kernel
theorem d_K_count_21 : decode b_K_count 21 = .ok (.aload_n 0, 1) := by decide +kernel
theorem d_K_count_22 : decode b_K_count 22 = .ok (.getfield 56, 3) := by decide +kernel
theorem d_K_count_25 : decode b_K_count 25 = .ok (.invokevirtual 93, 3) := by decide +kernel
theorem d_K_count_28 : decode b_K_count 28 = .ok (.iconst 1, 1) := by decide +kernel
theorem d_K_count_29 : decode b_K_count 29 = .ok (.isub, 1) := by decide +kernel
theorem d_K_count_30 : decode b_K_count 30 = .ok (.i2l, 1) := by decide +kernel
theorem d_K_count_31 : decode b_K_count 31 = .ok (.lreturn, 1) := by decide +kernel
theorem d_K_count_32 : decode b_K_count 32 = .ok (.iload_n 1, 1) := by decide +kernel
theorem d_K_count_33 : decode b_K_count 33 = .ok (.iconst 1, 1) := by decide +kernel
theorem d_K_count_34 : decode b_K_count 34 = .ok (.if_icmp .ne 9, 3) := by decide +kernel
theorem d_K_count_37 : decode b_K_count 37 = .ok (.aload_n 0, 1) := by decide +kernel
theorem d_K_count_38 : decode b_K_count 38 = .ok (.invokevirtual 190, 3) := by decide +kernel
theorem d_K_count_41 : decode b_K_count 41 = .ok (.i2l, 1) := by decide +kernel
theorem d_K_count_42 : decode b_K_count 42 = .ok (.lreturn, 1) := by decide +kernel
theorem d_K_count_43 : decode b_K_count 43 = .ok (.iload_n 1, 1) := by decide +kernel
theorem d_K_count_44 : decode b_K_count 44 = .ok (.iconst 2, 1) := by decide +kernel
theorem d_K_count_45 : decode b_K_count 45 = .ok (.if_icmp .ne 12, 3) := by decide +kernel
theorem d_K_count_48 : decode b_K_count 48 = .ok (.aload_n 0, 1) := by decide +kernel
theorem d_K_count_49 : decode b_K_count 49 = .ok (.getfield 49, 3) := by decide +kernel
theorem d_K_count_52 : decode b_K_count 52 = .ok (.invokevirtual 193, 3) := by decide +kernel
theorem d_K_count_55 : decode b_K_count 55 = .ok (.i2l, 1) := by decide +kernel
theorem d_K_count_56 : decode b_K_count 56 = .ok (.lreturn, 1) := by decide +kernel
theorem d_K_count_57 : decode b_K_count 57 = .ok (.iload_n 1, 1) := by decide +kernel
theorem d_K_count_58 : decode b_K_count 58 = .ok (.iconst 3, 1) := by decide +kernel
theorem d_K_count_59 : decode b_K_count 59 = .ok (.if_icmp .ne 11, 3) := by decide +kernel
theorem d_K_count_62 : decode b_K_count 62 = .ok (.aload_n 0, 1) := by decide +kernel
theorem d_K_count_63 : decode b_K_count 63 = .ok (.getfield 49, 3) := by decide +kernel
theorem d_K_count_66 : decode b_K_count 66 = .ok (.invokevirtual 194, 3) := by decide +kernel
theorem d_K_count_69 : decode b_K_count 69 = .ok (.lreturn, 1) := by decide +kernel
theorem d_K_count_70 : decode b_K_count 70 = .ok (.iload_n 1, 1) := by decide +kernel
theorem d_K_count_71 : decode b_K_count 71 = .ok (.iconst 4, 1) := by decide +kernel
theorem d_K_count_72 : decode b_K_count 72 = .ok (.if_icmp .ne 13, 3) := by decide +kernel
theorem d_K_count_75 : decode b_K_count 75 = .ok (.aload_n 0, 1) := by decide +kernel
theorem d_K_count_76 : decode b_K_count 76 = .ok (.getfield 71, 3) := by decide +kernel
theorem d_K_count_79 : decode b_K_count 79 = .ok (.getfield 109, 3) := by decide +kernel
theorem d_K_count_82 : decode b_K_count 82 = .ok (.goto 8, 3) := by decide +kernel
theorem d_K_count_85 : decode b_K_count 85 = .ok (.aload_n 0, 1) := by decide +kernel
theorem d_K_count_86 : decode b_K_count 86 = .ok (.getfield 79, 3) := by decide +kernel
theorem d_K_count_89 : decode b_K_count 89 = .ok (.i2l, 1) := by decide +kernel
theorem d_K_count_90 : decode b_K_count 90 = .ok (.lreturn, 1) := by decide +kernel
abbrev rmw_mK_count (MC MS : Nat) : Room := { frames := 4, cells := MC, slots := MS, locals := 87 }
def Iw_mK_count_9 (p : Program) (l : Launch) (e : Env) (s : State) (m : MethodId) (args : Array Value) (below : List Frame) (meth : Method) (c : Code) (D : va_G) (cy : Nat → ClassId) (A : Nat → Prop) (ad : Nat → Nat) (mi MC MS : Nat) (Φ : Int64 → Mm → Prop) (k : Nat → Nat → Mm → Prop) : Prop :=
  ∀ (κ σ : Nat) (M : Mm), k κ σ M → κ ≤ MC → σ ≤ MS → ∀ (H : Heap) (locs : List Loc) (ls : Array Slot), va_P D classes (mw M) H → va_D A (mw M) → va_S A s.heap H locs → lv_has ls 2 [] → W p l e (rmw_mK_count MC MS) s m args below meth c H locs κ σ (MQ below (va_Ql Φ (fun u t => Po D cy A (mw u) t) A) args s MC MS A) (F0 m 9 ls [])
def Iw_mK_count_e (p : Program) (l : Launch) (e : Env) (s : State) (m : MethodId) (args : Array Value) (below : List Frame) (meth : Method) (c : Code) (D : va_G) (cy : Nat → ClassId) (A : Nat → Prop) (ad : Nat → Nat) (mi MC MS : Nat) (Φ : Int64 → Mm → Prop) (k : Nat → Nat → Mm → Nat → Int32 → Prop) : Prop :=
  ∀ (κ σ : Nat) (M : Mm) (a0 : Nat) (a1 : Int32), k κ σ M a0 a1 → κ ≤ MC → σ ≤ MS → ∀ (H : Heap) (locs : List Loc) (ls : Array Slot), va_P D classes (mw M) H → va_D A (mw M) → va_S A s.heap H locs → lv_has ls 2 [(0, .ref a0), (1, .int a1)] → W p l e (rmw_mK_count MC MS) s m args below meth c H locs κ σ (MQ below (va_Ql Φ (fun u t => Po D cy A (mw u) t) A) args s MC MS A) (F0 m 0 ls [])
set_option maxHeartbeats 8000000 in
set_option maxRecDepth 100000 in
theorem wv_mK_count_9 {p : Program} {l : Launch} {e : Env} {s : State} {m : MethodId} {args : Array Value} {below : List Frame} {meth : Method} {c : Code} {D : va_G} {cy : Nat → ClassId} {A : Nat → Prop} {ad : Nat → Nat} {mi MC MS : Nat} {Φ : Int64 → Mm → Prop} {fu : Nat} (F : FxM p s m args meth c b_K_count 2 "CoinKeeper" "count" (some .long) D cy ad mi A) : Iw_mK_count_9 p l e s m args below meth c D cy A ad mi MC MS Φ (xv_mK_count_9 fu MC MS cy ad mi Φ) := by
  obtain ⟨⟨hx, hb, hr, hml, hown, hts, hlocks, hK, hA, hSt, hnm, hex⟩, hT, hMi⟩ := id F
  intro κ σ M hf hkc hks H locs ls hP hD hS hl
  unfold xv_mK_count_9 at hf
  exact hf.elim
theorem hdq_45 : ({ cls := "CoinKeeper$Ledger", name := "values", desc := "()J" } : Jvm.MethodName).cls ≠ "java/lang/invoke/MethodHandle" ∧ ({ cls := "CoinKeeper$Ledger", name := "values", desc := "()J" } : Jvm.MethodName).cls ≠ "java/lang/invoke/VarHandle" ∧ (parseMethodDescriptor ({ cls := "CoinKeeper$Ledger", name := "values", desc := "()J" } : Jvm.MethodName).desc).map (fun d => d.parameters.length) = some 0 := by decide +kernel
theorem hdq_46 : ({ cls := "CoinKeeper$Ledger", name := "size", desc := "()I" } : Jvm.MethodName).cls ≠ "java/lang/invoke/MethodHandle" ∧ ({ cls := "CoinKeeper$Ledger", name := "size", desc := "()I" } : Jvm.MethodName).cls ≠ "java/lang/invoke/VarHandle" ∧ (parseMethodDescriptor ({ cls := "CoinKeeper$Ledger", name := "size", desc := "()I" } : Jvm.MethodName).desc).map (fun d => d.parameters.length) = some 0 := by decide +kernel
theorem hdq_47 : ({ cls := "CoinKeeper", name := "badBlocks", desc := "()I" } : Jvm.MethodName).cls ≠ "java/lang/invoke/MethodHandle" ∧ ({ cls := "CoinKeeper", name := "badBlocks", desc := "()I" } : Jvm.MethodName).cls ≠ "java/lang/invoke/VarHandle" ∧ (parseMethodDescriptor ({ cls := "CoinKeeper", name := "badBlocks", desc := "()I" } : Jvm.MethodName).desc).map (fun d => d.parameters.length) = some 0 := by decide +kernel
set_option maxHeartbeats 8000000 in
set_option maxRecDepth 100000 in
theorem wew_mK_count {p : Program} {l : Launch} {e : Env} {s : State} {m : MethodId} {args : Array Value} {below : List Frame} {meth : Method} {c : Code} {D : va_G} {cy : Nat → ClassId} {A : Nat → Prop} {ad : Nat → Nat} {mi MC MS : Nat} {Φ : Int64 → Mm → Prop} {fu : Nat} (F : FxM p s m args meth c b_K_count 2 "CoinKeeper" "count" (some .long) D cy ad mi A) : Iw_mK_count_e p l e s m args below meth c D cy A ad mi MC MS Φ (xw_mK_count fu MC MS cy ad mi Φ) := by
  obtain ⟨⟨hx, hb, hr, hml, hown, hts, hlocks, hK, hA, hSt, hnm, hex⟩, hT, hMi⟩ := id F
  intro κ σ M a0 a1 hf hkc hks H locs ls hP hD hS hl
  unfold xw_mK_count at hf
  refine lv_iload_n hx hb d_K_count_0 rfl (lv_at hl 1 rfl) ?_
  refine lv_if_lt (tgt := 9) hx hb d_K_count_1 (by decide) (fun cx => ?_) (fun cx => ?_)
  · have hf := ifpP cx hf
    exact wv_mK_count_9 (fu := fu) F _ _ _  hf hkc hks _ _ _ hP hD hS (lv_sub hl [] rfl)
  · have hf := ifnP cx hf
    refine lv_iload_n hx hb d_K_count_4 rfl (lv_at hl 1 rfl) ?_
    refine lv_iconst (v := 5) hx hb d_K_count_5 (by decide) ?_
    refine lv_icmp_le (tgt := 17) hx hb d_K_count_6 (by decide) (fun cx => ?_) (fun cx => ?_)
    · have hf := ifpP cx hf
      refine lv_iload_n hx hb d_K_count_17 rfl (lv_at hl 1 rfl) ?_
      refine lv_if_ne (tgt := 32) hx hb d_K_count_18 (by decide) (fun cx => ?_) (fun cx => ?_)
      · have hf := ifnP cx hf
        refine lv_iload_n hx hb d_K_count_32 rfl (lv_at hl 1 rfl) ?_
        refine lv_iconst (v := 1) hx hb d_K_count_33 (by decide) ?_
        refine lv_icmp_ne (tgt := 43) hx hb d_K_count_34 (by decide) (fun cx => ?_) (fun cx => ?_)
        · have hf := ifnP cx hf
          refine lv_iload_n hx hb d_K_count_43 rfl (lv_at hl 1 rfl) ?_
          refine lv_iconst (v := 2) hx hb d_K_count_44 (by decide) ?_
          refine lv_icmp_ne (tgt := 57) hx hb d_K_count_45 (by decide) (fun cx => ?_) (fun cx => ?_)
          · have hf := ifnP cx hf
            refine lv_iload_n hx hb d_K_count_57 rfl (lv_at hl 1 rfl) ?_
            refine lv_iconst (v := 3) hx hb d_K_count_58 (by decide) ?_
            refine lv_icmp_ne (tgt := 70) hx hb d_K_count_59 (by decide) (fun cx => ?_) (fun cx => ?_)
            · have hf := ifnP cx hf
              refine lv_iload_n hx hb d_K_count_70 rfl (lv_at hl 1 rfl) ?_
              refine lv_iconst (v := 4) hx hb d_K_count_71 (by decide) ?_
              refine lv_icmp_ne (tgt := 85) hx hb d_K_count_72 (by decide) (fun cx => ?_) (fun cx => ?_)
              · have hf := ifnP cx hf
                refine lv_aload_n hx hb d_K_count_85 rfl (lv_at hl 0 rfl) ?_
                obtain ⟨fs_, hm_, v1, hv_, hf⟩ := hf
                obtain ⟨ix_, hi_⟩ := m_ix hm_
                refine va_get (D := D) (ci := 0) (v := .int v1) (C := "CoinKeeper") (T := F_0) (N := 13) hx hb hts i_0 hown hK hP ix_ hi_ rfl 1 (by decide) (hts _ gw_501) (fun _ h9 => h9) hv_ d_K_count_86 ?_
                clear hv_ hi_ hm_
                refine lv_i2l hx hb d_K_count_89 rfl ?_
                refine lv_topl (fun v2 ev => ?_)
                have hf := bnQ ev hf
                clear ev
                refine W.widen (k := MC) (n := MS) hkc hks ?_
                exact m_rl hf hx hb hr hlocks hK hP hD hS d_K_count_90
              · have hf := ifpP cx hf
                refine lv_aload_n hx hb d_K_count_75 rfl (lv_at hl 0 rfl) ?_
                obtain ⟨fs_, hm_, r3, hv_, hf⟩ := hf
                obtain ⟨ix_, hi_⟩ := m_ix hm_
                refine va_get (D := D) (ci := 0) (v := va_rf r3) (C := "CoinKeeper") (T := F_0) (N := 13) hx hb hts i_0 hown hK hP ix_ hi_ rfl 10 (by decide) (hts _ gw_510) (fun _ h9 => h9) hv_ d_K_count_76 ?_
                clear hv_ hi_ hm_
                obtain ⟨q4, rfl, hf⟩ := hf
                refine W.eq (g2 := F0 m 79 ls [.ref q4]) rfl ?_
                obtain ⟨fs_, hm_, v5, hv_, hf⟩ := hf
                obtain ⟨ix_, hi_⟩ := m_ix hm_
                refine va_get (D := D) (ci := 1) (v := .long v5) (C := "CoinKeeper$Block") (T := F_1) (N := 12) hx hb hts i_1 hown hK hP ix_ hi_ rfl 7 (by decide) (hts _ gw_407) (fun _ h9 => h9) hv_ d_K_count_79 ?_
                clear hv_ hi_ hm_
                refine lv_goto (tgt := 90) hx hb d_K_count_82 (by decide) ?_
                refine W.widen (k := MC) (n := MS) hkc hks ?_
                exact m_rl hf hx hb hr hlocks hK hP hD hS d_K_count_90
            · have hf := ifpP cx hf
              refine lv_aload_n hx hb d_K_count_62 rfl (lv_at hl 0 rfl) ?_
              obtain ⟨fs_, hm_, r6, hv_, hf⟩ := hf
              obtain ⟨ix_, hi_⟩ := m_ix hm_
              refine va_get (D := D) (ci := 0) (v := va_rf r6) (C := "CoinKeeper") (T := F_0) (N := 13) hx hb hts i_0 hown hK hP ix_ hi_ rfl 7 (by decide) (hts _ gw_507) (fun _ h9 => h9) hv_ d_K_count_63 ?_
              clear hv_ hi_ hm_
              obtain ⟨q7, rfl, hf⟩ := hf
              refine W.eq (g2 := F0 m 66 ls [.ref q7]) rfl ?_
              obtain ⟨fs_, hm_, hf⟩ := hf
              obtain ⟨ix_, hi_⟩ := m_ix hm_
              obtain ⟨mc8, ms9, ⟨hc_, hd_⟩, hf⟩ := hf
              refine m_al (va_runV (C := "CoinKeeper$Ledger") (As := []) (rest := []) ⟨hx, hb, hml, hown, hts⟩ (cw_mLe_values l D cy ad mi fu mc8 ms9 q7 M _ hf H.size) ⟨q_cB hts gw_1347 gw_9 gw_1344 hdq_45 ⟨Nat.le_of_ble_eq_true rfl, Nat.le_of_ble_eq_true rfl⟩, hts _ gw_1345, hts _ gw_1346⟩ (q_preVM (q_preM hP hD hK hSt hT hMi hS (m_free hD hS hA) _) (va_recv hK hP (ci := 5) (q0 := ix_) rfl hi_)) rfl rfl hl.1 rfl (lv_room (Nat.le_of_ble_eq_true rfl)) d_K_count_66 ⟨hc_, hd_⟩) hD hS hA (fun v11 M10 H locs hf hP hD hS => ?_)
              have hkc : κ + mc8 ≤ MC := hc_
              have hks : σ + ms9 ≤ MS := hd_
              clear hc_ hd_
              refine W.widen (k := MC) (n := MS) hkc hks ?_
              exact m_rl hf hx hb hr hlocks hK hP hD hS d_K_count_69
          · have hf := ifpP cx hf
            refine lv_aload_n hx hb d_K_count_48 rfl (lv_at hl 0 rfl) ?_
            obtain ⟨fs_, hm_, r12, hv_, hf⟩ := hf
            obtain ⟨ix_, hi_⟩ := m_ix hm_
            refine va_get (D := D) (ci := 0) (v := va_rf r12) (C := "CoinKeeper") (T := F_0) (N := 13) hx hb hts i_0 hown hK hP ix_ hi_ rfl 7 (by decide) (hts _ gw_507) (fun _ h9 => h9) hv_ d_K_count_49 ?_
            clear hv_ hi_ hm_
            obtain ⟨q13, rfl, hf⟩ := hf
            refine W.eq (g2 := F0 m 52 ls [.ref q13]) rfl ?_
            obtain ⟨fs_, hm_, hf⟩ := hf
            obtain ⟨ix_, hi_⟩ := m_ix hm_
            obtain ⟨mc14, ms15, ⟨hc_, hd_⟩, hf⟩ := hf
            refine mm_ai (va_runV (C := "CoinKeeper$Ledger") (As := []) (rest := []) ⟨hx, hb, hml, hown, hts⟩ (cw_mLe_size l D cy ad mi fu mc14 ms15 q13 M _ hf H.size) ⟨q_cB hts gw_1343 gw_9 gw_1340 hdq_46 ⟨Nat.le_of_ble_eq_true rfl, Nat.le_of_ble_eq_true rfl⟩, hts _ gw_1341, hts _ gw_1342⟩ (q_preVM (q_preM hP hD hK hSt hT hMi hS (m_free hD hS hA) _) (va_recv hK hP (ci := 5) (q0 := ix_) rfl hi_)) rfl rfl hl.1 rfl (lv_room (Nat.le_of_ble_eq_true rfl)) d_K_count_52 ⟨hc_, hd_⟩) hD hS hA (fun v17 M16 H locs hf hP hD hS => ?_)
            have hkc : κ + mc14 ≤ MC := hc_
            have hks : σ + ms15 ≤ MS := hd_
            clear hc_ hd_
            refine lv_i2l hx hb d_K_count_55 rfl ?_
            refine lv_topl (fun v18 ev => ?_)
            have hf := bnQ ev hf
            clear ev
            refine W.widen (k := MC) (n := MS) hkc hks ?_
            exact m_rl hf hx hb hr hlocks hK hP hD hS d_K_count_56
        · have hf := ifpP cx hf
          refine lv_aload_n hx hb d_K_count_37 rfl (lv_at hl 0 rfl) ?_
          obtain ⟨fs_, hm_, hf⟩ := hf
          obtain ⟨ix_, hi_⟩ := m_ix hm_
          obtain ⟨mc19, ms20, ⟨hc_, hd_⟩, hf⟩ := hf
          refine mm_ai (va_runV (C := "CoinKeeper") (As := []) (rest := []) ⟨hx, hb, hml, hown, hts⟩ (cw_mK_badBlocks l D cy ad mi fu mc19 ms20 a0 M _ hf H.size) ⟨q_cB hts gw_1339 gw_1 gw_1336 hdq_47 ⟨Nat.le_of_ble_eq_true rfl, Nat.le_of_ble_eq_true rfl⟩, hts _ gw_1338, hts _ gs_60⟩ (q_preVM (q_preM hP hD hK hSt hT hMi hS (m_free hD hS hA) _) (va_recv hK hP (ci := 0) (q0 := ix_) rfl hi_)) rfl rfl hl.1 rfl (lv_room (Nat.le_of_ble_eq_true rfl)) d_K_count_38 ⟨hc_, hd_⟩) hD hS hA (fun v22 M21 H locs hf hP hD hS => ?_)
          have hkc : κ + mc19 ≤ MC := hc_
          have hks : σ + ms20 ≤ MS := hd_
          clear hc_ hd_
          refine lv_i2l hx hb d_K_count_41 rfl ?_
          refine lv_topl (fun v23 ev => ?_)
          have hf := bnQ ev hf
          clear ev
          refine W.widen (k := MC) (n := MS) hkc hks ?_
          exact m_rl hf hx hb hr hlocks hK hP hD hS d_K_count_42
      · have hf := ifpP cx hf
        refine lv_aload_n hx hb d_K_count_21 rfl (lv_at hl 0 rfl) ?_
        obtain ⟨fs_, hm_, r24, hv_, hf⟩ := hf
        obtain ⟨ix_, hi_⟩ := m_ix hm_
        refine va_get (D := D) (ci := 0) (v := va_rf r24) (C := "CoinKeeper") (T := F_0) (N := 13) hx hb hts i_0 hown hK hP ix_ hi_ rfl 8 (by decide) (hts _ gw_508) (fun _ h9 => h9) hv_ d_K_count_22 ?_
        clear hv_ hi_ hm_
        obtain ⟨q25, rfl, hf⟩ := hf
        refine W.eq (g2 := F0 m 25 ls [.ref q25]) rfl ?_
        obtain ⟨fs_, hm_, hf⟩ := hf
        obtain ⟨ix_, hi_⟩ := m_ix hm_
        obtain ⟨mc26, ms27, ⟨hc_, hd_⟩, hf⟩ := hf
        refine mm_ai (va_runV (C := "java/util/ArrayList") (As := []) (rest := []) ⟨hx, hb, hml, hown, hts⟩ (cw_mAl_size l D cy ad mi fu mc26 ms27 q25 M _ hf H.size) ⟨q_cB hts gw_551 gw_12 gw_673 hdq_13 ⟨Nat.le_of_ble_eq_true rfl, Nat.le_of_ble_eq_true rfl⟩, hts _ gw_549, hts _ gw_550⟩ (q_preVM (q_preM hP hD hK hSt hT hMi hS (m_free hD hS hA) _) (va_recv hK hP (ci := 11) (q0 := ix_) rfl hi_)) rfl rfl hl.1 rfl (lv_room (Nat.le_of_ble_eq_true rfl)) d_K_count_25 ⟨hc_, hd_⟩) hD hS hA (fun v29 M28 H locs hf hP hD hS => ?_)
        have hkc : κ + mc26 ≤ MC := hc_
        have hks : σ + ms27 ≤ MS := hd_
        clear hc_ hd_
        refine lv_iconst (v := 1) hx hb d_K_count_28 (by decide) ?_
        refine lv_isub hx hb d_K_count_29 ?_
        refine lv_i2l hx hb d_K_count_30 rfl ?_
        refine lv_topl (fun v30 ev => ?_)
        have hf := bnQ ev hf
        clear ev
        refine W.widen (k := MC) (n := MS) hkc hks ?_
        exact m_rl hf hx hb hr hlocks hK hP hD hS d_K_count_31
    · have hf := ifnP cx hf
      exact wv_mK_count_9 (fu := fu) F _ _ _  hf hkc hks _ _ _ hP hD hS (lv_sub hl [] rfl)
theorem cw_mK_count (l : Launch) (D : va_G) (cy : Nat → ClassId) (ad : Nat → Nat) (mi fu MC MS : Nat) (a0 : Nat) (a1 : Int32) (M : Mm) (Φ : Int64 → Mm → Prop) (hf : xw_mK_count fu MC MS cy ad mi Φ 0 0 M a0 a1) (sz : Nat) : Met l ({ cls := "CoinKeeper", name := "count", desc := "(I)J" } : Jvm.MethodName) (.code ({ cls := "CoinKeeper", name := "count", desc := "(I)J" } : Jvm.MethodName) b_K_count 2 (some .long) :: gw) (rmw_mK_count MC MS) (va_Pc [.ref a0, .int a1] (PrM D cy ad mi (mw M) sz)) (va_Ql Φ (fun u t => Po D cy (va_A (mw M) sz) (mw u) t) (va_A (mw M) sz)) MC MS (va_A (mw M) sz) :=
  q_metM (Qc := fun A => va_Ql Φ (fun u t => Po D cy A (mw u) t) A) (by decide) rfl rfl (Nat.le_of_ble_eq_true rfl) (fun p e s m below meth c ls F hP hD hS hl => wew_mK_count (fu := fu) F 0 0 M a0 a1 hf (Nat.zero_le _) (Nat.zero_le _) _ _ _ hP hD hS hl) sz
abbrev b_K_digest : ByteArray := prog_1_method_10_code
theorem d_K_digest_0 : decode b_K_digest 0 = .ok (.aload_n 0, 1) := by decide +kernel
theorem d_K_digest_1 : decode b_K_digest 1 = .ok (.getfield 49, 3) := by decide +kernel
theorem d_K_digest_4 : decode b_K_digest 4 = .ok (.invokevirtual 198, 3) := by decide +kernel
theorem d_K_digest_7 : decode b_K_digest 7 = .ok (.lreturn, 1) := by decide +kernel
abbrev rmw_mK_digest (MC MS : Nat) : Room := { frames := 4, cells := MC, slots := MS, locals := 90 }
def Iw_mK_digest_e (p : Program) (l : Launch) (e : Env) (s : State) (m : MethodId) (args : Array Value) (below : List Frame) (meth : Method) (c : Code) (D : va_G) (cy : Nat → ClassId) (A : Nat → Prop) (ad : Nat → Nat) (mi MC MS : Nat) (Φ : Int64 → Mm → Prop) (k : Nat → Nat → Mm → Nat → Prop) : Prop :=
  ∀ (κ σ : Nat) (M : Mm) (a0 : Nat), k κ σ M a0 → κ ≤ MC → σ ≤ MS → ∀ (H : Heap) (locs : List Loc) (ls : Array Slot), va_P D classes (mw M) H → va_D A (mw M) → va_S A s.heap H locs → lv_has ls 1 [(0, .ref a0)] → W p l e (rmw_mK_digest MC MS) s m args below meth c H locs κ σ (MQ below (va_Ql Φ (fun u t => Po D cy A (mw u) t) A) args s MC MS A) (F0 m 0 ls [])
theorem hdq_48 : ({ cls := "CoinKeeper$Ledger", name := "sum", desc := "()J" } : Jvm.MethodName).cls ≠ "java/lang/invoke/MethodHandle" ∧ ({ cls := "CoinKeeper$Ledger", name := "sum", desc := "()J" } : Jvm.MethodName).cls ≠ "java/lang/invoke/VarHandle" ∧ (parseMethodDescriptor ({ cls := "CoinKeeper$Ledger", name := "sum", desc := "()J" } : Jvm.MethodName).desc).map (fun d => d.parameters.length) = some 0 := by decide +kernel
set_option maxHeartbeats 8000000 in
set_option maxRecDepth 100000 in
theorem wew_mK_digest {p : Program} {l : Launch} {e : Env} {s : State} {m : MethodId} {args : Array Value} {below : List Frame} {meth : Method} {c : Code} {D : va_G} {cy : Nat → ClassId} {A : Nat → Prop} {ad : Nat → Nat} {mi MC MS : Nat} {Φ : Int64 → Mm → Prop} {fu : Nat} (F : FxM p s m args meth c b_K_digest 1 "CoinKeeper" "digest" (some .long) D cy ad mi A) : Iw_mK_digest_e p l e s m args below meth c D cy A ad mi MC MS Φ (xw_mK_digest fu MC MS cy ad mi Φ) := by
  obtain ⟨⟨hx, hb, hr, hml, hown, hts, hlocks, hK, hA, hSt, hnm, hex⟩, hT, hMi⟩ := id F
  intro κ σ M a0 hf hkc hks H locs ls hP hD hS hl
  unfold xw_mK_digest at hf
  refine lv_aload_n hx hb d_K_digest_0 rfl (lv_at hl 0 rfl) ?_
  obtain ⟨fs_, hm_, r1, hv_, hf⟩ := hf
  obtain ⟨ix_, hi_⟩ := m_ix hm_
  refine va_get (D := D) (ci := 0) (v := va_rf r1) (C := "CoinKeeper") (T := F_0) (N := 13) hx hb hts i_0 hown hK hP ix_ hi_ rfl 7 (by decide) (hts _ gw_507) (fun _ h9 => h9) hv_ d_K_digest_1 ?_
  clear hv_ hi_ hm_
  obtain ⟨q2, rfl, hf⟩ := hf
  refine W.eq (g2 := F0 m 4 ls [.ref q2]) rfl ?_
  obtain ⟨fs_, hm_, hf⟩ := hf
  obtain ⟨ix_, hi_⟩ := m_ix hm_
  obtain ⟨mc3, ms4, ⟨hc_, hd_⟩, hf⟩ := hf
  refine m_al (va_runV (C := "CoinKeeper$Ledger") (As := []) (rest := []) ⟨hx, hb, hml, hown, hts⟩ (cw_mLe_sum l D cy ad mi fu mc3 ms4 q2 M _ hf H.size) ⟨q_cB hts gw_547 gw_9 gw_544 hdq_48 ⟨Nat.le_of_ble_eq_true rfl, Nat.le_of_ble_eq_true rfl⟩, hts _ gw_545, hts _ gw_546⟩ (q_preVM (q_preM hP hD hK hSt hT hMi hS (m_free hD hS hA) _) (va_recv hK hP (ci := 5) (q0 := ix_) rfl hi_)) rfl rfl hl.1 rfl (lv_room (Nat.le_of_ble_eq_true rfl)) d_K_digest_4 ⟨hc_, hd_⟩) hD hS hA (fun v6 M5 H locs hf hP hD hS => ?_)
  have hkc : κ + mc3 ≤ MC := hc_
  have hks : σ + ms4 ≤ MS := hd_
  clear hc_ hd_
  refine W.widen (k := MC) (n := MS) hkc hks ?_
  exact m_rl hf hx hb hr hlocks hK hP hD hS d_K_digest_7
theorem cw_mK_digest (l : Launch) (D : va_G) (cy : Nat → ClassId) (ad : Nat → Nat) (mi fu MC MS : Nat) (a0 : Nat) (M : Mm) (Φ : Int64 → Mm → Prop) (hf : xw_mK_digest fu MC MS cy ad mi Φ 0 0 M a0) (sz : Nat) : Met l ({ cls := "CoinKeeper", name := "digest", desc := "()J" } : Jvm.MethodName) (.code ({ cls := "CoinKeeper", name := "digest", desc := "()J" } : Jvm.MethodName) b_K_digest 1 (some .long) :: gw) (rmw_mK_digest MC MS) (va_Pc [.ref a0] (PrM D cy ad mi (mw M) sz)) (va_Ql Φ (fun u t => Po D cy (va_A (mw M) sz) (mw u) t) (va_A (mw M) sz)) MC MS (va_A (mw M) sz) :=
  q_metM (Qc := fun A => va_Ql Φ (fun u t => Po D cy A (mw u) t) A) (by decide) rfl rfl (Nat.le_of_ble_eq_true rfl) (fun p e s m below meth c ls F hP hD hS hl => wew_mK_digest (fu := fu) F 0 0 M a0 hf (Nat.zero_le _) (Nat.zero_le _) _ _ _ hP hD hS hl) sz
