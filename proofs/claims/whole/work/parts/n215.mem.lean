set_option maxRecDepth 100000 in
def xb_5 (fu : Nat) (cy : Nat → ClassId) (ad : Nat → Nat) (mi L : Nat) (xs : Nat → Int32) (k_23 : Nat → Nat → Mm → Nat → Nat → Nat → Int32 → Prop) (κ σ : Nat) (M : Mm) (x1 : Nat) (x2 : Nat) (x3 : Nat) (x4 : Int32) : Prop :=
  bnd (x4 + (1 : Int32)) fun v335 => gdP (inb v335 L) <| bnd (xs v335.toNatClampNeg) fun v336 => ∃ mc337 ms338 : Nat, (κ + mc337 ≤ 601024 ∧ σ + ms338 ≤ 7293034) ∧ xw_mL_tip fu mc337 ms338 cy ad mi (fun v340 M339 => bnd (x4 + (1 : Int32)) fun v341 => gdP (inb v341 L) <| bnd (xs v341.toNatClampNeg) fun v342 => ∃ (b343 : Nat → Nat) (c344 : Nat → Int32) (c345 : Nat → Int32) (c346 : Nat → Int32) (c347 : Nat → Int32) (c348 : Nat → Int32) (c349 : Nat → Int32) (c350 : Nat → Int32) (c351 : Nat → Int32), mal M339 [(x2, .inr (12, mo b343 c349)), ((b343 3), .inl (cy 1, 202, .inl c344)), ((b343 4), .inl (cy 1, 202, .inl c345)), ((b343 5), .inl (cy 1, 202, .inl c346)), ((b343 6), .inl (cy 1, 202, .inl c347)), ((b343 9), .inl (cy 1, 1616, .inl c348)), ((b343 38), .inl (cy 1, 8, .inl c350)), ((b343 44), .inl (cy 1, 8, .inl c351))] ∧ mnd (List.map (fun x : Nat × va_E => x.1) [(x2, .inr (12, mo b343 c349)), ((b343 3), .inl (cy 1, 202, .inl c344)), ((b343 4), .inl (cy 1, 202, .inl c345)), ((b343 5), .inl (cy 1, 202, .inl c346)), ((b343 6), .inl (cy 1, 202, .inl c347)), ((b343 9), .inl (cy 1, 1616, .inl c348)), ((b343 38), .inl (cy 1, 8, .inl c350)), ((b343 44), .inl (cy 1, 8, .inl c351))]) ∧ ∃ (v352 : Int32) (c353 : Nat → Int32) (c354 : Nat → Int32) (c355 : Nat → Int32), x_M_tip fu c344 c345 c346 c347 c348 v342 c349 c350 c351 = some (v352, c353, c354, c355) ∧ bnd (mov M339 [(x2, .inr (12, mo b343 c353)), ((b343 3), .inl (cy 1, 202, .inl c344)), ((b343 4), .inl (cy 1, 202, .inl c345)), ((b343 5), .inl (cy 1, 202, .inl c346)), ((b343 6), .inl (cy 1, 202, .inl c347)), ((b343 9), .inl (cy 1, 1616, .inl c348)), ((b343 38), .inl (cy 1, 8, .inl c354)), ((b343 44), .inl (cy 1, 8, .inl c355))]) fun M356 => ∃ (b357 : Nat → Nat) (c358 : Nat → Int32), mal M356 [(x2, .inr (12, mo b357 c358))] ∧ mnd (List.map (fun x : Nat × va_E => x.1) [(x2, .inr (12, mo b357 c358))]) ∧ ∃ (v359 : Int32), x_M_thrown fu c358 = some (v359) ∧ bnd (mov M356 [(x2, .inr (12, mo b357 c358))]) fun M360 => if v359 = v340 then (if v340 = 0 then (maj M360 x3 (cy 2) (0 : Int32) fun v361 => if (lg_cmp v361 v352.toInt64) = 0 then (xv_mlaw_472 fu cy ad mi L xs k_23 (κ + mc337) (σ + ms338) M360 x1 x2 x3 x4) else (False)) else (xv_mlaw_472 fu cy ad mi L xs k_23 (κ + mc337) (σ + ms338) M360 x1 x2 x3 x4)) else (False)) 0 0 M x1 v336 x3
set_option maxHeartbeats 8000000 in
set_option maxRecDepth 100000 in
theorem wb_5 {p : Program} {l : Launch} {e : Env} {s : State} {m : MethodId} {below : List Frame} {meth : Method} {c : Code} {D : va_G} {cy : Nat → ClassId} {A : Nat → Prop} {ad : Nat → Nat} {mi b L : Nat} {xs : Nat → Int32} {fu : Nat} {k_23 : Nat → Nat → Mm → Nat → Nat → Nat → Int32 → Prop} (F : FxL p l s m meth c D cy ad mi A b L xs) (hk_23 : Iw_mlaw_23 p l e s m below meth c D cy A ad mi b L xs k_23) (κ σ : Nat) (M : Mm) (x1 : Nat) (x2 : Nat) (x3 : Nat) (x4 : Int32) (hf : xb_5 fu cy ad mi L xs k_23 κ σ M x1 x2 x3 x4) (hkc : κ ≤ 601024) (hks : σ ≤ 7293034) (H : Heap) (locs : List Loc) (ls : Array Slot) (hP : va_P D classes (mw M) H) (hD : va_D A (mw M)) (hS : va_S A s.heap H locs) (hl : lv_has ls 8 [(0, .ref b), (1, .ref x1), (2, .ref x2), (3, .ref x3), (4, .int x4)]) : W p l e room_1 s m #[Value.ref b] below meth c H locs κ σ (lw_Z below #[Value.ref b] s) (F0 m 419 ls []) := by
  obtain ⟨hlt, hx, hb, hr, hml, hown, hts, hlocks, hK, hA, hSt, hT, hMi, hX, hbl, hbA, hNC, hfo⟩ := id F
  unfold xb_5 at hf
  refine lv_aload_n hx hb d_law_419 rfl (lv_at hl 1 rfl) ?_
  refine lv_aload_n hx hb d_law_420 rfl (lv_at hl 0 rfl) ?_
  refine lv_iload hx hb d_law_421 (lv_at hl 4 rfl) ?_
  refine lv_iconst (v := 1) hx hb d_law_423 (by decide) ?_
  refine lv_iadd hx hb d_law_424 ?_
  refine lv_topi (fun v335 ev => ?_)
  have hf := bnQ ev hf
  clear ev
  obtain ⟨hg, hf⟩ := hf
  refine va_sld hx hb hX hbl hbA hS (inb_in hg) d_law_425 ?_
  refine lv_topi (fun v336 ev => ?_)
  have hf := bnQ ev hf
  clear ev
  refine lv_aload_n hx hb d_law_426 rfl (lv_at hl 3 rfl) ?_
  obtain ⟨mc337, ms338, ⟨hc_, hd_⟩, hf⟩ := hf
  refine mm_ai (q_runSW (As := [.ref x1, .int v336, .ref x3]) (rest := []) ⟨hx, hb, hml, hown, hts⟩ (cw_mL_tip l hlt D cy ad mi fu mc337 ms338 x1 v336 x3 M _ hf H.size) gw_1301 gw_0 gw_1299 gw_1300 hdu_11 ⟨Nat.le_of_ble_eq_true rfl, Nat.le_of_ble_eq_true rfl⟩ rfl rfl (q_preM hP hD hK hSt hT hMi hS (m_free hD hS hA) _) rfl hl.1 (Nat.le_of_ble_eq_true rfl) d_law_427 ⟨hc_, hd_⟩) hD hS hA (fun v340 M339 H locs hf hP hD hS => ?_)
  have hkc : κ + mc337 ≤ 601024 := hc_
  have hks : σ + ms338 ≤ 7293034 := hd_
  clear hc_ hd_
  refine lv_istore (lv' := [(5, .int v340), (0, .ref b), (1, .ref x1), (2, .ref x2), (3, .ref x3), (4, .int x4)]) hx hb d_law_430 hl (by decide) rfl (fun ls hl => ?_)
  refine lv_aload_n hx hb d_law_432 rfl (lv_at hl 3 rfl) ?_
  refine lv_aload_n hx hb d_law_433 rfl (lv_at hl 1 rfl) ?_
  refine lv_iload hx hb d_law_434 (lv_at hl 5 rfl) ?_
  refine lv_iconst (v := 1) hx hb d_law_436 (by decide) ?_
  refine lv_iadd hx hb d_law_437 ?_
  refine lv_topi (fun v341 ev => ?_)
  have hf := bnQ ev hf
  clear ev
  obtain ⟨hg, hf⟩ := hf
  refine va_sld hx hb hX hbl hbA hS (inb_in hg) d_law_438 ?_
  refine lv_topi (fun v342 ev => ?_)
  have hf := bnQ ev hf
  clear ev
  obtain ⟨b343, c344, c345, c346, c347, c348, c349, c350, c351, hal_, hnd_, v352, c353, c354, c355, hc, hf⟩ := hf
  refine m_li (va_runV (C := "CoinKeeperModel") (As := [.int v342]) (rest := []) ⟨hx, hb, hml, hown, hts⟩ (c_M_tip l D cy ad fu x2 b343 c344 c345 c346 c347 c348 v342 c349 c350 c351 _ hc H.size) ⟨q_cB hts gw_2048 gw_18 gw_2045 hdu_12 ⟨Nat.le_of_ble_eq_true rfl, Nat.le_of_ble_eq_true rfl⟩, hts _ gw_2046, hts _ gw_2047⟩ (q_preV (q_pre (m_subP hP hal_) (m_subD hD hal_ hnd_) hK hSt hS (m_lF hD hS hA hal_) _) (va_recv hK (m_subP hP hal_) (ci := 12) (q0 := 0) rfl rfl)) rfl rfl hl.1 rfl (lv_room (Nat.le_of_ble_eq_true rfl)) d_law_439 ⟨hkc, hks⟩) hP hD hS hA hal_ rfl (fun H locs hP hD hS => ?_)
  refine W.widen (k := κ + mc337) (n := σ + ms338) (Nat.le_refl _) (Nat.le_refl _) ?_
  obtain ⟨M356, eM_, hf⟩ := bnP hf
  have hP : va_P D classes (mw M356) H := by rw [eM_]; exact hP
  have hD : va_D A (mw M356) := by rw [eM_]; exact hD
  clear eM_ hal_ hnd_ hc
  refine lv_istore (lv' := [(6, .int v352), (5, .int v340), (0, .ref b), (1, .ref x1), (2, .ref x2), (3, .ref x3), (4, .int x4)]) hx hb d_law_442 hl (by decide) rfl (fun ls hl => ?_)
  refine lv_aload_n hx hb d_law_444 rfl (lv_at hl 4 rfl) ?_
  obtain ⟨b357, c358, hal_, hnd_, v359, hc, hf⟩ := hf
  refine m_li (va_runV (C := "CoinKeeperModel") (As := []) (rest := []) ⟨hx, hb, hml, hown, hts⟩ (c_M_thrown l D cy ad fu x2 b357 c358 _ hc H.size) ⟨q_cB hts gw_1717 gw_18 gw_1714 hdu_2 ⟨Nat.le_of_ble_eq_true rfl, Nat.le_of_ble_eq_true rfl⟩, hts _ gw_1715, hts _ gw_1716⟩ (q_preV (q_pre (m_subP hP hal_) (m_subD hD hal_ hnd_) hK hSt hS (m_lF hD hS hA hal_) _) (va_recv hK (m_subP hP hal_) (ci := 12) (q0 := 0) rfl rfl)) rfl rfl hl.1 rfl (lv_room (Nat.le_of_ble_eq_true rfl)) d_law_445 ⟨hkc, hks⟩) hP hD hS hA hal_ rfl (fun H locs hP hD hS => ?_)
  refine W.widen (k := κ + mc337) (n := σ + ms338) (Nat.le_refl _) (Nat.le_refl _) ?_
  obtain ⟨M360, eM_, hf⟩ := bnP hf
  have hP : va_P D classes (mw M360) H := by rw [eM_]; exact hP
  have hD : va_D A (mw M360) := by rw [eM_]; exact hD
  clear eM_ hal_ hnd_ hc
  refine lv_iload hx hb d_law_448 (lv_at hl 1 rfl) ?_
  refine lv_icmp_eq (tgt := 455) hx hb d_law_450 (by decide) (fun cx => ?_) (fun cx => ?_)
  · have hf := ifpP cx hf
    refine lv_iload hx hb d_law_455 (lv_at hl 1 rfl) ?_
    refine lv_if_ne (tgt := 472) hx hb d_law_457 (by decide) (fun cx => ?_) (fun cx => ?_)
    · have hf := ifnP cx hf
      exact wv_mlaw_472 (fu := fu) F hk_23 _ _ _ _ _ _ _ hf hkc hks _ _ _ hP hD hS (lv_sub hl [2, 3, 4, 5, 6] rfl)
    · have hf := ifpP cx hf
      refine lv_aload_n hx hb d_law_460 rfl (lv_at hl 5 rfl) ?_
      refine lv_iconst (v := 0) hx hb d_law_461 (by decide) ?_
      obtain ⟨n_, f_, hm_, hin_, hf⟩ := hf
      obtain ⟨ix_, hi_⟩ := m_ix hm_
      refine va_lald hx hb hK hP ix_ 2 hi_ rfl (inb_in hin_) d_law_462 ?_
      obtain ⟨v361, ev⟩ : ∃ z, z = f_ (0 : Int32).toNatClampNeg := ⟨_, rfl⟩
      first | rw [← ev] at hf ⊢ | rw [← ev]
      clear ev hi_ hm_ hin_
      refine lv_iload hx hb d_law_463 (lv_at hl 0 rfl) ?_
      refine lv_i2l hx hb d_law_465 rfl ?_
      refine W.lcmp hx hb d_law_466 ?_
      refine lv_if_eq (tgt := 472) hx hb d_law_467 (by decide) (fun cx => ?_) (fun cx => ?_)
      · have hf := ifpP cx hf
        exact wv_mlaw_472 (fu := fu) F hk_23 _ _ _ _ _ _ _ hf hkc hks _ _ _ hP hD hS (lv_sub hl [2, 3, 4, 5, 6] rfl)
      · have hf := ifnP cx hf
        refine lv_iconst (v := 0) hx hb d_law_470 (by decide) ?_
        exact hf.elim
  · have hf := ifnP cx hf
    refine lv_iconst (v := 0) hx hb d_law_453 (by decide) ?_
    exact hf.elim
