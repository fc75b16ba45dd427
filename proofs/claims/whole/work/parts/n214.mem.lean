set_option maxRecDepth 100000 in
def xb_4 (fu : Nat) (cy : Nat → ClassId) (ad : Nat → Nat) (mi L : Nat) (xs : Nat → Int32) (k_23 : Nat → Nat → Mm → Nat → Nat → Nat → Int32 → Prop) (κ σ : Nat) (M : Mm) (x1 : Nat) (x2 : Nat) (x3 : Nat) (x4 : Int32) : Prop :=
  bnd (x4 + (1 : Int32)) fun v308 => gdP (inb v308 L) <| bnd (xs v308.toNatClampNeg) fun v309 => ∃ mc310 ms311 : Nat, (κ + mc310 ≤ 601024 ∧ σ + ms311 ≤ 7293034) ∧ xw_mL_hash fu mc310 ms311 cy ad mi (fun v313 M312 => bnd (x4 + (1 : Int32)) fun v314 => gdP (inb v314 L) <| bnd (xs v314.toNatClampNeg) fun v315 => ∃ (b316 : Nat → Nat) (c317 : Nat → Int32) (c318 : Nat → Int32) (c319 : Nat → Int32) (c320 : Nat → Int32) (c321 : Nat → Int32) (c322 : Nat → Int32), mal M312 [(x2, .inr (12, mo b316 c318)), ((b316 0), .inl (cy 0, 3000, .inl c317)), ((b316 34), .inl (cy 1, 8, .inl c319)), ((b316 35), .inl (cy 1, 64, .inl c320)), ((b316 36), .inl (cy 0, 32, .inl c321)), ((b316 37), .inl (cy 0, 100200, .inl c322))] ∧ mnd (List.map (fun x : Nat × va_E => x.1) [(x2, .inr (12, mo b316 c318)), ((b316 0), .inl (cy 0, 3000, .inl c317)), ((b316 34), .inl (cy 1, 8, .inl c319)), ((b316 35), .inl (cy 1, 64, .inl c320)), ((b316 36), .inl (cy 0, 32, .inl c321)), ((b316 37), .inl (cy 0, 100200, .inl c322))]) ∧ ∃ (v323 : Int32) (c324 : Nat → Int32) (c325 : Nat → Int32) (c326 : Nat → Int32) (c327 : Nat → Int32) (c328 : Nat → Int32), x_M_hash fu c317 v315 c318 c319 c320 c321 c322 = some (v323, c324, c325, c326, c327, c328) ∧ bnd (mov M312 [(x2, .inr (12, mo b316 c324)), ((b316 0), .inl (cy 0, 3000, .inl c317)), ((b316 34), .inl (cy 1, 8, .inl c325)), ((b316 35), .inl (cy 1, 64, .inl c326)), ((b316 36), .inl (cy 0, 32, .inl c327)), ((b316 37), .inl (cy 0, 100200, .inl c328))]) fun M329 => ∃ (b330 : Nat → Nat) (c331 : Nat → Int32), mal M329 [(x2, .inr (12, mo b330 c331))] ∧ mnd (List.map (fun x : Nat × va_E => x.1) [(x2, .inr (12, mo b330 c331))]) ∧ ∃ (v332 : Int32), x_M_thrown fu c331 = some (v332) ∧ bnd (mov M329 [(x2, .inr (12, mo b330 c331))]) fun M333 => if v332 = v313 then (if v313 = 0 then (maj M333 x3 (cy 2) (0 : Int32) fun v334 => if (lg_cmp v334 v323.toInt64) = 0 then (xv_mlaw_416 fu cy ad mi L xs k_23 (κ + mc310) (σ + ms311) M333 x1 x2 x3 x4) else (False)) else (xv_mlaw_416 fu cy ad mi L xs k_23 (κ + mc310) (σ + ms311) M333 x1 x2 x3 x4)) else (False)) 0 0 M x1 v309 x3
set_option maxHeartbeats 8000000 in
set_option maxRecDepth 100000 in
theorem wb_4 {p : Program} {l : Launch} {e : Env} {s : State} {m : MethodId} {below : List Frame} {meth : Method} {c : Code} {D : va_G} {cy : Nat → ClassId} {A : Nat → Prop} {ad : Nat → Nat} {mi b L : Nat} {xs : Nat → Int32} {fu : Nat} {k_23 : Nat → Nat → Mm → Nat → Nat → Nat → Int32 → Prop} (F : FxL p l s m meth c D cy ad mi A b L xs) (hk_23 : Iw_mlaw_23 p l e s m below meth c D cy A ad mi b L xs k_23) (κ σ : Nat) (M : Mm) (x1 : Nat) (x2 : Nat) (x3 : Nat) (x4 : Int32) (hf : xb_4 fu cy ad mi L xs k_23 κ σ M x1 x2 x3 x4) (hkc : κ ≤ 601024) (hks : σ ≤ 7293034) (H : Heap) (locs : List Loc) (ls : Array Slot) (hP : va_P D classes (mw M) H) (hD : va_D A (mw M)) (hS : va_S A s.heap H locs) (hl : lv_has ls 8 [(0, .ref b), (1, .ref x1), (2, .ref x2), (3, .ref x3), (4, .int x4)]) : W p l e room_1 s m #[Value.ref b] below meth c H locs κ σ (lw_Z below #[Value.ref b] s) (F0 m 363 ls []) := by
  obtain ⟨hlt, hx, hb, hr, hml, hown, hts, hlocks, hK, hA, hSt, hT, hMi, hX, hbl, hbA, hNC, hfo⟩ := id F
  unfold xb_4 at hf
  refine lv_aload_n hx hb d_law_363 rfl (lv_at hl 1 rfl) ?_
  refine lv_aload_n hx hb d_law_364 rfl (lv_at hl 0 rfl) ?_
  refine lv_iload hx hb d_law_365 (lv_at hl 4 rfl) ?_
  refine lv_iconst (v := 1) hx hb d_law_367 (by decide) ?_
  refine lv_iadd hx hb d_law_368 ?_
  refine lv_topi (fun v308 ev => ?_)
  have hf := bnQ ev hf
  clear ev
  obtain ⟨hg, hf⟩ := hf
  refine va_sld hx hb hX hbl hbA hS (inb_in hg) d_law_369 ?_
  refine lv_topi (fun v309 ev => ?_)
  have hf := bnQ ev hf
  clear ev
  refine lv_aload_n hx hb d_law_370 rfl (lv_at hl 3 rfl) ?_
  obtain ⟨mc310, ms311, ⟨hc_, hd_⟩, hf⟩ := hf
  refine mm_ai (q_runSW (As := [.ref x1, .int v309, .ref x3]) (rest := []) ⟨hx, hb, hml, hown, hts⟩ (cw_mL_hash l hlt D cy ad mi fu mc310 ms311 x1 v309 x3 M _ hf H.size) gw_1294 gw_0 gw_1292 gw_1293 hdu_9 ⟨Nat.le_of_ble_eq_true rfl, Nat.le_of_ble_eq_true rfl⟩ rfl rfl (q_preM hP hD hK hSt hT hMi hS (m_free hD hS hA) _) rfl hl.1 (Nat.le_of_ble_eq_true rfl) d_law_371 ⟨hc_, hd_⟩) hD hS hA (fun v313 M312 H locs hf hP hD hS => ?_)
  have hkc : κ + mc310 ≤ 601024 := hc_
  have hks : σ + ms311 ≤ 7293034 := hd_
  clear hc_ hd_
  refine lv_istore (lv' := [(5, .int v313), (0, .ref b), (1, .ref x1), (2, .ref x2), (3, .ref x3), (4, .int x4)]) hx hb d_law_374 hl (by decide) rfl (fun ls hl => ?_)
  refine lv_aload_n hx hb d_law_376 rfl (lv_at hl 3 rfl) ?_
  refine lv_aload_n hx hb d_law_377 rfl (lv_at hl 1 rfl) ?_
  refine lv_iload hx hb d_law_378 (lv_at hl 5 rfl) ?_
  refine lv_iconst (v := 1) hx hb d_law_380 (by decide) ?_
  refine lv_iadd hx hb d_law_381 ?_
  refine lv_topi (fun v314 ev => ?_)
  have hf := bnQ ev hf
  clear ev
  obtain ⟨hg, hf⟩ := hf
  refine va_sld hx hb hX hbl hbA hS (inb_in hg) d_law_382 ?_
  refine lv_topi (fun v315 ev => ?_)
  have hf := bnQ ev hf
  clear ev
  obtain ⟨b316, c317, c318, c319, c320, c321, c322, hal_, hnd_, v323, c324, c325, c326, c327, c328, hc, hf⟩ := hf
  refine m_li (va_runV (C := "CoinKeeperModel") (As := [.int v315]) (rest := []) ⟨hx, hb, hml, hown, hts⟩ (c_M_hash l D cy ad fu x2 b316 c317 v315 c318 c319 c320 c321 c322 _ hc H.size) ⟨q_cB hts gw_2044 gw_18 gw_2041 hdu_10 ⟨Nat.le_of_ble_eq_true rfl, Nat.le_of_ble_eq_true rfl⟩, hts _ gw_2042, hts _ gw_2043⟩ (q_preV (q_pre (m_subP hP hal_) (m_subD hD hal_ hnd_) hK hSt hS (m_lF hD hS hA hal_) _) (va_recv hK (m_subP hP hal_) (ci := 12) (q0 := 0) rfl rfl)) rfl rfl hl.1 rfl (lv_room (Nat.le_of_ble_eq_true rfl)) d_law_383 ⟨hkc, hks⟩) hP hD hS hA hal_ rfl (fun H locs hP hD hS => ?_)
  refine W.widen (k := κ + mc310) (n := σ + ms311) (Nat.le_refl _) (Nat.le_refl _) ?_
  obtain ⟨M329, eM_, hf⟩ := bnP hf
  have hP : va_P D classes (mw M329) H := by rw [eM_]; exact hP
  have hD : va_D A (mw M329) := by rw [eM_]; exact hD
  clear eM_ hal_ hnd_ hc
  refine lv_istore (lv' := [(6, .int v323), (5, .int v313), (0, .ref b), (1, .ref x1), (2, .ref x2), (3, .ref x3), (4, .int x4)]) hx hb d_law_386 hl (by decide) rfl (fun ls hl => ?_)
  refine lv_aload_n hx hb d_law_388 rfl (lv_at hl 4 rfl) ?_
  obtain ⟨b330, c331, hal_, hnd_, v332, hc, hf⟩ := hf
  refine m_li (va_runV (C := "CoinKeeperModel") (As := []) (rest := []) ⟨hx, hb, hml, hown, hts⟩ (c_M_thrown l D cy ad fu x2 b330 c331 _ hc H.size) ⟨q_cB hts gw_1717 gw_18 gw_1714 hdu_2 ⟨Nat.le_of_ble_eq_true rfl, Nat.le_of_ble_eq_true rfl⟩, hts _ gw_1715, hts _ gw_1716⟩ (q_preV (q_pre (m_subP hP hal_) (m_subD hD hal_ hnd_) hK hSt hS (m_lF hD hS hA hal_) _) (va_recv hK (m_subP hP hal_) (ci := 12) (q0 := 0) rfl rfl)) rfl rfl hl.1 rfl (lv_room (Nat.le_of_ble_eq_true rfl)) d_law_389 ⟨hkc, hks⟩) hP hD hS hA hal_ rfl (fun H locs hP hD hS => ?_)
  refine W.widen (k := κ + mc310) (n := σ + ms311) (Nat.le_refl _) (Nat.le_refl _) ?_
  obtain ⟨M333, eM_, hf⟩ := bnP hf
  have hP : va_P D classes (mw M333) H := by rw [eM_]; exact hP
  have hD : va_D A (mw M333) := by rw [eM_]; exact hD
  clear eM_ hal_ hnd_ hc
  refine lv_iload hx hb d_law_392 (lv_at hl 1 rfl) ?_
  refine lv_icmp_eq (tgt := 399) hx hb d_law_394 (by decide) (fun cx => ?_) (fun cx => ?_)
  · have hf := ifpP cx hf
    refine lv_iload hx hb d_law_399 (lv_at hl 1 rfl) ?_
    refine lv_if_ne (tgt := 416) hx hb d_law_401 (by decide) (fun cx => ?_) (fun cx => ?_)
    · have hf := ifnP cx hf
      exact wv_mlaw_416 (fu := fu) F hk_23 _ _ _ _ _ _ _ hf hkc hks _ _ _ hP hD hS (lv_sub hl [2, 3, 4, 5, 6] rfl)
    · have hf := ifpP cx hf
      refine lv_aload_n hx hb d_law_404 rfl (lv_at hl 5 rfl) ?_
      refine lv_iconst (v := 0) hx hb d_law_405 (by decide) ?_
      obtain ⟨n_, f_, hm_, hin_, hf⟩ := hf
      obtain ⟨ix_, hi_⟩ := m_ix hm_
      refine va_lald hx hb hK hP ix_ 2 hi_ rfl (inb_in hin_) d_law_406 ?_
      obtain ⟨v334, ev⟩ : ∃ z, z = f_ (0 : Int32).toNatClampNeg := ⟨_, rfl⟩
      first | rw [← ev] at hf ⊢ | rw [← ev]
      clear ev hi_ hm_ hin_
      refine lv_iload hx hb d_law_407 (lv_at hl 0 rfl) ?_
      refine lv_i2l hx hb d_law_409 rfl ?_
      refine W.lcmp hx hb d_law_410 ?_
      refine lv_if_eq (tgt := 416) hx hb d_law_411 (by decide) (fun cx => ?_) (fun cx => ?_)
      · have hf := ifpP cx hf
        exact wv_mlaw_416 (fu := fu) F hk_23 _ _ _ _ _ _ _ hf hkc hks _ _ _ hP hD hS (lv_sub hl [2, 3, 4, 5, 6] rfl)
      · have hf := ifnP cx hf
        refine lv_iconst (v := 0) hx hb d_law_414 (by decide) ?_
        exact hf.elim
  · have hf := ifnP cx hf
    refine lv_iconst (v := 0) hx hb d_law_397 (by decide) ?_
    exact hf.elim
