set_option maxRecDepth 100000 in
def xb_6 (fu : Nat) (cy : Nat → ClassId) (ad : Nat → Nat) (mi L : Nat) (xs : Nat → Int32) (k_23 : Nat → Nat → Mm → Nat → Nat → Nat → Int32 → Prop) (κ σ : Nat) (M : Mm) (x1 : Nat) (x2 : Nat) (x3 : Nat) (x4 : Int32) : Prop :=
  bnd (x4 + (1 : Int32)) fun v362 => gdP (inb v362 L) <| bnd (xs v362.toNatClampNeg) fun v363 => ∃ mc364 ms365 : Nat, (κ + mc364 ≤ 601024 ∧ σ + ms365 ≤ 7293034) ∧ xw_mL_unspent2 fu mc364 ms365 cy ad mi (fun v367 M366 => bnd (x4 + (1 : Int32)) fun v368 => gdP (inb v368 L) <| bnd (xs v368.toNatClampNeg) fun v369 => ∃ (b370 : Nat → Nat) (c371 : Nat → Int32) (c372 : Nat → Int32) (c373 : Nat → Int32) (c374 : Nat → Int64) (c375 : Nat → Int32) (c376 : Nat → Int32) (c377 : Nat → Int32) (c378 : Nat → Int32) (c379 : Nat → Int32) (c380 : Nat → Int32), mal M366 [(x2, .inr (12, mo b370 c380)), ((b370 0), .inl (cy 0, 3000, .inl c371)), ((b370 14), .inl (cy 1, 17600, .inl c372)), ((b370 17), .inl (cy 1, 2200, .inl c373)), ((b370 25), .inl (cy 2, 11600, .inr (.inl c374))), ((b370 28), .inl (cy 1, 11600, .inl c375)), ((b370 29), .inl (cy 1, 11600, .inl c376)), ((b370 31), .inl (cy 1, 11600, .inl c377)), ((b370 32), .inl (cy 1, 32768, .inl c378)), ((b370 33), .inl (cy 3, 11600, .inl c379))] ∧ mnd (List.map (fun x : Nat × va_E => x.1) [(x2, .inr (12, mo b370 c380)), ((b370 0), .inl (cy 0, 3000, .inl c371)), ((b370 14), .inl (cy 1, 17600, .inl c372)), ((b370 17), .inl (cy 1, 2200, .inl c373)), ((b370 25), .inl (cy 2, 11600, .inr (.inl c374))), ((b370 28), .inl (cy 1, 11600, .inl c375)), ((b370 29), .inl (cy 1, 11600, .inl c376)), ((b370 31), .inl (cy 1, 11600, .inl c377)), ((b370 32), .inl (cy 1, 32768, .inl c378)), ((b370 33), .inl (cy 3, 11600, .inl c379))]) ∧ ∃ (v381 : Int64) (c382 : Nat → Int32), x_M_unspent fu c371 c372 c373 c374 c375 c376 c377 c378 c379 v369 c380 = some (v381, c382) ∧ bnd (mov M366 [(x2, .inr (12, mo b370 c382)), ((b370 0), .inl (cy 0, 3000, .inl c371)), ((b370 14), .inl (cy 1, 17600, .inl c372)), ((b370 17), .inl (cy 1, 2200, .inl c373)), ((b370 25), .inl (cy 2, 11600, .inr (.inl c374))), ((b370 28), .inl (cy 1, 11600, .inl c375)), ((b370 29), .inl (cy 1, 11600, .inl c376)), ((b370 31), .inl (cy 1, 11600, .inl c377)), ((b370 32), .inl (cy 1, 32768, .inl c378)), ((b370 33), .inl (cy 3, 11600, .inl c379))]) fun M383 => ∃ (b384 : Nat → Nat) (c385 : Nat → Int32), mal M383 [(x2, .inr (12, mo b384 c385))] ∧ mnd (List.map (fun x : Nat × va_E => x.1) [(x2, .inr (12, mo b384 c385))]) ∧ ∃ (v386 : Int32), x_M_thrown fu c385 = some (v386) ∧ bnd (mov M383 [(x2, .inr (12, mo b384 c385))]) fun M387 => if v386 = v367 then (if v367 = 0 then (maj M387 x3 (cy 2) (0 : Int32) fun v388 => if (lg_cmp v388 v381) = 0 then (xv_mlaw_527 fu cy ad mi L xs k_23 (κ + mc364) (σ + ms365) M387 x1 x2 x3 x4) else (False)) else (xv_mlaw_527 fu cy ad mi L xs k_23 (κ + mc364) (σ + ms365) M387 x1 x2 x3 x4)) else (False)) 0 0 M x1 v363 x3
set_option maxHeartbeats 8000000 in
set_option maxRecDepth 100000 in
theorem wb_6 {p : Program} {l : Launch} {e : Env} {s : State} {m : MethodId} {below : List Frame} {meth : Method} {c : Code} {D : va_G} {cy : Nat → ClassId} {A : Nat → Prop} {ad : Nat → Nat} {mi b L : Nat} {xs : Nat → Int32} {fu : Nat} {k_23 : Nat → Nat → Mm → Nat → Nat → Nat → Int32 → Prop} (F : FxL p l s m meth c D cy ad mi A b L xs) (hk_23 : Iw_mlaw_23 p l e s m below meth c D cy A ad mi b L xs k_23) (κ σ : Nat) (M : Mm) (x1 : Nat) (x2 : Nat) (x3 : Nat) (x4 : Int32) (hf : xb_6 fu cy ad mi L xs k_23 κ σ M x1 x2 x3 x4) (hkc : κ ≤ 601024) (hks : σ ≤ 7293034) (H : Heap) (locs : List Loc) (ls : Array Slot) (hP : va_P D classes (mw M) H) (hD : va_D A (mw M)) (hS : va_S A s.heap H locs) (hl : lv_has ls 8 [(0, .ref b), (1, .ref x1), (2, .ref x2), (3, .ref x3), (4, .int x4)]) : W p l e room_1 s m #[Value.ref b] below meth c H locs κ σ (lw_Z below #[Value.ref b] s) (F0 m 475 ls []) := by
  obtain ⟨hlt, hx, hb, hr, hml, hown, hts, hlocks, hK, hA, hSt, hT, hMi, hX, hbl, hbA, hNC, hfo⟩ := id F
  unfold xb_6 at hf
  refine lv_aload_n hx hb d_law_475 rfl (lv_at hl 1 rfl) ?_
  refine lv_aload_n hx hb d_law_476 rfl (lv_at hl 0 rfl) ?_
  refine lv_iload hx hb d_law_477 (lv_at hl 4 rfl) ?_
  refine lv_iconst (v := 1) hx hb d_law_479 (by decide) ?_
  refine lv_iadd hx hb d_law_480 ?_
  refine lv_topi (fun v362 ev => ?_)
  have hf := bnQ ev hf
  clear ev
  obtain ⟨hg, hf⟩ := hf
  refine va_sld hx hb hX hbl hbA hS (inb_in hg) d_law_481 ?_
  refine lv_topi (fun v363 ev => ?_)
  have hf := bnQ ev hf
  clear ev
  refine lv_aload_n hx hb d_law_482 rfl (lv_at hl 3 rfl) ?_
  obtain ⟨mc364, ms365, ⟨hc_, hd_⟩, hf⟩ := hf
  refine mm_ai (q_runSW (As := [.ref x1, .int v363, .ref x3]) (rest := []) ⟨hx, hb, hml, hown, hts⟩ (cw_mL_unspent2 l hlt D cy ad mi fu mc364 ms365 x1 v363 x3 M _ hf H.size) gw_1308 gw_0 gw_1306 gw_1307 hdu_13 ⟨Nat.le_of_ble_eq_true rfl, Nat.le_of_ble_eq_true rfl⟩ rfl rfl (q_preN hP hD hK hSt hT hMi hNC hS (m_free hD hS hA) _) rfl hl.1 (Nat.le_of_ble_eq_true rfl) d_law_483 ⟨hc_, hd_⟩) hD hS hA (fun v367 M366 H locs hf hP hD hS => ?_)
  have hkc : κ + mc364 ≤ 601024 := hc_
  have hks : σ + ms365 ≤ 7293034 := hd_
  clear hc_ hd_
  refine lv_istore (lv' := [(5, .int v367), (0, .ref b), (1, .ref x1), (2, .ref x2), (3, .ref x3), (4, .int x4)]) hx hb d_law_486 hl (by decide) rfl (fun ls hl => ?_)
  refine lv_aload_n hx hb d_law_488 rfl (lv_at hl 3 rfl) ?_
  refine lv_aload_n hx hb d_law_489 rfl (lv_at hl 1 rfl) ?_
  refine lv_iload hx hb d_law_490 (lv_at hl 5 rfl) ?_
  refine lv_iconst (v := 1) hx hb d_law_492 (by decide) ?_
  refine lv_iadd hx hb d_law_493 ?_
  refine lv_topi (fun v368 ev => ?_)
  have hf := bnQ ev hf
  clear ev
  obtain ⟨hg, hf⟩ := hf
  refine va_sld hx hb hX hbl hbA hS (inb_in hg) d_law_494 ?_
  refine lv_topi (fun v369 ev => ?_)
  have hf := bnQ ev hf
  clear ev
  obtain ⟨b370, c371, c372, c373, c374, c375, c376, c377, c378, c379, c380, hal_, hnd_, v381, c382, hc, hf⟩ := hf
  refine m_ll (va_runV (C := "CoinKeeperModel") (As := [.int v369]) (rest := []) ⟨hx, hb, hml, hown, hts⟩ (c_M_unspent l D cy ad fu x2 b370 c371 c372 c373 c374 c375 c376 c377 c378 c379 v369 c380 _ hc H.size) ⟨q_cB hts gw_2052 gw_18 gw_2049 hdu_14 ⟨Nat.le_of_ble_eq_true rfl, Nat.le_of_ble_eq_true rfl⟩, hts _ gw_2050, hts _ gw_2051⟩ (q_preV (q_pre (m_subP hP hal_) (m_subD hD hal_ hnd_) hK hSt hS (m_lF hD hS hA hal_) _) (va_recv hK (m_subP hP hal_) (ci := 12) (q0 := 0) rfl rfl)) rfl rfl hl.1 rfl (lv_room (Nat.le_of_ble_eq_true rfl)) d_law_495 ⟨hkc, hks⟩) hP hD hS hA hal_ rfl (fun H locs hP hD hS => ?_)
  refine W.widen (k := κ + mc364) (n := σ + ms365) (Nat.le_refl _) (Nat.le_refl _) ?_
  obtain ⟨M383, eM_, hf⟩ := bnP hf
  have hP : va_P D classes (mw M383) H := by rw [eM_]; exact hP
  have hD : va_D A (mw M383) := by rw [eM_]; exact hD
  clear eM_ hal_ hnd_ hc
  refine lv_lstore (lv' := [(6, .long v381), (5, .int v367), (0, .ref b), (1, .ref x1), (2, .ref x2), (3, .ref x3), (4, .int x4)]) hx hb d_law_498 hl (by decide) rfl (fun ls hl => ?_)
  refine lv_aload_n hx hb d_law_500 rfl (lv_at hl 4 rfl) ?_
  obtain ⟨b384, c385, hal_, hnd_, v386, hc, hf⟩ := hf
  refine m_li (va_runV (C := "CoinKeeperModel") (As := []) (rest := []) ⟨hx, hb, hml, hown, hts⟩ (c_M_thrown l D cy ad fu x2 b384 c385 _ hc H.size) ⟨q_cB hts gw_1717 gw_18 gw_1714 hdu_2 ⟨Nat.le_of_ble_eq_true rfl, Nat.le_of_ble_eq_true rfl⟩, hts _ gw_1715, hts _ gw_1716⟩ (q_preV (q_pre (m_subP hP hal_) (m_subD hD hal_ hnd_) hK hSt hS (m_lF hD hS hA hal_) _) (va_recv hK (m_subP hP hal_) (ci := 12) (q0 := 0) rfl rfl)) rfl rfl hl.1 rfl (lv_room (Nat.le_of_ble_eq_true rfl)) d_law_501 ⟨hkc, hks⟩) hP hD hS hA hal_ rfl (fun H locs hP hD hS => ?_)
  refine W.widen (k := κ + mc364) (n := σ + ms365) (Nat.le_refl _) (Nat.le_refl _) ?_
  obtain ⟨M387, eM_, hf⟩ := bnP hf
  have hP : va_P D classes (mw M387) H := by rw [eM_]; exact hP
  have hD : va_D A (mw M387) := by rw [eM_]; exact hD
  clear eM_ hal_ hnd_ hc
  refine lv_iload hx hb d_law_504 (lv_at hl 1 rfl) ?_
  refine lv_icmp_eq (tgt := 511) hx hb d_law_506 (by decide) (fun cx => ?_) (fun cx => ?_)
  · have hf := ifpP cx hf
    refine lv_iload hx hb d_law_511 (lv_at hl 1 rfl) ?_
    refine lv_if_ne (tgt := 527) hx hb d_law_513 (by decide) (fun cx => ?_) (fun cx => ?_)
    · have hf := ifnP cx hf
      exact wv_mlaw_527 (fu := fu) F hk_23 _ _ _ _ _ _ _ hf hkc hks _ _ _ hP hD hS (lv_sub hl [2, 3, 4, 5, 6] rfl)
    · have hf := ifpP cx hf
      refine lv_aload_n hx hb d_law_516 rfl (lv_at hl 5 rfl) ?_
      refine lv_iconst (v := 0) hx hb d_law_517 (by decide) ?_
      obtain ⟨n_, f_, hm_, hin_, hf⟩ := hf
      obtain ⟨ix_, hi_⟩ := m_ix hm_
      refine va_lald hx hb hK hP ix_ 2 hi_ rfl (inb_in hin_) d_law_518 ?_
      obtain ⟨v388, ev⟩ : ∃ z, z = f_ (0 : Int32).toNatClampNeg := ⟨_, rfl⟩
      first | rw [← ev] at hf ⊢ | rw [← ev]
      clear ev hi_ hm_ hin_
      refine lv_lload hx hb d_law_519 (lv_at hl 0 rfl) ?_
      refine W.lcmp hx hb d_law_521 ?_
      refine lv_if_eq (tgt := 527) hx hb d_law_522 (by decide) (fun cx => ?_) (fun cx => ?_)
      · have hf := ifpP cx hf
        exact wv_mlaw_527 (fu := fu) F hk_23 _ _ _ _ _ _ _ hf hkc hks _ _ _ hP hD hS (lv_sub hl [2, 3, 4, 5, 6] rfl)
      · have hf := ifnP cx hf
        refine lv_iconst (v := 0) hx hb d_law_525 (by decide) ?_
        exact hf.elim
  · have hf := ifnP cx hf
    refine lv_iconst (v := 0) hx hb d_law_509 (by decide) ?_
    exact hf.elim
