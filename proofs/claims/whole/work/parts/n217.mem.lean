set_option maxRecDepth 100000 in
def xb_7 (fu : Nat) (cy : Nat → ClassId) (ad : Nat → Nat) (mi L : Nat) (xs : Nat → Int32) (k_23 : Nat → Nat → Mm → Nat → Nat → Nat → Int32 → Prop) (κ σ : Nat) (M : Mm) (x1 : Nat) (x2 : Nat) (x3 : Nat) (x4 : Int32) : Prop :=
  bnd (x4 + (1 : Int32)) fun v389 => gdP (inb v389 L) <| bnd (xs v389.toNatClampNeg) fun v390 => ∃ mc391 ms392 : Nat, (κ + mc391 ≤ 601024 ∧ σ + ms392 ≤ 7293034) ∧ xw_mL_count fu mc391 ms392 cy ad mi (fun v394 M393 => bnd (x4 + (1 : Int32)) fun v395 => gdP (inb v395 L) <| bnd (xs v395.toNatClampNeg) fun v396 => ∃ (b397 : Nat → Nat) (c398 : Nat → Int32) (c399 : Nat → Int32) (c400 : Nat → Int64) (c401 : Nat → Int32) (c402 : Nat → Int32) (c403 : Nat → Int32), mal M393 [(x2, .inr (12, mo b397 c403)), ((b397 10), .inl (cy 1, 1616, .inl c398)), ((b397 11), .inl (cy 3, 202, .inl c399)), ((b397 25), .inl (cy 2, 11600, .inr (.inl c400))), ((b397 29), .inl (cy 1, 11600, .inl c401)), ((b397 33), .inl (cy 3, 11600, .inl c402))] ∧ mnd (List.map (fun x : Nat × va_E => x.1) [(x2, .inr (12, mo b397 c403)), ((b397 10), .inl (cy 1, 1616, .inl c398)), ((b397 11), .inl (cy 3, 202, .inl c399)), ((b397 25), .inl (cy 2, 11600, .inr (.inl c400))), ((b397 29), .inl (cy 1, 11600, .inl c401)), ((b397 33), .inl (cy 3, 11600, .inl c402))]) ∧ ∃ (v404 : Int64) (c405 : Nat → Int32), x_M_count2 fu c398 c399 c400 c401 c402 v396 c403 = some (v404, c405) ∧ bnd (mov M393 [(x2, .inr (12, mo b397 c405)), ((b397 10), .inl (cy 1, 1616, .inl c398)), ((b397 11), .inl (cy 3, 202, .inl c399)), ((b397 25), .inl (cy 2, 11600, .inr (.inl c400))), ((b397 29), .inl (cy 1, 11600, .inl c401)), ((b397 33), .inl (cy 3, 11600, .inl c402))]) fun M406 => ∃ (b407 : Nat → Nat) (c408 : Nat → Int32), mal M406 [(x2, .inr (12, mo b407 c408))] ∧ mnd (List.map (fun x : Nat × va_E => x.1) [(x2, .inr (12, mo b407 c408))]) ∧ ∃ (v409 : Int32), x_M_thrown fu c408 = some (v409) ∧ bnd (mov M406 [(x2, .inr (12, mo b407 c408))]) fun M410 => if v409 = v394 then (if v394 = 0 then (maj M410 x3 (cy 2) (0 : Int32) fun v411 => if (lg_cmp v411 v404) = 0 then (xv_mlaw_582 fu cy ad mi L xs k_23 (κ + mc391) (σ + ms392) M410 x1 x2 x3 x4) else (False)) else (xv_mlaw_582 fu cy ad mi L xs k_23 (κ + mc391) (σ + ms392) M410 x1 x2 x3 x4)) else (False)) 0 0 M x1 v390 x3
set_option maxHeartbeats 8000000 in
set_option maxRecDepth 100000 in
theorem wb_7 {p : Program} {l : Launch} {e : Env} {s : State} {m : MethodId} {below : List Frame} {meth : Method} {c : Code} {D : va_G} {cy : Nat → ClassId} {A : Nat → Prop} {ad : Nat → Nat} {mi b L : Nat} {xs : Nat → Int32} {fu : Nat} {k_23 : Nat → Nat → Mm → Nat → Nat → Nat → Int32 → Prop} (F : FxL p l s m meth c D cy ad mi A b L xs) (hk_23 : Iw_mlaw_23 p l e s m below meth c D cy A ad mi b L xs k_23) (κ σ : Nat) (M : Mm) (x1 : Nat) (x2 : Nat) (x3 : Nat) (x4 : Int32) (hf : xb_7 fu cy ad mi L xs k_23 κ σ M x1 x2 x3 x4) (hkc : κ ≤ 601024) (hks : σ ≤ 7293034) (H : Heap) (locs : List Loc) (ls : Array Slot) (hP : va_P D classes (mw M) H) (hD : va_D A (mw M)) (hS : va_S A s.heap H locs) (hl : lv_has ls 8 [(0, .ref b), (1, .ref x1), (2, .ref x2), (3, .ref x3), (4, .int x4)]) : W p l e room_1 s m #[Value.ref b] below meth c H locs κ σ (lw_Z below #[Value.ref b] s) (F0 m 530 ls []) := by
  obtain ⟨hlt, hx, hb, hr, hml, hown, hts, hlocks, hK, hA, hSt, hT, hMi, hX, hbl, hbA, hNC, hfo⟩ := id F
  unfold xb_7 at hf
  refine lv_aload_n hx hb d_law_530 rfl (lv_at hl 1 rfl) ?_
  refine lv_aload_n hx hb d_law_531 rfl (lv_at hl 0 rfl) ?_
  refine lv_iload hx hb d_law_532 (lv_at hl 4 rfl) ?_
  refine lv_iconst (v := 1) hx hb d_law_534 (by decide) ?_
  refine lv_iadd hx hb d_law_535 ?_
  refine lv_topi (fun v389 ev => ?_)
  have hf := bnQ ev hf
  clear ev
  obtain ⟨hg, hf⟩ := hf
  refine va_sld hx hb hX hbl hbA hS (inb_in hg) d_law_536 ?_
  refine lv_topi (fun v390 ev => ?_)
  have hf := bnQ ev hf
  clear ev
  refine lv_aload_n hx hb d_law_537 rfl (lv_at hl 3 rfl) ?_
  obtain ⟨mc391, ms392, ⟨hc_, hd_⟩, hf⟩ := hf
  refine mm_ai (q_runSW (As := [.ref x1, .int v390, .ref x3]) (rest := []) ⟨hx, hb, hml, hown, hts⟩ (cw_mL_count l hlt D cy ad mi fu mc391 ms392 x1 v390 x3 M _ hf H.size) gw_1331 gw_0 gw_1329 gw_1330 hdu_15 ⟨Nat.le_of_ble_eq_true rfl, Nat.le_of_ble_eq_true rfl⟩ rfl rfl (q_preM hP hD hK hSt hT hMi hS (m_free hD hS hA) _) rfl hl.1 (Nat.le_of_ble_eq_true rfl) d_law_538 ⟨hc_, hd_⟩) hD hS hA (fun v394 M393 H locs hf hP hD hS => ?_)
  have hkc : κ + mc391 ≤ 601024 := hc_
  have hks : σ + ms392 ≤ 7293034 := hd_
  clear hc_ hd_
  refine lv_istore (lv' := [(5, .int v394), (0, .ref b), (1, .ref x1), (2, .ref x2), (3, .ref x3), (4, .int x4)]) hx hb d_law_541 hl (by decide) rfl (fun ls hl => ?_)
  refine lv_aload_n hx hb d_law_543 rfl (lv_at hl 3 rfl) ?_
  refine lv_aload_n hx hb d_law_544 rfl (lv_at hl 1 rfl) ?_
  refine lv_iload hx hb d_law_545 (lv_at hl 5 rfl) ?_
  refine lv_iconst (v := 1) hx hb d_law_547 (by decide) ?_
  refine lv_iadd hx hb d_law_548 ?_
  refine lv_topi (fun v395 ev => ?_)
  have hf := bnQ ev hf
  clear ev
  obtain ⟨hg, hf⟩ := hf
  refine va_sld hx hb hX hbl hbA hS (inb_in hg) d_law_549 ?_
  refine lv_topi (fun v396 ev => ?_)
  have hf := bnQ ev hf
  clear ev
  obtain ⟨b397, c398, c399, c400, c401, c402, c403, hal_, hnd_, v404, c405, hc, hf⟩ := hf
  refine m_ll (va_runV (C := "CoinKeeperModel") (As := [.int v396]) (rest := []) ⟨hx, hb, hml, hown, hts⟩ (c_M_count2 l D cy ad fu x2 b397 c398 c399 c400 c401 c402 v396 c403 _ hc H.size) ⟨q_cB hts gw_2056 gw_18 gw_2053 hdu_16 ⟨Nat.le_of_ble_eq_true rfl, Nat.le_of_ble_eq_true rfl⟩, hts _ gw_2054, hts _ gw_2055⟩ (q_preV (q_pre (m_subP hP hal_) (m_subD hD hal_ hnd_) hK hSt hS (m_lF hD hS hA hal_) _) (va_recv hK (m_subP hP hal_) (ci := 12) (q0 := 0) rfl rfl)) rfl rfl hl.1 rfl (lv_room (Nat.le_of_ble_eq_true rfl)) d_law_550 ⟨hkc, hks⟩) hP hD hS hA hal_ rfl (fun H locs hP hD hS => ?_)
  refine W.widen (k := κ + mc391) (n := σ + ms392) (Nat.le_refl _) (Nat.le_refl _) ?_
  obtain ⟨M406, eM_, hf⟩ := bnP hf
  have hP : va_P D classes (mw M406) H := by rw [eM_]; exact hP
  have hD : va_D A (mw M406) := by rw [eM_]; exact hD
  clear eM_ hal_ hnd_ hc
  refine lv_lstore (lv' := [(6, .long v404), (5, .int v394), (0, .ref b), (1, .ref x1), (2, .ref x2), (3, .ref x3), (4, .int x4)]) hx hb d_law_553 hl (by decide) rfl (fun ls hl => ?_)
  refine lv_aload_n hx hb d_law_555 rfl (lv_at hl 4 rfl) ?_
  obtain ⟨b407, c408, hal_, hnd_, v409, hc, hf⟩ := hf
  refine m_li (va_runV (C := "CoinKeeperModel") (As := []) (rest := []) ⟨hx, hb, hml, hown, hts⟩ (c_M_thrown l D cy ad fu x2 b407 c408 _ hc H.size) ⟨q_cB hts gw_1717 gw_18 gw_1714 hdu_2 ⟨Nat.le_of_ble_eq_true rfl, Nat.le_of_ble_eq_true rfl⟩, hts _ gw_1715, hts _ gw_1716⟩ (q_preV (q_pre (m_subP hP hal_) (m_subD hD hal_ hnd_) hK hSt hS (m_lF hD hS hA hal_) _) (va_recv hK (m_subP hP hal_) (ci := 12) (q0 := 0) rfl rfl)) rfl rfl hl.1 rfl (lv_room (Nat.le_of_ble_eq_true rfl)) d_law_556 ⟨hkc, hks⟩) hP hD hS hA hal_ rfl (fun H locs hP hD hS => ?_)
  refine W.widen (k := κ + mc391) (n := σ + ms392) (Nat.le_refl _) (Nat.le_refl _) ?_
  obtain ⟨M410, eM_, hf⟩ := bnP hf
  have hP : va_P D classes (mw M410) H := by rw [eM_]; exact hP
  have hD : va_D A (mw M410) := by rw [eM_]; exact hD
  clear eM_ hal_ hnd_ hc
  refine lv_iload hx hb d_law_559 (lv_at hl 1 rfl) ?_
  refine lv_icmp_eq (tgt := 566) hx hb d_law_561 (by decide) (fun cx => ?_) (fun cx => ?_)
  · have hf := ifpP cx hf
    refine lv_iload hx hb d_law_566 (lv_at hl 1 rfl) ?_
    refine lv_if_ne (tgt := 582) hx hb d_law_568 (by decide) (fun cx => ?_) (fun cx => ?_)
    · have hf := ifnP cx hf
      exact wv_mlaw_582 (fu := fu) F hk_23 _ _ _ _ _ _ _ hf hkc hks _ _ _ hP hD hS (lv_sub hl [2, 3, 4, 5, 6] rfl)
    · have hf := ifpP cx hf
      refine lv_aload_n hx hb d_law_571 rfl (lv_at hl 5 rfl) ?_
      refine lv_iconst (v := 0) hx hb d_law_572 (by decide) ?_
      obtain ⟨n_, f_, hm_, hin_, hf⟩ := hf
      obtain ⟨ix_, hi_⟩ := m_ix hm_
      refine va_lald hx hb hK hP ix_ 2 hi_ rfl (inb_in hin_) d_law_573 ?_
      obtain ⟨v411, ev⟩ : ∃ z, z = f_ (0 : Int32).toNatClampNeg := ⟨_, rfl⟩
      first | rw [← ev] at hf ⊢ | rw [← ev]
      clear ev hi_ hm_ hin_
      refine lv_lload hx hb d_law_574 (lv_at hl 0 rfl) ?_
      refine W.lcmp hx hb d_law_576 ?_
      refine lv_if_eq (tgt := 582) hx hb d_law_577 (by decide) (fun cx => ?_) (fun cx => ?_)
      · have hf := ifpP cx hf
        exact wv_mlaw_582 (fu := fu) F hk_23 _ _ _ _ _ _ _ hf hkc hks _ _ _ hP hD hS (lv_sub hl [2, 3, 4, 5, 6] rfl)
      · have hf := ifnP cx hf
        refine lv_iconst (v := 0) hx hb d_law_580 (by decide) ?_
        exact hf.elim
  · have hf := ifnP cx hf
    refine lv_iconst (v := 0) hx hb d_law_564 (by decide) ?_
    exact hf.elim
