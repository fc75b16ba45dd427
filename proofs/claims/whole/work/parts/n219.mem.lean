set_option maxRecDepth 100000 in
def xb_9 (fu : Nat) (cy : Nat → ClassId) (ad : Nat → Nat) (mi L : Nat) (xs : Nat → Int32) (k_23 : Nat → Nat → Mm → Nat → Nat → Nat → Int32 → Prop) (κ σ : Nat) (M : Mm) (x1 : Nat) (x2 : Nat) (x3 : Nat) (x4 : Int32) : Prop :=
  bnd (x4 + (1 : Int32)) fun v427 => gdP (inb v427 L) <| bnd (xs v427.toNatClampNeg) fun v428 => ∃ mc429 ms430 : Nat, (κ + mc429 ≤ 601024 ∧ σ + ms430 ≤ 7293034) ∧ xw_mL_signed fu mc429 ms430 cy ad mi (fun v432 M431 => bnd (x4 + (1 : Int32)) fun v433 => gdP (inb v433 L) <| bnd (xs v433.toNatClampNeg) fun v434 => ∃ (b435 : Nat → Nat) (c436 : Nat → Int32) (c437 : Nat → Int32) (c438 : Nat → Int32) (c439 : Nat → Int32) (c440 : Nat → Int32) (c441 : Nat → Int32) (c442 : Nat → Int32) (c443 : Nat → Int32) (c444 : Nat → Int32) (c445 : Nat → Int32) (c446 : Nat → Int32) (c447 : Nat → Int32) (c448 : Nat → Int32) (c449 : Nat → Int32) (c450 : Nat → Int32) (c451 : Nat → Int32) (c452 : Nat → Int32) (c453 : Nat → Int32) (c454 : Nat → Int32) (c455 : Nat → Int32) (c456 : Nat → Int32) (c457 : Nat → Int32) (c458 : Nat → Int32) (c459 : Nat → Int32) (c460 : Nat → Int32), mal M431 [(x2, .inr (12, mo b435 c438)), ((b435 0), .inl (cy 0, 3000, .inl c436)), ((b435 36), .inl (cy 0, 32, .inl c439)), ((b435 39), .inl (cy 1, 8, .inl c437)), ((b435 41), .inl (cy 1, 8, .inl c440)), ((b435 48), .inl (cy 1, 8, .inl c441)), ((b435 49), .inl (cy 1, 8, .inl c442)), ((b435 50), .inl (cy 1, 16, .inl c443)), ((b435 51), .inl (cy 1, 8, .inl c444)), ((b435 52), .inl (cy 1, 8, .inl c445)), ((b435 53), .inl (cy 1, 8, .inl c446)), ((b435 54), .inl (cy 1, 8, .inl c447)), ((b435 55), .inl (cy 1, 8, .inl c448)), ((b435 56), .inl (cy 1, 8, .inl c449)), ((b435 57), .inl (cy 1, 8, .inl c450)), ((b435 58), .inl (cy 1, 8, .inl c451)), ((b435 59), .inl (cy 1, 8, .inl c452)), ((b435 60), .inl (cy 1, 8, .inl c453)), ((b435 61), .inl (cy 1, 8, .inl c454)), ((b435 62), .inl (cy 1, 8, .inl c455)), ((b435 63), .inl (cy 1, 8, .inl c456)), ((b435 64), .inl (cy 1, 8, .inl c457)), ((b435 65), .inl (cy 1, 8, .inl c458)), ((b435 66), .inl (cy 1, 8, .inl c459)), ((b435 67), .inl (cy 1, 8, .inl c460))] ∧ mnd (List.map (fun x : Nat × va_E => x.1) [(x2, .inr (12, mo b435 c438)), ((b435 0), .inl (cy 0, 3000, .inl c436)), ((b435 36), .inl (cy 0, 32, .inl c439)), ((b435 39), .inl (cy 1, 8, .inl c437)), ((b435 41), .inl (cy 1, 8, .inl c440)), ((b435 48), .inl (cy 1, 8, .inl c441)), ((b435 49), .inl (cy 1, 8, .inl c442)), ((b435 50), .inl (cy 1, 16, .inl c443)), ((b435 51), .inl (cy 1, 8, .inl c444)), ((b435 52), .inl (cy 1, 8, .inl c445)), ((b435 53), .inl (cy 1, 8, .inl c446)), ((b435 54), .inl (cy 1, 8, .inl c447)), ((b435 55), .inl (cy 1, 8, .inl c448)), ((b435 56), .inl (cy 1, 8, .inl c449)), ((b435 57), .inl (cy 1, 8, .inl c450)), ((b435 58), .inl (cy 1, 8, .inl c451)), ((b435 59), .inl (cy 1, 8, .inl c452)), ((b435 60), .inl (cy 1, 8, .inl c453)), ((b435 61), .inl (cy 1, 8, .inl c454)), ((b435 62), .inl (cy 1, 8, .inl c455)), ((b435 63), .inl (cy 1, 8, .inl c456)), ((b435 64), .inl (cy 1, 8, .inl c457)), ((b435 65), .inl (cy 1, 8, .inl c458)), ((b435 66), .inl (cy 1, 8, .inl c459)), ((b435 67), .inl (cy 1, 8, .inl c460))]) ∧ ∃ (v461 : Int32) (c462 : Nat → Int32) (c463 : Nat → Int32) (c464 : Nat → Int32) (c465 : Nat → Int32) (c466 : Nat → Int32) (c467 : Nat → Int32) (c468 : Nat → Int32) (c469 : Nat → Int32) (c470 : Nat → Int32) (c471 : Nat → Int32) (c472 : Nat → Int32) (c473 : Nat → Int32) (c474 : Nat → Int32) (c475 : Nat → Int32) (c476 : Nat → Int32) (c477 : Nat → Int32) (c478 : Nat → Int32) (c479 : Nat → Int32) (c480 : Nat → Int32) (c481 : Nat → Int32) (c482 : Nat → Int32) (c483 : Nat → Int32) (c484 : Nat → Int32), x_M_signed fu c436 c437 v434 c438 c439 c440 c441 c442 c443 c444 c445 c446 c447 c448 c449 c450 c451 c452 c453 c454 c455 c456 c457 c458 c459 c460 = some (v461, c462, c463, c464, c465, c466, c467, c468, c469, c470, c471, c472, c473, c474, c475, c476, c477, c478, c479, c480, c481, c482, c483, c484) ∧ bnd (mov M431 [(x2, .inr (12, mo b435 c462)), ((b435 0), .inl (cy 0, 3000, .inl c436)), ((b435 36), .inl (cy 0, 32, .inl c463)), ((b435 39), .inl (cy 1, 8, .inl c437)), ((b435 41), .inl (cy 1, 8, .inl c464)), ((b435 48), .inl (cy 1, 8, .inl c465)), ((b435 49), .inl (cy 1, 8, .inl c466)), ((b435 50), .inl (cy 1, 16, .inl c467)), ((b435 51), .inl (cy 1, 8, .inl c468)), ((b435 52), .inl (cy 1, 8, .inl c469)), ((b435 53), .inl (cy 1, 8, .inl c470)), ((b435 54), .inl (cy 1, 8, .inl c471)), ((b435 55), .inl (cy 1, 8, .inl c472)), ((b435 56), .inl (cy 1, 8, .inl c473)), ((b435 57), .inl (cy 1, 8, .inl c474)), ((b435 58), .inl (cy 1, 8, .inl c475)), ((b435 59), .inl (cy 1, 8, .inl c476)), ((b435 60), .inl (cy 1, 8, .inl c477)), ((b435 61), .inl (cy 1, 8, .inl c478)), ((b435 62), .inl (cy 1, 8, .inl c479)), ((b435 63), .inl (cy 1, 8, .inl c480)), ((b435 64), .inl (cy 1, 8, .inl c481)), ((b435 65), .inl (cy 1, 8, .inl c482)), ((b435 66), .inl (cy 1, 8, .inl c483)), ((b435 67), .inl (cy 1, 8, .inl c484))]) fun M485 => ∃ (b486 : Nat → Nat) (c487 : Nat → Int32), mal M485 [(x2, .inr (12, mo b486 c487))] ∧ mnd (List.map (fun x : Nat × va_E => x.1) [(x2, .inr (12, mo b486 c487))]) ∧ ∃ (v488 : Int32), x_M_thrown fu c487 = some (v488) ∧ bnd (mov M485 [(x2, .inr (12, mo b486 c487))]) fun M489 => if v488 = v432 then (if v432 = 0 then (maj M489 x3 (cy 2) (0 : Int32) fun v490 => if v461 = 0 then (xv_mlaw_653 fu cy ad mi L xs k_23 (κ + mc429) (σ + ms430) M489 x1 x2 x3 x4 (0 : Int64) v490) else (xv_mlaw_653 fu cy ad mi L xs k_23 (κ + mc429) (σ + ms430) M489 x1 x2 x3 x4 (1 : Int64) v490)) else (xv_mlaw_659 fu cy ad mi L xs k_23 (κ + mc429) (σ + ms430) M489 x1 x2 x3 x4)) else (False)) 0 0 M x1 v428 x3
set_option maxHeartbeats 8000000 in
set_option maxRecDepth 100000 in
theorem wb_9 {p : Program} {l : Launch} {e : Env} {s : State} {m : MethodId} {below : List Frame} {meth : Method} {c : Code} {D : va_G} {cy : Nat → ClassId} {A : Nat → Prop} {ad : Nat → Nat} {mi b L : Nat} {xs : Nat → Int32} {fu : Nat} {k_23 : Nat → Nat → Mm → Nat → Nat → Nat → Int32 → Prop} (F : FxL p l s m meth c D cy ad mi A b L xs) (hk_23 : Iw_mlaw_23 p l e s m below meth c D cy A ad mi b L xs k_23) (κ σ : Nat) (M : Mm) (x1 : Nat) (x2 : Nat) (x3 : Nat) (x4 : Int32) (hf : xb_9 fu cy ad mi L xs k_23 κ σ M x1 x2 x3 x4) (hkc : κ ≤ 601024) (hks : σ ≤ 7293034) (H : Heap) (locs : List Loc) (ls : Array Slot) (hP : va_P D classes (mw M) H) (hD : va_D A (mw M)) (hS : va_S A s.heap H locs) (hl : lv_has ls 8 [(0, .ref b), (1, .ref x1), (2, .ref x2), (3, .ref x3), (4, .int x4)]) : W p l e room_1 s m #[Value.ref b] below meth c H locs κ σ (lw_Z below #[Value.ref b] s) (F0 m 599 ls []) := by
  obtain ⟨hlt, hx, hb, hr, hml, hown, hts, hlocks, hK, hA, hSt, hT, hMi, hX, hbl, hbA, hNC, hfo⟩ := id F
  unfold xb_9 at hf
  refine lv_aload_n hx hb d_law_599 rfl (lv_at hl 1 rfl) ?_
  refine lv_aload_n hx hb d_law_600 rfl (lv_at hl 0 rfl) ?_
  refine lv_iload hx hb d_law_601 (lv_at hl 4 rfl) ?_
  refine lv_iconst (v := 1) hx hb d_law_603 (by decide) ?_
  refine lv_iadd hx hb d_law_604 ?_
  refine lv_topi (fun v427 ev => ?_)
  have hf := bnQ ev hf
  clear ev
  obtain ⟨hg, hf⟩ := hf
  refine va_sld hx hb hX hbl hbA hS (inb_in hg) d_law_605 ?_
  refine lv_topi (fun v428 ev => ?_)
  have hf := bnQ ev hf
  clear ev
  refine lv_aload_n hx hb d_law_606 rfl (lv_at hl 3 rfl) ?_
  obtain ⟨mc429, ms430, ⟨hc_, hd_⟩, hf⟩ := hf
  refine mm_ai (q_runSW (As := [.ref x1, .int v428, .ref x3]) (rest := []) ⟨hx, hb, hml, hown, hts⟩ (cw_mL_signed l hlt D cy ad mi fu mc429 ms430 x1 v428 x3 M _ hf H.size) gw_1350 gw_0 gw_1348 gw_1349 hdu_19 ⟨Nat.le_of_ble_eq_true rfl, Nat.le_of_ble_eq_true rfl⟩ rfl rfl (q_preM hP hD hK hSt hT hMi hS (m_free hD hS hA) _) rfl hl.1 (Nat.le_of_ble_eq_true rfl) d_law_607 ⟨hc_, hd_⟩) hD hS hA (fun v432 M431 H locs hf hP hD hS => ?_)
  have hkc : κ + mc429 ≤ 601024 := hc_
  have hks : σ + ms430 ≤ 7293034 := hd_
  clear hc_ hd_
  refine lv_istore (lv' := [(5, .int v432), (0, .ref b), (1, .ref x1), (2, .ref x2), (3, .ref x3), (4, .int x4)]) hx hb d_law_610 hl (by decide) rfl (fun ls hl => ?_)
  refine lv_aload_n hx hb d_law_612 rfl (lv_at hl 3 rfl) ?_
  refine lv_aload_n hx hb d_law_613 rfl (lv_at hl 1 rfl) ?_
  refine lv_iload hx hb d_law_614 (lv_at hl 5 rfl) ?_
  refine lv_iconst (v := 1) hx hb d_law_616 (by decide) ?_
  refine lv_iadd hx hb d_law_617 ?_
  refine lv_topi (fun v433 ev => ?_)
  have hf := bnQ ev hf
  clear ev
  obtain ⟨hg, hf⟩ := hf
  refine va_sld hx hb hX hbl hbA hS (inb_in hg) d_law_618 ?_
  refine lv_topi (fun v434 ev => ?_)
  have hf := bnQ ev hf
  clear ev
  refine ex26 hf (fun b435 c436 c437 c438 c439 c440 c441 c442 c443 c444 c445 c446 c447 c448 c449 c450 c451 c452 c453 c454 c455 c456 c457 c458 c459 c460 hf => ?_)
  obtain ⟨hal_, hnd_, hf⟩ := hf
  refine ex24 hf (fun v461 c462 c463 c464 c465 c466 c467 c468 c469 c470 c471 c472 c473 c474 c475 c476 c477 c478 c479 c480 c481 c482 c483 c484 hf => ?_)
  obtain ⟨hc, hf⟩ := hf
  refine m_li (va_runV (C := "CoinKeeperModel") (As := [.int v434]) (rest := []) ⟨hx, hb, hml, hown, hts⟩ (c_M_signed l D cy ad fu x2 b435 c436 c437 v434 c438 c439 c440 c441 c442 c443 c444 c445 c446 c447 c448 c449 c450 c451 c452 c453 c454 c455 c456 c457 c458 c459 c460 _ hc H.size) ⟨q_cB hts gw_2065 gw_18 gw_2062 hdu_20 ⟨Nat.le_of_ble_eq_true rfl, Nat.le_of_ble_eq_true rfl⟩, hts _ gw_2063, hts _ gw_2064⟩ (q_preV (q_pre (m_subP hP hal_) (m_subD hD hal_ hnd_) hK hSt hS (m_lF hD hS hA hal_) _) (va_recv hK (m_subP hP hal_) (ci := 12) (q0 := 0) rfl rfl)) rfl rfl hl.1 rfl (lv_room (Nat.le_of_ble_eq_true rfl)) d_law_619 ⟨hkc, hks⟩) hP hD hS hA hal_ rfl (fun H locs hP hD hS => ?_)
  refine W.widen (k := κ + mc429) (n := σ + ms430) (Nat.le_refl _) (Nat.le_refl _) ?_
  obtain ⟨M485, eM_, hf⟩ := bnP hf
  have hP : va_P D classes (mw M485) H := by rw [eM_]; exact hP
  have hD : va_D A (mw M485) := by rw [eM_]; exact hD
  clear eM_ hal_ hnd_ hc
  refine lv_istore (lv' := [(6, .int v461), (5, .int v432), (0, .ref b), (1, .ref x1), (2, .ref x2), (3, .ref x3), (4, .int x4)]) hx hb d_law_622 hl (by decide) rfl (fun ls hl => ?_)
  refine lv_aload_n hx hb d_law_624 rfl (lv_at hl 4 rfl) ?_
  obtain ⟨b486, c487, hal_, hnd_, v488, hc, hf⟩ := hf
  refine m_li (va_runV (C := "CoinKeeperModel") (As := []) (rest := []) ⟨hx, hb, hml, hown, hts⟩ (c_M_thrown l D cy ad fu x2 b486 c487 _ hc H.size) ⟨q_cB hts gw_1717 gw_18 gw_1714 hdu_2 ⟨Nat.le_of_ble_eq_true rfl, Nat.le_of_ble_eq_true rfl⟩, hts _ gw_1715, hts _ gw_1716⟩ (q_preV (q_pre (m_subP hP hal_) (m_subD hD hal_ hnd_) hK hSt hS (m_lF hD hS hA hal_) _) (va_recv hK (m_subP hP hal_) (ci := 12) (q0 := 0) rfl rfl)) rfl rfl hl.1 rfl (lv_room (Nat.le_of_ble_eq_true rfl)) d_law_625 ⟨hkc, hks⟩) hP hD hS hA hal_ rfl (fun H locs hP hD hS => ?_)
  refine W.widen (k := κ + mc429) (n := σ + ms430) (Nat.le_refl _) (Nat.le_refl _) ?_
  obtain ⟨M489, eM_, hf⟩ := bnP hf
  have hP : va_P D classes (mw M489) H := by rw [eM_]; exact hP
  have hD : va_D A (mw M489) := by rw [eM_]; exact hD
  clear eM_ hal_ hnd_ hc
  refine lv_iload hx hb d_law_628 (lv_at hl 1 rfl) ?_
  refine lv_icmp_eq (tgt := 635) hx hb d_law_630 (by decide) (fun cx => ?_) (fun cx => ?_)
  · have hf := ifpP cx hf
    refine lv_iload hx hb d_law_635 (lv_at hl 1 rfl) ?_
    refine lv_if_ne (tgt := 659) hx hb d_law_637 (by decide) (fun cx => ?_) (fun cx => ?_)
    · have hf := ifnP cx hf
      exact wv_mlaw_659 (fu := fu) F hk_23 _ _ _ _ _ _ _ hf hkc hks _ _ _ hP hD hS (lv_sub hl [2, 3, 4, 5, 6] rfl)
    · have hf := ifpP cx hf
      refine lv_aload_n hx hb d_law_640 rfl (lv_at hl 5 rfl) ?_
      refine lv_iconst (v := 0) hx hb d_law_641 (by decide) ?_
      obtain ⟨n_, f_, hm_, hin_, hf⟩ := hf
      obtain ⟨ix_, hi_⟩ := m_ix hm_
      refine va_lald hx hb hK hP ix_ 2 hi_ rfl (inb_in hin_) d_law_642 ?_
      obtain ⟨v490, ev⟩ : ∃ z, z = f_ (0 : Int32).toNatClampNeg := ⟨_, rfl⟩
      first | rw [← ev] at hf ⊢ | rw [← ev]
      clear ev hi_ hm_ hin_
      refine lv_iload hx hb d_law_643 (lv_at hl 0 rfl) ?_
      refine lv_if_eq (tgt := 652) hx hb d_law_645 (by decide) (fun cx => ?_) (fun cx => ?_)
      · have hf := ifpP cx hf
        refine lv_lconst (v := 0) hx hb d_law_652 (by decide) ?_
        exact wv_mlaw_653 (fu := fu) F hk_23 _ _ _ _ _ _ _ _ _ hf hkc hks _ _ _ hP hD hS (lv_sub hl [2, 3, 4, 5, 6] rfl)
      · have hf := ifnP cx hf
        refine lv_lconst (v := 1) hx hb d_law_648 (by decide) ?_
        refine lv_goto (tgt := 653) hx hb d_law_649 (by decide) ?_
        exact wv_mlaw_653 (fu := fu) F hk_23 _ _ _ _ _ _ _ _ _ hf hkc hks _ _ _ hP hD hS (lv_sub hl [2, 3, 4, 5, 6] rfl)
  · have hf := ifnP cx hf
    refine lv_iconst (v := 0) hx hb d_law_633 (by decide) ?_
    exact hf.elim
