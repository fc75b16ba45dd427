set_option maxRecDepth 100000 in
def xb_8 (fu : Nat) (cy : Nat → ClassId) (ad : Nat → Nat) (mi L : Nat) (xs : Nat → Int32) (k_23 : Nat → Nat → Mm → Nat → Nat → Nat → Int32 → Prop) (κ σ : Nat) (M : Mm) (x1 : Nat) (x2 : Nat) (x3 : Nat) (x4 : Int32) : Prop :=
  mck M x1 0 <| ∃ mc412 ms413 : Nat, (κ + mc412 ≤ 601024 ∧ σ + ms413 ≤ 7293034) ∧ xw_mK_digest fu mc412 ms413 cy ad mi (fun v415 M414 => ∃ (b416 : Nat → Nat) (c417 : Nat → Int32) (c418 : Nat → Int32) (c419 : Nat → Int64) (c420 : Nat → Int32) (c421 : Nat → Int32) (c422 : Nat → Int32) (c423 : Nat → Int32), mal M414 [(x2, .inr (12, mo b416 c423)), ((b416 14), .inl (cy 1, 17600, .inl c417)), ((b416 17), .inl (cy 1, 2200, .inl c418)), ((b416 25), .inl (cy 2, 11600, .inr (.inl c419))), ((b416 28), .inl (cy 1, 11600, .inl c420)), ((b416 29), .inl (cy 1, 11600, .inl c421)), ((b416 33), .inl (cy 3, 11600, .inl c422))] ∧ mnd (List.map (fun x : Nat × va_E => x.1) [(x2, .inr (12, mo b416 c423)), ((b416 14), .inl (cy 1, 17600, .inl c417)), ((b416 17), .inl (cy 1, 2200, .inl c418)), ((b416 25), .inl (cy 2, 11600, .inr (.inl c419))), ((b416 28), .inl (cy 1, 11600, .inl c420)), ((b416 29), .inl (cy 1, 11600, .inl c421)), ((b416 33), .inl (cy 3, 11600, .inl c422))]) ∧ ∃ (v424 : Int64) (c425 : Nat → Int32), x_M_digest fu c417 c418 c419 c420 c421 c422 c423 = some (v424, c425) ∧ bnd (mov M414 [(x2, .inr (12, mo b416 c425)), ((b416 14), .inl (cy 1, 17600, .inl c417)), ((b416 17), .inl (cy 1, 2200, .inl c418)), ((b416 25), .inl (cy 2, 11600, .inr (.inl c419))), ((b416 28), .inl (cy 1, 11600, .inl c420)), ((b416 29), .inl (cy 1, 11600, .inl c421)), ((b416 33), .inl (cy 3, 11600, .inl c422))]) fun M426 => if (lg_cmp v415 v424) = 0 then (xv_mlaw_662 fu cy ad mi L xs k_23 (κ + mc412) (σ + ms413) M426 x1 x2 x3 x4) else (False)) 0 0 M x1
set_option maxHeartbeats 8000000 in
set_option maxRecDepth 100000 in
theorem wb_8 {p : Program} {l : Launch} {e : Env} {s : State} {m : MethodId} {below : List Frame} {meth : Method} {c : Code} {D : va_G} {cy : Nat → ClassId} {A : Nat → Prop} {ad : Nat → Nat} {mi b L : Nat} {xs : Nat → Int32} {fu : Nat} {k_23 : Nat → Nat → Mm → Nat → Nat → Nat → Int32 → Prop} (F : FxL p l s m meth c D cy ad mi A b L xs) (hk_23 : Iw_mlaw_23 p l e s m below meth c D cy A ad mi b L xs k_23) (κ σ : Nat) (M : Mm) (x1 : Nat) (x2 : Nat) (x3 : Nat) (x4 : Int32) (hf : xb_8 fu cy ad mi L xs k_23 κ σ M x1 x2 x3 x4) (hkc : κ ≤ 601024) (hks : σ ≤ 7293034) (H : Heap) (locs : List Loc) (ls : Array Slot) (hP : va_P D classes (mw M) H) (hD : va_D A (mw M)) (hS : va_S A s.heap H locs) (hl : lv_has ls 8 [(0, .ref b), (1, .ref x1), (2, .ref x2), (3, .ref x3), (4, .int x4)]) : W p l e room_1 s m #[Value.ref b] below meth c H locs κ σ (lw_Z below #[Value.ref b] s) (F0 m 585 ls []) := by
  obtain ⟨hlt, hx, hb, hr, hml, hown, hts, hlocks, hK, hA, hSt, hT, hMi, hX, hbl, hbA, hNC, hfo⟩ := id F
  unfold xb_8 at hf
  refine lv_aload_n hx hb d_law_585 rfl (lv_at hl 1 rfl) ?_
  obtain ⟨fs_, hm_, hf⟩ := hf
  obtain ⟨ix_, hi_⟩ := m_ix hm_
  obtain ⟨mc412, ms413, ⟨hc_, hd_⟩, hf⟩ := hf
  refine m_al (va_runV (C := "CoinKeeper") (As := []) (rest := []) ⟨hx, hb, hml, hown, hts⟩ (cw_mK_digest l D cy ad mi fu mc412 ms413 x1 M _ hf H.size) ⟨q_cB hts gw_543 gw_1 gw_540 hdu_17 ⟨Nat.le_of_ble_eq_true rfl, Nat.le_of_ble_eq_true rfl⟩, hts _ gw_541, hts _ gw_542⟩ (q_preVM (q_preM hP hD hK hSt hT hMi hS (m_free hD hS hA) _) (va_recv hK hP (ci := 0) (q0 := ix_) rfl hi_)) rfl rfl hl.1 rfl (lv_room (Nat.le_of_ble_eq_true rfl)) d_law_586 ⟨hc_, hd_⟩) hD hS hA (fun v415 M414 H locs hf hP hD hS => ?_)
  have hkc : κ + mc412 ≤ 601024 := hc_
  have hks : σ + ms413 ≤ 7293034 := hd_
  clear hc_ hd_
  refine lv_aload_n hx hb d_law_589 rfl (lv_at hl 2 rfl) ?_
  obtain ⟨b416, c417, c418, c419, c420, c421, c422, c423, hal_, hnd_, v424, c425, hc, hf⟩ := hf
  refine m_ll (va_runV (C := "CoinKeeperModel") (As := []) (rest := [.long v415]) ⟨hx, hb, hml, hown, hts⟩ (c_M_digest l D cy ad fu x2 b416 c417 c418 c419 c420 c421 c422 c423 _ hc H.size) ⟨q_cB hts gw_2060 gw_18 gw_2057 hdu_18 ⟨Nat.le_of_ble_eq_true rfl, Nat.le_of_ble_eq_true rfl⟩, hts _ gw_2058, hts _ gw_2059⟩ (q_preV (q_pre (m_subP hP hal_) (m_subD hD hal_ hnd_) hK hSt hS (m_lF hD hS hA hal_) _) (va_recv hK (m_subP hP hal_) (ci := 12) (q0 := 0) rfl rfl)) rfl rfl hl.1 rfl (lv_room (Nat.le_of_ble_eq_true rfl)) d_law_590 ⟨hkc, hks⟩) hP hD hS hA hal_ rfl (fun H locs hP hD hS => ?_)
  refine W.widen (k := κ + mc412) (n := σ + ms413) (Nat.le_refl _) (Nat.le_refl _) ?_
  obtain ⟨M426, eM_, hf⟩ := bnP hf
  have hP : va_P D classes (mw M426) H := by rw [eM_]; exact hP
  have hD : va_D A (mw M426) := by rw [eM_]; exact hD
  clear eM_ hal_ hnd_ hc
  refine W.lcmp hx hb d_law_593 ?_
  refine lv_if_eq (tgt := 662) hx hb d_law_594 (by decide) (fun cx => ?_) (fun cx => ?_)
  · have hf := ifpP cx hf
    exact wv_mlaw_662 (fu := fu) F hk_23 _ _ _ _ _ _ _ hf hkc hks _ _ _ hP hD hS (lv_sub hl [0, 1, 2, 3, 4] rfl)
  · have hf := ifnP cx hf
    refine lv_iconst (v := 0) hx hb d_law_597 (by decide) ?_
    exact hf.elim
