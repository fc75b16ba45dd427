set_option maxRecDepth 100000 in
def xb_1 (fu : Nat) (cy : Nat → ClassId) (ad : Nat → Nat) (mi L : Nat) (xs : Nat → Int32) (k_23 : Nat → Nat → Mm → Nat → Nat → Nat → Int32 → Prop) (κ σ : Nat) (M : Mm) (x1 : Nat) (x2 : Nat) (x3 : Nat) (x4 : Int32) : Prop :=
  bnd (x4 + (1 : Int32)) fun v40 => gdP (inb v40 L) <| bnd (xs v40.toNatClampNeg) fun v41 => ∃ mc42 ms43 : Nat, (κ + mc42 ≤ 601024 ∧ σ + ms43 ≤ 7293034) ∧ xw_mL_end fu mc42 ms43 cy ad mi (fun v45 M44 => bnd (x4 + (1 : Int32)) fun v46 => gdP (inb v46 L) <| bnd (xs v46.toNatClampNeg) fun v47 => ∃ (b48 : Nat → Nat) (c49 : Nat → Int32), mal M44 [(x2, .inr (12, mo b48 c49))] ∧ mnd (List.map (fun x : Nat × va_E => x.1) [(x2, .inr (12, mo b48 c49))]) ∧ ∃ (v50 : Int32) (c51 : Nat → Int32), x_M_end fu v47 c49 = some (v50, c51) ∧ bnd (mov M44 [(x2, .inr (12, mo b48 c51))]) fun M52 => ∃ (b53 : Nat → Nat) (c54 : Nat → Int32), mal M52 [(x2, .inr (12, mo b53 c54))] ∧ mnd (List.map (fun x : Nat × va_E => x.1) [(x2, .inr (12, mo b53 c54))]) ∧ ∃ (v55 : Int32), x_M_thrown fu c54 = some (v55) ∧ bnd (mov M52 [(x2, .inr (12, mo b53 c54))]) fun M56 => if v55 = v45 then (if v45 = 0 then (maj M56 x3 (cy 2) (0 : Int32) fun v57 => if (lg_cmp v57 v50.toInt64) = 0 then (xv_mlaw_253 fu cy ad mi L xs k_23 (κ + mc42) (σ + ms43) M56 x1 x2 x3 x4) else (False)) else (xv_mlaw_253 fu cy ad mi L xs k_23 (κ + mc42) (σ + ms43) M56 x1 x2 x3 x4)) else (False)) 0 0 M x1 v41 x3
set_option maxHeartbeats 8000000 in
set_option maxRecDepth 100000 in
theorem wb_1 {p : Program} {l : Launch} {e : Env} {s : State} {m : MethodId} {below : List Frame} {meth : Method} {c : Code} {D : va_G} {cy : Nat → ClassId} {A : Nat → Prop} {ad : Nat → Nat} {mi b L : Nat} {xs : Nat → Int32} {fu : Nat} {k_23 : Nat → Nat → Mm → Nat → Nat → Nat → Int32 → Prop} (F : FxL p l s m meth c D cy ad mi A b L xs) (hk_23 : Iw_mlaw_23 p l e s m below meth c D cy A ad mi b L xs k_23) (κ σ : Nat) (M : Mm) (x1 : Nat) (x2 : Nat) (x3 : Nat) (x4 : Int32) (hf : xb_1 fu cy ad mi L xs k_23 κ σ M x1 x2 x3 x4) (hkc : κ ≤ 601024) (hks : σ ≤ 7293034) (H : Heap) (locs : List Loc) (ls : Array Slot) (hP : va_P D classes (mw M) H) (hD : va_D A (mw M)) (hS : va_S A s.heap H locs) (hl : lv_has ls 8 [(0, .ref b), (1, .ref x1), (2, .ref x2), (3, .ref x3), (4, .int x4)]) : W p l e room_1 s m #[Value.ref b] below meth c H locs κ σ (lw_Z below #[Value.ref b] s) (F0 m 200 ls []) := by
  obtain ⟨hlt, hx, hb, hr, hml, hown, hts, hlocks, hK, hA, hSt, hT, hMi, hX, hbl, hbA, hNC, hfo⟩ := id F
  unfold xb_1 at hf
  refine lv_aload_n hx hb d_law_200 rfl (lv_at hl 1 rfl) ?_
  refine lv_aload_n hx hb d_law_201 rfl (lv_at hl 0 rfl) ?_
  refine lv_iload hx hb d_law_202 (lv_at hl 4 rfl) ?_
  refine lv_iconst (v := 1) hx hb d_law_204 (by decide) ?_
  refine lv_iadd hx hb d_law_205 ?_
  refine lv_topi (fun v40 ev => ?_)
  have hf := bnQ ev hf
  clear ev
  obtain ⟨hg, hf⟩ := hf
  refine va_sld hx hb hX hbl hbA hS (inb_in hg) d_law_206 ?_
  refine lv_topi (fun v41 ev => ?_)
  have hf := bnQ ev hf
  clear ev
  refine lv_aload_n hx hb d_law_207 rfl (lv_at hl 3 rfl) ?_
  obtain ⟨mc42, ms43, ⟨hc_, hd_⟩, hf⟩ := hf
  refine mm_ai (q_runSW (As := [.ref x1, .int v41, .ref x3]) (rest := []) ⟨hx, hb, hml, hown, hts⟩ (cw_mL_end l hlt D cy ad mi fu mc42 ms43 x1 v41 x3 M _ hf H.size) gw_645 gw_0 gw_643 gw_644 hdu_3 ⟨Nat.le_of_ble_eq_true rfl, Nat.le_of_ble_eq_true rfl⟩ rfl rfl (q_preM hP hD hK hSt hT hMi hS (m_free hD hS hA) _) rfl hl.1 (Nat.le_of_ble_eq_true rfl) d_law_208 ⟨hc_, hd_⟩) hD hS hA (fun v45 M44 H locs hf hP hD hS => ?_)
  have hkc : κ + mc42 ≤ 601024 := hc_
  have hks : σ + ms43 ≤ 7293034 := hd_
  clear hc_ hd_
  refine lv_istore (lv' := [(5, .int v45), (0, .ref b), (1, .ref x1), (2, .ref x2), (3, .ref x3), (4, .int x4)]) hx hb d_law_211 hl (by decide) rfl (fun ls hl => ?_)
  refine lv_aload_n hx hb d_law_213 rfl (lv_at hl 3 rfl) ?_
  refine lv_aload_n hx hb d_law_214 rfl (lv_at hl 1 rfl) ?_
  refine lv_iload hx hb d_law_215 (lv_at hl 5 rfl) ?_
  refine lv_iconst (v := 1) hx hb d_law_217 (by decide) ?_
  refine lv_iadd hx hb d_law_218 ?_
  refine lv_topi (fun v46 ev => ?_)
  have hf := bnQ ev hf
  clear ev
  obtain ⟨hg, hf⟩ := hf
  refine va_sld hx hb hX hbl hbA hS (inb_in hg) d_law_219 ?_
  refine lv_topi (fun v47 ev => ?_)
  have hf := bnQ ev hf
  clear ev
  obtain ⟨b48, c49, hal_, hnd_, v50, c51, hc, hf⟩ := hf
  refine m_li (va_runV (C := "CoinKeeperModel") (As := [.int v47]) (rest := []) ⟨hx, hb, hml, hown, hts⟩ (c_M_end l D cy ad fu x2 b48 v47 c49 _ hc H.size) ⟨q_cB hts gw_1729 gw_18 gw_1726 hdu_4 ⟨Nat.le_of_ble_eq_true rfl, Nat.le_of_ble_eq_true rfl⟩, hts _ gw_1727, hts _ gw_1728⟩ (q_preV (q_pre (m_subP hP hal_) (m_subD hD hal_ hnd_) hK hSt hS (m_lF hD hS hA hal_) _) (va_recv hK (m_subP hP hal_) (ci := 12) (q0 := 0) rfl rfl)) rfl rfl hl.1 rfl (lv_room (Nat.le_of_ble_eq_true rfl)) d_law_220 ⟨hkc, hks⟩) hP hD hS hA hal_ rfl (fun H locs hP hD hS => ?_)
  refine W.widen (k := κ + mc42) (n := σ + ms43) (Nat.le_refl _) (Nat.le_refl _) ?_
  obtain ⟨M52, eM_, hf⟩ := bnP hf
  have hP : va_P D classes (mw M52) H := by rw [eM_]; exact hP
  have hD : va_D A (mw M52) := by rw [eM_]; exact hD
  clear eM_ hal_ hnd_ hc
  refine lv_istore (lv' := [(6, .int v50), (5, .int v45), (0, .ref b), (1, .ref x1), (2, .ref x2), (3, .ref x3), (4, .int x4)]) hx hb d_law_223 hl (by decide) rfl (fun ls hl => ?_)
  refine lv_aload_n hx hb d_law_225 rfl (lv_at hl 4 rfl) ?_
  obtain ⟨b53, c54, hal_, hnd_, v55, hc, hf⟩ := hf
  refine m_li (va_runV (C := "CoinKeeperModel") (As := []) (rest := []) ⟨hx, hb, hml, hown, hts⟩ (c_M_thrown l D cy ad fu x2 b53 c54 _ hc H.size) ⟨q_cB hts gw_1717 gw_18 gw_1714 hdu_2 ⟨Nat.le_of_ble_eq_true rfl, Nat.le_of_ble_eq_true rfl⟩, hts _ gw_1715, hts _ gw_1716⟩ (q_preV (q_pre (m_subP hP hal_) (m_subD hD hal_ hnd_) hK hSt hS (m_lF hD hS hA hal_) _) (va_recv hK (m_subP hP hal_) (ci := 12) (q0 := 0) rfl rfl)) rfl rfl hl.1 rfl (lv_room (Nat.le_of_ble_eq_true rfl)) d_law_226 ⟨hkc, hks⟩) hP hD hS hA hal_ rfl (fun H locs hP hD hS => ?_)
  refine W.widen (k := κ + mc42) (n := σ + ms43) (Nat.le_refl _) (Nat.le_refl _) ?_
  obtain ⟨M56, eM_, hf⟩ := bnP hf
  have hP : va_P D classes (mw M56) H := by rw [eM_]; exact hP
  have hD : va_D A (mw M56) := by rw [eM_]; exact hD
  clear eM_ hal_ hnd_ hc
  refine lv_iload hx hb d_law_229 (lv_at hl 1 rfl) ?_
  refine lv_icmp_eq (tgt := 236) hx hb d_law_231 (by decide) (fun cx => ?_) (fun cx => ?_)
  · have hf := ifpP cx hf
    refine lv_iload hx hb d_law_236 (lv_at hl 1 rfl) ?_
    refine lv_if_ne (tgt := 253) hx hb d_law_238 (by decide) (fun cx => ?_) (fun cx => ?_)
    · have hf := ifnP cx hf
      exact wv_mlaw_253 (fu := fu) F hk_23 _ _ _ _ _ _ _ hf hkc hks _ _ _ hP hD hS (lv_sub hl [2, 3, 4, 5, 6] rfl)
    · have hf := ifpP cx hf
      refine lv_aload_n hx hb d_law_241 rfl (lv_at hl 5 rfl) ?_
      refine lv_iconst (v := 0) hx hb d_law_242 (by decide) ?_
      obtain ⟨n_, f_, hm_, hin_, hf⟩ := hf
      obtain ⟨ix_, hi_⟩ := m_ix hm_
      refine va_lald hx hb hK hP ix_ 2 hi_ rfl (inb_in hin_) d_law_243 ?_
      obtain ⟨v57, ev⟩ : ∃ z, z = f_ (0 : Int32).toNatClampNeg := ⟨_, rfl⟩
      first | rw [← ev] at hf ⊢ | rw [← ev]
      clear ev hi_ hm_ hin_
      refine lv_iload hx hb d_law_244 (lv_at hl 0 rfl) ?_
      refine lv_i2l hx hb d_law_246 rfl ?_
      refine W.lcmp hx hb d_law_247 ?_
      refine lv_if_eq (tgt := 253) hx hb d_law_248 (by decide) (fun cx => ?_) (fun cx => ?_)
      · have hf := ifpP cx hf
        exact wv_mlaw_253 (fu := fu) F hk_23 _ _ _ _ _ _ _ hf hkc hks _ _ _ hP hD hS (lv_sub hl [2, 3, 4, 5, 6] rfl)
      · have hf := ifnP cx hf
        refine lv_iconst (v := 0) hx hb d_law_251 (by decide) ?_
        exact hf.elim
  · have hf := ifnP cx hf
    refine lv_iconst (v := 0) hx hb d_law_234 (by decide) ?_
    exact hf.elim
