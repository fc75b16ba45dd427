set_option maxRecDepth 100000 in
def xb_3 (fu : Nat) (cy : Nat → ClassId) (ad : Nat → Nat) (mi L : Nat) (xs : Nat → Int32) (k_23 : Nat → Nat → Mm → Nat → Nat → Nat → Int32 → Prop) (κ σ : Nat) (M : Mm) (x1 : Nat) (x2 : Nat) (x3 : Nat) (x4 : Int32) : Prop :=
  bnd (x4 + (1 : Int32)) fun v222 => gdP (inb v222 L) <| bnd (xs v222.toNatClampNeg) fun v223 => ∃ mc224 ms225 : Nat, (κ + mc224 ≤ 601024 ∧ σ + ms225 ≤ 7293034) ∧ xw_mL_script fu mc224 ms225 cy ad mi (fun v227 M226 => bnd (x4 + (1 : Int32)) fun v228 => gdP (inb v228 L) <| bnd (xs v228.toNatClampNeg) fun v229 => ∃ (b230 : Nat → Nat) (c231 : Nat → Int32) (c232 : Nat → Int32) (c233 : Nat → Int32) (c234 : Nat → Int32) (c235 : Nat → Int32) (c236 : Nat → Int32) (c237 : Nat → Int32) (c238 : Nat → Int32) (c239 : Nat → Int32) (c240 : Nat → Int32) (c241 : Nat → Int32) (c242 : Nat → Int32) (c243 : Nat → Int32) (c244 : Nat → Int32) (c245 : Nat → Int32) (c246 : Nat → Int32) (c247 : Nat → Int32) (c248 : Nat → Int32) (c249 : Nat → Int32) (c250 : Nat → Int32) (c251 : Nat → Int32) (c252 : Nat → Int32) (c253 : Nat → Int32) (c254 : Nat → Int32) (c255 : Nat → Int32) (c256 : Nat → Int32) (c257 : Nat → Int32) (c258 : Nat → Int32) (c259 : Nat → Int32) (c260 : Nat → Int32) (c261 : Nat → Int32) (c262 : Nat → Int32) (c263 : Nat → Int32) (c264 : Nat → Int32) (c265 : Nat → Int32) (c266 : Nat → Int32) (c267 : Nat → Int32) (c268 : Nat → Int32) (c269 : Nat → Int32) (c270 : Nat → Int32), mal M226 [(x2, .inr (12, mo b230 c241)), ((b230 0), .inl (cy 0, 3000, .inl c231)), ((b230 1), .inl (cy 0, 103000, .inl c232)), ((b230 12), .inl (cy 1, 2200, .inl c233)), ((b230 13), .inl (cy 1, 2200, .inl c234)), ((b230 15), .inl (cy 1, 2200, .inl c235)), ((b230 16), .inl (cy 1, 2200, .inl c236)), ((b230 20), .inl (cy 1, 2600, .inl c237)), ((b230 23), .inl (cy 1, 2600, .inl c238)), ((b230 34), .inl (cy 1, 8, .inl c242)), ((b230 35), .inl (cy 1, 64, .inl c243)), ((b230 36), .inl (cy 0, 32, .inl c244)), ((b230 37), .inl (cy 0, 100200, .inl c245)), ((b230 39), .inl (cy 1, 8, .inl c239)), ((b230 41), .inl (cy 1, 8, .inl c246)), ((b230 48), .inl (cy 1, 8, .inl c247)), ((b230 49), .inl (cy 1, 8, .inl c248)), ((b230 50), .inl (cy 1, 16, .inl c249)), ((b230 51), .inl (cy 1, 8, .inl c250)), ((b230 52), .inl (cy 1, 8, .inl c251)), ((b230 53), .inl (cy 1, 8, .inl c252)), ((b230 54), .inl (cy 1, 8, .inl c253)), ((b230 55), .inl (cy 1, 8, .inl c254)), ((b230 56), .inl (cy 1, 8, .inl c255)), ((b230 57), .inl (cy 1, 8, .inl c256)), ((b230 58), .inl (cy 1, 8, .inl c257)), ((b230 59), .inl (cy 1, 8, .inl c258)), ((b230 60), .inl (cy 1, 8, .inl c259)), ((b230 61), .inl (cy 1, 8, .inl c260)), ((b230 62), .inl (cy 1, 8, .inl c261)), ((b230 63), .inl (cy 1, 8, .inl c262)), ((b230 64), .inl (cy 1, 8, .inl c263)), ((b230 65), .inl (cy 1, 8, .inl c264)), ((b230 66), .inl (cy 1, 8, .inl c265)), ((b230 67), .inl (cy 1, 8, .inl c266)), ((b230 68), .inl (cy 0, 104448, .inl c267)), ((b230 69), .inl (cy 1, 408, .inl c268)), ((b230 70), .inl (cy 3, 1001, .inl c269)), ((b230 71), .inl (cy 0, 100100, .inl c270)), ((b230 72), .inl (cy 1, 2200, .inl c240))] ∧ mnd (List.map (fun x : Nat × va_E => x.1) [(x2, .inr (12, mo b230 c241)), ((b230 0), .inl (cy 0, 3000, .inl c231)), ((b230 1), .inl (cy 0, 103000, .inl c232)), ((b230 12), .inl (cy 1, 2200, .inl c233)), ((b230 13), .inl (cy 1, 2200, .inl c234)), ((b230 15), .inl (cy 1, 2200, .inl c235)), ((b230 16), .inl (cy 1, 2200, .inl c236)), ((b230 20), .inl (cy 1, 2600, .inl c237)), ((b230 23), .inl (cy 1, 2600, .inl c238)), ((b230 34), .inl (cy 1, 8, .inl c242)), ((b230 35), .inl (cy 1, 64, .inl c243)), ((b230 36), .inl (cy 0, 32, .inl c244)), ((b230 37), .inl (cy 0, 100200, .inl c245)), ((b230 39), .inl (cy 1, 8, .inl c239)), ((b230 41), .inl (cy 1, 8, .inl c246)), ((b230 48), .inl (cy 1, 8, .inl c247)), ((b230 49), .inl (cy 1, 8, .inl c248)), ((b230 50), .inl (cy 1, 16, .inl c249)), ((b230 51), .inl (cy 1, 8, .inl c250)), ((b230 52), .inl (cy 1, 8, .inl c251)), ((b230 53), .inl (cy 1, 8, .inl c252)), ((b230 54), .inl (cy 1, 8, .inl c253)), ((b230 55), .inl (cy 1, 8, .inl c254)), ((b230 56), .inl (cy 1, 8, .inl c255)), ((b230 57), .inl (cy 1, 8, .inl c256)), ((b230 58), .inl (cy 1, 8, .inl c257)), ((b230 59), .inl (cy 1, 8, .inl c258)), ((b230 60), .inl (cy 1, 8, .inl c259)), ((b230 61), .inl (cy 1, 8, .inl c260)), ((b230 62), .inl (cy 1, 8, .inl c261)), ((b230 63), .inl (cy 1, 8, .inl c262)), ((b230 64), .inl (cy 1, 8, .inl c263)), ((b230 65), .inl (cy 1, 8, .inl c264)), ((b230 66), .inl (cy 1, 8, .inl c265)), ((b230 67), .inl (cy 1, 8, .inl c266)), ((b230 68), .inl (cy 0, 104448, .inl c267)), ((b230 69), .inl (cy 1, 408, .inl c268)), ((b230 70), .inl (cy 3, 1001, .inl c269)), ((b230 71), .inl (cy 0, 100100, .inl c270)), ((b230 72), .inl (cy 1, 2200, .inl c240))]) ∧ ∃ (v271 : Int32) (c272 : Nat → Int32) (c273 : Nat → Int32) (c274 : Nat → Int32) (c275 : Nat → Int32) (c276 : Nat → Int32) (c277 : Nat → Int32) (c278 : Nat → Int32) (c279 : Nat → Int32) (c280 : Nat → Int32) (c281 : Nat → Int32) (c282 : Nat → Int32) (c283 : Nat → Int32) (c284 : Nat → Int32) (c285 : Nat → Int32) (c286 : Nat → Int32) (c287 : Nat → Int32) (c288 : Nat → Int32) (c289 : Nat → Int32) (c290 : Nat → Int32) (c291 : Nat → Int32) (c292 : Nat → Int32) (c293 : Nat → Int32) (c294 : Nat → Int32) (c295 : Nat → Int32) (c296 : Nat → Int32) (c297 : Nat → Int32) (c298 : Nat → Int32) (c299 : Nat → Int32) (c300 : Nat → Int32) (c301 : Nat → Int32), x_M_script fu c231 c232 c233 c234 c235 c236 c237 c238 c239 c240 v229 c241 c242 c243 c244 c245 c246 c247 c248 c249 c250 c251 c252 c253 c254 c255 c256 c257 c258 c259 c260 c261 c262 c263 c264 c265 c266 c267 c268 c269 c270 = some (v271, c272, c273, c274, c275, c276, c277, c278, c279, c280, c281, c282, c283, c284, c285, c286, c287, c288, c289, c290, c291, c292, c293, c294, c295, c296, c297, c298, c299, c300, c301) ∧ bnd (mov M226 [(x2, .inr (12, mo b230 c272)), ((b230 0), .inl (cy 0, 3000, .inl c231)), ((b230 1), .inl (cy 0, 103000, .inl c232)), ((b230 12), .inl (cy 1, 2200, .inl c233)), ((b230 13), .inl (cy 1, 2200, .inl c234)), ((b230 15), .inl (cy 1, 2200, .inl c235)), ((b230 16), .inl (cy 1, 2200, .inl c236)), ((b230 20), .inl (cy 1, 2600, .inl c237)), ((b230 23), .inl (cy 1, 2600, .inl c238)), ((b230 34), .inl (cy 1, 8, .inl c273)), ((b230 35), .inl (cy 1, 64, .inl c274)), ((b230 36), .inl (cy 0, 32, .inl c275)), ((b230 37), .inl (cy 0, 100200, .inl c276)), ((b230 39), .inl (cy 1, 8, .inl c239)), ((b230 41), .inl (cy 1, 8, .inl c277)), ((b230 48), .inl (cy 1, 8, .inl c278)), ((b230 49), .inl (cy 1, 8, .inl c279)), ((b230 50), .inl (cy 1, 16, .inl c280)), ((b230 51), .inl (cy 1, 8, .inl c281)), ((b230 52), .inl (cy 1, 8, .inl c282)), ((b230 53), .inl (cy 1, 8, .inl c283)), ((b230 54), .inl (cy 1, 8, .inl c284)), ((b230 55), .inl (cy 1, 8, .inl c285)), ((b230 56), .inl (cy 1, 8, .inl c286)), ((b230 57), .inl (cy 1, 8, .inl c287)), ((b230 58), .inl (cy 1, 8, .inl c288)), ((b230 59), .inl (cy 1, 8, .inl c289)), ((b230 60), .inl (cy 1, 8, .inl c290)), ((b230 61), .inl (cy 1, 8, .inl c291)), ((b230 62), .inl (cy 1, 8, .inl c292)), ((b230 63), .inl (cy 1, 8, .inl c293)), ((b230 64), .inl (cy 1, 8, .inl c294)), ((b230 65), .inl (cy 1, 8, .inl c295)), ((b230 66), .inl (cy 1, 8, .inl c296)), ((b230 67), .inl (cy 1, 8, .inl c297)), ((b230 68), .inl (cy 0, 104448, .inl c298)), ((b230 69), .inl (cy 1, 408, .inl c299)), ((b230 70), .inl (cy 3, 1001, .inl c300)), ((b230 71), .inl (cy 0, 100100, .inl c301)), ((b230 72), .inl (cy 1, 2200, .inl c240))]) fun M302 => ∃ (b303 : Nat → Nat) (c304 : Nat → Int32), mal M302 [(x2, .inr (12, mo b303 c304))] ∧ mnd (List.map (fun x : Nat × va_E => x.1) [(x2, .inr (12, mo b303 c304))]) ∧ ∃ (v305 : Int32), x_M_thrown fu c304 = some (v305) ∧ bnd (mov M302 [(x2, .inr (12, mo b303 c304))]) fun M306 => if v305 = v227 then (if v227 = 0 then (maj M306 x3 (cy 2) (0 : Int32) fun v307 => if v271 = 0 then (xv_mlaw_354 fu cy ad mi L xs k_23 (κ + mc224) (σ + ms225) M306 x1 x2 x3 x4 (0 : Int64) v307) else (xv_mlaw_354 fu cy ad mi L xs k_23 (κ + mc224) (σ + ms225) M306 x1 x2 x3 x4 (1 : Int64) v307)) else (xv_mlaw_360 fu cy ad mi L xs k_23 (κ + mc224) (σ + ms225) M306 x1 x2 x3 x4)) else (False)) 0 0 M x1 v223 x3
set_option maxHeartbeats 8000000 in
set_option maxRecDepth 100000 in
theorem wb_3 {p : Program} {l : Launch} {e : Env} {s : State} {m : MethodId} {below : List Frame} {meth : Method} {c : Code} {D : va_G} {cy : Nat → ClassId} {A : Nat → Prop} {ad : Nat → Nat} {mi b L : Nat} {xs : Nat → Int32} {fu : Nat} {k_23 : Nat → Nat → Mm → Nat → Nat → Nat → Int32 → Prop} (F : FxL p l s m meth c D cy ad mi A b L xs) (hk_23 : Iw_mlaw_23 p l e s m below meth c D cy A ad mi b L xs k_23) (κ σ : Nat) (M : Mm) (x1 : Nat) (x2 : Nat) (x3 : Nat) (x4 : Int32) (hf : xb_3 fu cy ad mi L xs k_23 κ σ M x1 x2 x3 x4) (hkc : κ ≤ 601024) (hks : σ ≤ 7293034) (H : Heap) (locs : List Loc) (ls : Array Slot) (hP : va_P D classes (mw M) H) (hD : va_D A (mw M)) (hS : va_S A s.heap H locs) (hl : lv_has ls 8 [(0, .ref b), (1, .ref x1), (2, .ref x2), (3, .ref x3), (4, .int x4)]) : W p l e room_1 s m #[Value.ref b] below meth c H locs κ σ (lw_Z below #[Value.ref b] s) (F0 m 300 ls []) := by
  obtain ⟨hlt, hx, hb, hr, hml, hown, hts, hlocks, hK, hA, hSt, hT, hMi, hX, hbl, hbA, hNC, hfo⟩ := id F
  unfold xb_3 at hf
  refine lv_aload_n hx hb d_law_300 rfl (lv_at hl 1 rfl) ?_
  refine lv_aload_n hx hb d_law_301 rfl (lv_at hl 0 rfl) ?_
  refine lv_iload hx hb d_law_302 (lv_at hl 4 rfl) ?_
  refine lv_iconst (v := 1) hx hb d_law_304 (by decide) ?_
  refine lv_iadd hx hb d_law_305 ?_
  refine lv_topi (fun v222 ev => ?_)
  have hf := bnQ ev hf
  clear ev
  obtain ⟨hg, hf⟩ := hf
  refine va_sld hx hb hX hbl hbA hS (inb_in hg) d_law_306 ?_
  refine lv_topi (fun v223 ev => ?_)
  have hf := bnQ ev hf
  clear ev
  refine lv_aload_n hx hb d_law_307 rfl (lv_at hl 3 rfl) ?_
  obtain ⟨mc224, ms225, ⟨hc_, hd_⟩, hf⟩ := hf
  refine mm_ai (q_runSW (As := [.ref x1, .int v223, .ref x3]) (rest := []) ⟨hx, hb, hml, hown, hts⟩ (cw_mL_script l hlt D cy ad mi fu mc224 ms225 x1 v223 x3 M _ hf H.size) gw_1282 gw_0 gw_1280 gw_1281 hdu_7 ⟨Nat.le_of_ble_eq_true rfl, Nat.le_of_ble_eq_true rfl⟩ rfl rfl (q_preM hP hD hK hSt hT hMi hS (m_free hD hS hA) _) rfl hl.1 (Nat.le_of_ble_eq_true rfl) d_law_308 ⟨hc_, hd_⟩) hD hS hA (fun v227 M226 H locs hf hP hD hS => ?_)
  have hkc : κ + mc224 ≤ 601024 := hc_
  have hks : σ + ms225 ≤ 7293034 := hd_
  clear hc_ hd_
  refine lv_istore (lv' := [(5, .int v227), (0, .ref b), (1, .ref x1), (2, .ref x2), (3, .ref x3), (4, .int x4)]) hx hb d_law_311 hl (by decide) rfl (fun ls hl => ?_)
  refine lv_aload_n hx hb d_law_313 rfl (lv_at hl 3 rfl) ?_
  refine lv_aload_n hx hb d_law_314 rfl (lv_at hl 1 rfl) ?_
  refine lv_iload hx hb d_law_315 (lv_at hl 5 rfl) ?_
  refine lv_iconst (v := 1) hx hb d_law_317 (by decide) ?_
  refine lv_iadd hx hb d_law_318 ?_
  refine lv_topi (fun v228 ev => ?_)
  have hf := bnQ ev hf
  clear ev
  obtain ⟨hg, hf⟩ := hf
  refine va_sld hx hb hX hbl hbA hS (inb_in hg) d_law_319 ?_
  refine lv_topi (fun v229 ev => ?_)
  have hf := bnQ ev hf
  clear ev
  refine ex41 hf (fun b230 c231 c232 c233 c234 c235 c236 c237 c238 c239 c240 c241 c242 c243 c244 c245 c246 c247 c248 c249 c250 c251 c252 c253 c254 c255 c256 c257 c258 c259 c260 c261 c262 c263 c264 c265 c266 c267 c268 c269 c270 hf => ?_)
  obtain ⟨hal_, hnd_, hf⟩ := hf
  refine ex31 hf (fun v271 c272 c273 c274 c275 c276 c277 c278 c279 c280 c281 c282 c283 c284 c285 c286 c287 c288 c289 c290 c291 c292 c293 c294 c295 c296 c297 c298 c299 c300 c301 hf => ?_)
  obtain ⟨hc, hf⟩ := hf
  refine m_li (va_runV (C := "CoinKeeperModel") (As := [.int v229]) (rest := []) ⟨hx, hb, hml, hown, hts⟩ (c_M_script l D cy ad fu x2 b230 c231 c232 c233 c234 c235 c236 c237 c238 c239 c240 v229 c241 c242 c243 c244 c245 c246 c247 c248 c249 c250 c251 c252 c253 c254 c255 c256 c257 c258 c259 c260 c261 c262 c263 c264 c265 c266 c267 c268 c269 c270 _ hc H.size) ⟨q_cB hts gw_2040 gw_18 gw_2037 hdu_8 ⟨Nat.le_of_ble_eq_true rfl, Nat.le_of_ble_eq_true rfl⟩, hts _ gw_2038, hts _ gw_2039⟩ (q_preV (q_pre (m_subP hP hal_) (m_subD hD hal_ hnd_) hK hSt hS (m_lF hD hS hA hal_) _) (va_recv hK (m_subP hP hal_) (ci := 12) (q0 := 0) rfl rfl)) rfl rfl hl.1 rfl (lv_room (Nat.le_of_ble_eq_true rfl)) d_law_320 ⟨hkc, hks⟩) hP hD hS hA hal_ rfl (fun H locs hP hD hS => ?_)
  refine W.widen (k := κ + mc224) (n := σ + ms225) (Nat.le_refl _) (Nat.le_refl _) ?_
  obtain ⟨M302, eM_, hf⟩ := bnP hf
  have hP : va_P D classes (mw M302) H := by rw [eM_]; exact hP
  have hD : va_D A (mw M302) := by rw [eM_]; exact hD
  clear eM_ hal_ hnd_ hc
  refine lv_istore (lv' := [(6, .int v271), (5, .int v227), (0, .ref b), (1, .ref x1), (2, .ref x2), (3, .ref x3), (4, .int x4)]) hx hb d_law_323 hl (by decide) rfl (fun ls hl => ?_)
  refine lv_aload_n hx hb d_law_325 rfl (lv_at hl 4 rfl) ?_
  obtain ⟨b303, c304, hal_, hnd_, v305, hc, hf⟩ := hf
  refine m_li (va_runV (C := "CoinKeeperModel") (As := []) (rest := []) ⟨hx, hb, hml, hown, hts⟩ (c_M_thrown l D cy ad fu x2 b303 c304 _ hc H.size) ⟨q_cB hts gw_1717 gw_18 gw_1714 hdu_2 ⟨Nat.le_of_ble_eq_true rfl, Nat.le_of_ble_eq_true rfl⟩, hts _ gw_1715, hts _ gw_1716⟩ (q_preV (q_pre (m_subP hP hal_) (m_subD hD hal_ hnd_) hK hSt hS (m_lF hD hS hA hal_) _) (va_recv hK (m_subP hP hal_) (ci := 12) (q0 := 0) rfl rfl)) rfl rfl hl.1 rfl (lv_room (Nat.le_of_ble_eq_true rfl)) d_law_326 ⟨hkc, hks⟩) hP hD hS hA hal_ rfl (fun H locs hP hD hS => ?_)
  refine W.widen (k := κ + mc224) (n := σ + ms225) (Nat.le_refl _) (Nat.le_refl _) ?_
  obtain ⟨M306, eM_, hf⟩ := bnP hf
  have hP : va_P D classes (mw M306) H := by rw [eM_]; exact hP
  have hD : va_D A (mw M306) := by rw [eM_]; exact hD
  clear eM_ hal_ hnd_ hc
  refine lv_iload hx hb d_law_329 (lv_at hl 1 rfl) ?_
  refine lv_icmp_eq (tgt := 336) hx hb d_law_331 (by decide) (fun cx => ?_) (fun cx => ?_)
  · have hf := ifpP cx hf
    refine lv_iload hx hb d_law_336 (lv_at hl 1 rfl) ?_
    refine lv_if_ne (tgt := 360) hx hb d_law_338 (by decide) (fun cx => ?_) (fun cx => ?_)
    · have hf := ifnP cx hf
      exact wv_mlaw_360 (fu := fu) F hk_23 _ _ _ _ _ _ _ hf hkc hks _ _ _ hP hD hS (lv_sub hl [2, 3, 4, 5, 6] rfl)
    · have hf := ifpP cx hf
      refine lv_aload_n hx hb d_law_341 rfl (lv_at hl 5 rfl) ?_
      refine lv_iconst (v := 0) hx hb d_law_342 (by decide) ?_
      obtain ⟨n_, f_, hm_, hin_, hf⟩ := hf
      obtain ⟨ix_, hi_⟩ := m_ix hm_
      refine va_lald hx hb hK hP ix_ 2 hi_ rfl (inb_in hin_) d_law_343 ?_
      obtain ⟨v307, ev⟩ : ∃ z, z = f_ (0 : Int32).toNatClampNeg := ⟨_, rfl⟩
      first | rw [← ev] at hf ⊢ | rw [← ev]
      clear ev hi_ hm_ hin_
      refine lv_iload hx hb d_law_344 (lv_at hl 0 rfl) ?_
      refine lv_if_eq (tgt := 353) hx hb d_law_346 (by decide) (fun cx => ?_) (fun cx => ?_)
      · have hf := ifpP cx hf
        refine lv_lconst (v := 0) hx hb d_law_353 (by decide) ?_
        exact wv_mlaw_354 (fu := fu) F hk_23 _ _ _ _ _ _ _ _ _ hf hkc hks _ _ _ hP hD hS (lv_sub hl [2, 3, 4, 5, 6] rfl)
      · have hf := ifnP cx hf
        refine lv_lconst (v := 1) hx hb d_law_349 (by decide) ?_
        refine lv_goto (tgt := 354) hx hb d_law_350 (by decide) ?_
        exact wv_mlaw_354 (fu := fu) F hk_23 _ _ _ _ _ _ _ _ _ hf hkc hks _ _ _ hP hD hS (lv_sub hl [2, 3, 4, 5, 6] rfl)
  · have hf := ifnP cx hf
    refine lv_iconst (v := 0) hx hb d_law_334 (by decide) ?_
    exact hf.elim
