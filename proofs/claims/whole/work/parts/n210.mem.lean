set_option maxRecDepth 100000 in
def xb_0 (fu : Nat) (cy : Nat → ClassId) (ad : Nat → Nat) (mi L : Nat) (xs : Nat → Int32) (k_23 : Nat → Nat → Mm → Nat → Nat → Nat → Int32 → Prop) (κ σ : Nat) (M : Mm) (x1 : Nat) (x2 : Nat) (x3 : Nat) (x4 : Int32) : Prop :=
  bnd (x4 + (1 : Int32)) fun v4 => gdP (inb v4 L) <| bnd (xs v4.toNatClampNeg) fun v5 => bnd (x4 + (2 : Int32)) fun v6 => gdP (inb v6 L) <| bnd (xs v6.toNatClampNeg) fun v7 => bnd (x4 + (3 : Int32)) fun v8 => gdP (inb v8 L) <| bnd (xs v8.toNatClampNeg) fun v9 => bnd (x4 + (4 : Int32)) fun v10 => gdP (inb v10 L) <| bnd (xs v10.toNatClampNeg) fun v11 => bnd (x4 + (5 : Int32)) fun v12 => gdP (inb v12 L) <| bnd (xs v12.toNatClampNeg) fun v13 => ∃ mc14 ms15 : Nat, (κ + mc14 ≤ 601024 ∧ σ + ms15 ≤ 7293034) ∧ xw_mL_feed fu mc14 ms15 cy ad mi (fun v17 M16 => bnd (x4 + (1 : Int32)) fun v18 => gdP (inb v18 L) <| bnd (xs v18.toNatClampNeg) fun v19 => bnd (x4 + (2 : Int32)) fun v20 => gdP (inb v20 L) <| bnd (xs v20.toNatClampNeg) fun v21 => bnd (x4 + (3 : Int32)) fun v22 => gdP (inb v22 L) <| bnd (xs v22.toNatClampNeg) fun v23 => bnd (x4 + (4 : Int32)) fun v24 => gdP (inb v24 L) <| bnd (xs v24.toNatClampNeg) fun v25 => bnd (x4 + (5 : Int32)) fun v26 => gdP (inb v26 L) <| bnd (xs v26.toNatClampNeg) fun v27 => ∃ (b28 : Nat → Nat) (c29 : Nat → Int32) (c30 : Nat → Int32), mal M16 [(x2, .inr (12, mo b28 c29)), ((b28 0), .inl (cy 0, 3000, .inl c30))] ∧ mnd (List.map (fun x : Nat × va_E => x.1) [(x2, .inr (12, mo b28 c29)), ((b28 0), .inl (cy 0, 3000, .inl c30))]) ∧ ∃ (v31 : Int32) (c32 : Nat → Int32) (c33 : Nat → Int32), x_M_feed fu v19 v21 v23 v25 v27 c29 c30 = some (v31, c32, c33) ∧ bnd (mov M16 [(x2, .inr (12, mo b28 c32)), ((b28 0), .inl (cy 0, 3000, .inl c33))]) fun M34 => ∃ (b35 : Nat → Nat) (c36 : Nat → Int32), mal M34 [(x2, .inr (12, mo b35 c36))] ∧ mnd (List.map (fun x : Nat × va_E => x.1) [(x2, .inr (12, mo b35 c36))]) ∧ ∃ (v37 : Int32), x_M_thrown fu c36 = some (v37) ∧ bnd (mov M34 [(x2, .inr (12, mo b35 c36))]) fun M38 => if v37 = v17 then (if v17 = 0 then (maj M38 x3 (cy 2) (0 : Int32) fun v39 => if (lg_cmp v39 v31.toInt64) = 0 then (xv_mlaw_197 fu cy ad mi L xs k_23 (κ + mc14) (σ + ms15) M38 x1 x2 x3 x4) else (False)) else (xv_mlaw_197 fu cy ad mi L xs k_23 (κ + mc14) (σ + ms15) M38 x1 x2 x3 x4)) else (False)) 0 0 M x1 v5 v7 v9 v11 v13 x3
set_option maxHeartbeats 8000000 in
set_option maxRecDepth 100000 in
theorem wb_0 {p : Program} {l : Launch} {e : Env} {s : State} {m : MethodId} {below : List Frame} {meth : Method} {c : Code} {D : va_G} {cy : Nat → ClassId} {A : Nat → Prop} {ad : Nat → Nat} {mi b L : Nat} {xs : Nat → Int32} {fu : Nat} {k_23 : Nat → Nat → Mm → Nat → Nat → Nat → Int32 → Prop} (F : FxL p l s m meth c D cy ad mi A b L xs) (hk_23 : Iw_mlaw_23 p l e s m below meth c D cy A ad mi b L xs k_23) (κ σ : Nat) (M : Mm) (x1 : Nat) (x2 : Nat) (x3 : Nat) (x4 : Int32) (hf : xb_0 fu cy ad mi L xs k_23 κ σ M x1 x2 x3 x4) (hkc : κ ≤ 601024) (hks : σ ≤ 7293034) (H : Heap) (locs : List Loc) (ls : Array Slot) (hP : va_P D classes (mw M) H) (hD : va_D A (mw M)) (hS : va_S A s.heap H locs) (hl : lv_has ls 8 [(0, .ref b), (1, .ref x1), (2, .ref x2), (3, .ref x3), (4, .int x4)]) : W p l e room_1 s m #[Value.ref b] below meth c H locs κ σ (lw_Z below #[Value.ref b] s) (F0 m 96 ls []) := by
  obtain ⟨hlt, hx, hb, hr, hml, hown, hts, hlocks, hK, hA, hSt, hT, hMi, hX, hbl, hbA, hNC, hfo⟩ := id F
  unfold xb_0 at hf
  refine lv_aload_n hx hb d_law_96 rfl (lv_at hl 1 rfl) ?_
  refine lv_aload_n hx hb d_law_97 rfl (lv_at hl 0 rfl) ?_
  refine lv_iload hx hb d_law_98 (lv_at hl 4 rfl) ?_
  refine lv_iconst (v := 1) hx hb d_law_100 (by decide) ?_
  refine lv_iadd hx hb d_law_101 ?_
  refine lv_topi (fun v4 ev => ?_)
  have hf := bnQ ev hf
  clear ev
  obtain ⟨hg, hf⟩ := hf
  refine va_sld hx hb hX hbl hbA hS (inb_in hg) d_law_102 ?_
  refine lv_topi (fun v5 ev => ?_)
  have hf := bnQ ev hf
  clear ev
  refine lv_aload_n hx hb d_law_103 rfl (lv_at hl 0 rfl) ?_
  refine lv_iload hx hb d_law_104 (lv_at hl 4 rfl) ?_
  refine lv_iconst (v := 2) hx hb d_law_106 (by decide) ?_
  refine lv_iadd hx hb d_law_107 ?_
  refine lv_topi (fun v6 ev => ?_)
  have hf := bnQ ev hf
  clear ev
  obtain ⟨hg, hf⟩ := hf
  refine va_sld hx hb hX hbl hbA hS (inb_in hg) d_law_108 ?_
  refine lv_topi (fun v7 ev => ?_)
  have hf := bnQ ev hf
  clear ev
  refine lv_aload_n hx hb d_law_109 rfl (lv_at hl 0 rfl) ?_
  refine lv_iload hx hb d_law_110 (lv_at hl 4 rfl) ?_
  refine lv_iconst (v := 3) hx hb d_law_112 (by decide) ?_
  refine lv_iadd hx hb d_law_113 ?_
  refine lv_topi (fun v8 ev => ?_)
  have hf := bnQ ev hf
  clear ev
  obtain ⟨hg, hf⟩ := hf
  refine va_sld hx hb hX hbl hbA hS (inb_in hg) d_law_114 ?_
  refine lv_topi (fun v9 ev => ?_)
  have hf := bnQ ev hf
  clear ev
  refine lv_aload_n hx hb d_law_115 rfl (lv_at hl 0 rfl) ?_
  refine lv_iload hx hb d_law_116 (lv_at hl 4 rfl) ?_
  refine lv_iconst (v := 4) hx hb d_law_118 (by decide) ?_
  refine lv_iadd hx hb d_law_119 ?_
  refine lv_topi (fun v10 ev => ?_)
  have hf := bnQ ev hf
  clear ev
  obtain ⟨hg, hf⟩ := hf
  refine va_sld hx hb hX hbl hbA hS (inb_in hg) d_law_120 ?_
  refine lv_topi (fun v11 ev => ?_)
  have hf := bnQ ev hf
  clear ev
  refine lv_aload_n hx hb d_law_121 rfl (lv_at hl 0 rfl) ?_
  refine lv_iload hx hb d_law_122 (lv_at hl 4 rfl) ?_
  refine lv_iconst (v := 5) hx hb d_law_124 (by decide) ?_
  refine lv_iadd hx hb d_law_125 ?_
  refine lv_topi (fun v12 ev => ?_)
  have hf := bnQ ev hf
  clear ev
  obtain ⟨hg, hf⟩ := hf
  refine va_sld hx hb hX hbl hbA hS (inb_in hg) d_law_126 ?_
  refine lv_topi (fun v13 ev => ?_)
  have hf := bnQ ev hf
  clear ev
  refine lv_aload_n hx hb d_law_127 rfl (lv_at hl 3 rfl) ?_
  obtain ⟨mc14, ms15, ⟨hc_, hd_⟩, hf⟩ := hf
  refine mm_ai (q_runSW (As := [.ref x1, .int v5, .int v7, .int v9, .int v11, .int v13, .ref x3]) (rest := []) ⟨hx, hb, hml, hown, hts⟩ (cw_mL_feed l hlt D cy ad mi fu mc14 ms15 x1 v5 v7 v9 v11 v13 x3 M _ hf H.size) gw_570 gw_0 gw_568 gw_569 hdu_0 ⟨Nat.le_of_ble_eq_true rfl, Nat.le_of_ble_eq_true rfl⟩ rfl rfl (q_preM hP hD hK hSt hT hMi hS (m_free hD hS hA) _) rfl hl.1 (Nat.le_of_ble_eq_true rfl) d_law_128 ⟨hc_, hd_⟩) hD hS hA (fun v17 M16 H locs hf hP hD hS => ?_)
  have hkc : κ + mc14 ≤ 601024 := hc_
  have hks : σ + ms15 ≤ 7293034 := hd_
  clear hc_ hd_
  refine lv_istore (lv' := [(5, .int v17), (0, .ref b), (1, .ref x1), (2, .ref x2), (3, .ref x3), (4, .int x4)]) hx hb d_law_131 hl (by decide) rfl (fun ls hl => ?_)
  refine lv_aload_n hx hb d_law_133 rfl (lv_at hl 3 rfl) ?_
  refine lv_aload_n hx hb d_law_134 rfl (lv_at hl 1 rfl) ?_
  refine lv_iload hx hb d_law_135 (lv_at hl 5 rfl) ?_
  refine lv_iconst (v := 1) hx hb d_law_137 (by decide) ?_
  refine lv_iadd hx hb d_law_138 ?_
  refine lv_topi (fun v18 ev => ?_)
  have hf := bnQ ev hf
  clear ev
  obtain ⟨hg, hf⟩ := hf
  refine va_sld hx hb hX hbl hbA hS (inb_in hg) d_law_139 ?_
  refine lv_topi (fun v19 ev => ?_)
  have hf := bnQ ev hf
  clear ev
  refine lv_aload_n hx hb d_law_140 rfl (lv_at hl 1 rfl) ?_
  refine lv_iload hx hb d_law_141 (lv_at hl 5 rfl) ?_
  refine lv_iconst (v := 2) hx hb d_law_143 (by decide) ?_
  refine lv_iadd hx hb d_law_144 ?_
  refine lv_topi (fun v20 ev => ?_)
  have hf := bnQ ev hf
  clear ev
  obtain ⟨hg, hf⟩ := hf
  refine va_sld hx hb hX hbl hbA hS (inb_in hg) d_law_145 ?_
  refine lv_topi (fun v21 ev => ?_)
  have hf := bnQ ev hf
  clear ev
  refine lv_aload_n hx hb d_law_146 rfl (lv_at hl 1 rfl) ?_
  refine lv_iload hx hb d_law_147 (lv_at hl 5 rfl) ?_
  refine lv_iconst (v := 3) hx hb d_law_149 (by decide) ?_
  refine lv_iadd hx hb d_law_150 ?_
  refine lv_topi (fun v22 ev => ?_)
  have hf := bnQ ev hf
  clear ev
  obtain ⟨hg, hf⟩ := hf
  refine va_sld hx hb hX hbl hbA hS (inb_in hg) d_law_151 ?_
  refine lv_topi (fun v23 ev => ?_)
  have hf := bnQ ev hf
  clear ev
  refine lv_aload_n hx hb d_law_152 rfl (lv_at hl 1 rfl) ?_
  refine lv_iload hx hb d_law_153 (lv_at hl 5 rfl) ?_
  refine lv_iconst (v := 4) hx hb d_law_155 (by decide) ?_
  refine lv_iadd hx hb d_law_156 ?_
  refine lv_topi (fun v24 ev => ?_)
  have hf := bnQ ev hf
  clear ev
  obtain ⟨hg, hf⟩ := hf
  refine va_sld hx hb hX hbl hbA hS (inb_in hg) d_law_157 ?_
  refine lv_topi (fun v25 ev => ?_)
  have hf := bnQ ev hf
  clear ev
  refine lv_aload_n hx hb d_law_158 rfl (lv_at hl 1 rfl) ?_
  refine lv_iload hx hb d_law_159 (lv_at hl 5 rfl) ?_
  refine lv_iconst (v := 5) hx hb d_law_161 (by decide) ?_
  refine lv_iadd hx hb d_law_162 ?_
  refine lv_topi (fun v26 ev => ?_)
  have hf := bnQ ev hf
  clear ev
  obtain ⟨hg, hf⟩ := hf
  refine va_sld hx hb hX hbl hbA hS (inb_in hg) d_law_163 ?_
  refine lv_topi (fun v27 ev => ?_)
  have hf := bnQ ev hf
  clear ev
  obtain ⟨b28, c29, c30, hal_, hnd_, v31, c32, c33, hc, hf⟩ := hf
  refine m_li (va_runV (C := "CoinKeeperModel") (As := [.int v19, .int v21, .int v23, .int v25, .int v27]) (rest := []) ⟨hx, hb, hml, hown, hts⟩ (c_M_feed l D cy ad fu x2 b28 v19 v21 v23 v25 v27 c29 c30 _ hc H.size) ⟨q_cB hts gw_1721 gw_18 gw_1718 hdu_1 ⟨Nat.le_of_ble_eq_true rfl, Nat.le_of_ble_eq_true rfl⟩, hts _ gw_1719, hts _ gw_1720⟩ (q_preV (q_pre (m_subP hP hal_) (m_subD hD hal_ hnd_) hK hSt hS (m_lF hD hS hA hal_) _) (va_recv hK (m_subP hP hal_) (ci := 12) (q0 := 0) rfl rfl)) rfl rfl hl.1 rfl (lv_room (Nat.le_of_ble_eq_true rfl)) d_law_164 ⟨hkc, hks⟩) hP hD hS hA hal_ rfl (fun H locs hP hD hS => ?_)
  refine W.widen (k := κ + mc14) (n := σ + ms15) (Nat.le_refl _) (Nat.le_refl _) ?_
  obtain ⟨M34, eM_, hf⟩ := bnP hf
  have hP : va_P D classes (mw M34) H := by rw [eM_]; exact hP
  have hD : va_D A (mw M34) := by rw [eM_]; exact hD
  clear eM_ hal_ hnd_ hc
  refine lv_istore (lv' := [(6, .int v31), (5, .int v17), (0, .ref b), (1, .ref x1), (2, .ref x2), (3, .ref x3), (4, .int x4)]) hx hb d_law_167 hl (by decide) rfl (fun ls hl => ?_)
  refine lv_aload_n hx hb d_law_169 rfl (lv_at hl 4 rfl) ?_
  obtain ⟨b35, c36, hal_, hnd_, v37, hc, hf⟩ := hf
  refine m_li (va_runV (C := "CoinKeeperModel") (As := []) (rest := []) ⟨hx, hb, hml, hown, hts⟩ (c_M_thrown l D cy ad fu x2 b35 c36 _ hc H.size) ⟨q_cB hts gw_1717 gw_18 gw_1714 hdu_2 ⟨Nat.le_of_ble_eq_true rfl, Nat.le_of_ble_eq_true rfl⟩, hts _ gw_1715, hts _ gw_1716⟩ (q_preV (q_pre (m_subP hP hal_) (m_subD hD hal_ hnd_) hK hSt hS (m_lF hD hS hA hal_) _) (va_recv hK (m_subP hP hal_) (ci := 12) (q0 := 0) rfl rfl)) rfl rfl hl.1 rfl (lv_room (Nat.le_of_ble_eq_true rfl)) d_law_170 ⟨hkc, hks⟩) hP hD hS hA hal_ rfl (fun H locs hP hD hS => ?_)
  refine W.widen (k := κ + mc14) (n := σ + ms15) (Nat.le_refl _) (Nat.le_refl _) ?_
  obtain ⟨M38, eM_, hf⟩ := bnP hf
  have hP : va_P D classes (mw M38) H := by rw [eM_]; exact hP
  have hD : va_D A (mw M38) := by rw [eM_]; exact hD
  clear eM_ hal_ hnd_ hc
  refine lv_iload hx hb d_law_173 (lv_at hl 1 rfl) ?_
  refine lv_icmp_eq (tgt := 180) hx hb d_law_175 (by decide) (fun cx => ?_) (fun cx => ?_)
  · have hf := ifpP cx hf
    refine lv_iload hx hb d_law_180 (lv_at hl 1 rfl) ?_
    refine lv_if_ne (tgt := 197) hx hb d_law_182 (by decide) (fun cx => ?_) (fun cx => ?_)
    · have hf := ifnP cx hf
      exact wv_mlaw_197 (fu := fu) F hk_23 _ _ _ _ _ _ _ hf hkc hks _ _ _ hP hD hS (lv_sub hl [2, 3, 4, 5, 6] rfl)
    · have hf := ifpP cx hf
      refine lv_aload_n hx hb d_law_185 rfl (lv_at hl 5 rfl) ?_
      refine lv_iconst (v := 0) hx hb d_law_186 (by decide) ?_
      obtain ⟨n_, f_, hm_, hin_, hf⟩ := hf
      obtain ⟨ix_, hi_⟩ := m_ix hm_
      refine va_lald hx hb hK hP ix_ 2 hi_ rfl (inb_in hin_) d_law_187 ?_
      obtain ⟨v39, ev⟩ : ∃ z, z = f_ (0 : Int32).toNatClampNeg := ⟨_, rfl⟩
      first | rw [← ev] at hf ⊢ | rw [← ev]
      clear ev hi_ hm_ hin_
      refine lv_iload hx hb d_law_188 (lv_at hl 0 rfl) ?_
      refine lv_i2l hx hb d_law_190 rfl ?_
      refine W.lcmp hx hb d_law_191 ?_
      refine lv_if_eq (tgt := 197) hx hb d_law_192 (by decide) (fun cx => ?_) (fun cx => ?_)
      · have hf := ifpP cx hf
        exact wv_mlaw_197 (fu := fu) F hk_23 _ _ _ _ _ _ _ hf hkc hks _ _ _ hP hD hS (lv_sub hl [2, 3, 4, 5, 6] rfl)
      · have hf := ifnP cx hf
        refine lv_iconst (v := 0) hx hb d_law_195 (by decide) ?_
        exact hf.elim
  · have hf := ifnP cx hf
    refine lv_iconst (v := 0) hx hb d_law_178 (by decide) ?_
    exact hf.elim
