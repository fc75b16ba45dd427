-- the reference's state: what stays, what branch asks for
set_option maxHeartbeats 2000000 in
theorem rC_keep {sgB : Nat → List Int32 → List Int32 → Bool} {nb : Nat} {par hgt tim : Nat → Nat} {bit : Nat → Int32} {bad : Nat → Bool} {rw : Nat → List Int32} {tip : Nat} {U : List Cn} (hI : aI sgB nb par hgt tim bit bad rw tip U) {z0 z' : Nat → Int32} {u1 u2 u3 u4 u5 u6 u7 u8 u9 u10 u11 u12 u13 u14 u15 u16 u17 u18 u19 u20 u21 u22 u23 u25 u26 u27 u28 u29 u30 u31 u41 : Nat → Int32} {u24 : Nat → Int64} {v1 v2 v3 v4 v5 v6 v7 v8 v9 v10 v11 v12 v13 v14 v15 v16 v17 v18 v19 v20 v21 v22 v23 v25 v26 v27 v39 v41 : Nat → Int32} {v24 : Nat → Int64} {st st' one : Nat → Int32} (hst : ftB st') (h1 : rC1 nb par hgt tim bit bad rw u2 u3 u4 u5 u6 u7 u8 u9 u10) (h2 : rC2 nb rw st one u11 u12 u13 u14 u15 u16 u17 u19 u20 u21 u22 u25 u26 u27 u41 u24) (h3 : rC3 sgB nb par hgt rw u23) (ho : ∀ j, j < sBr rw nb → st' j = st j) (hc : cmT nb (tBr rw nb) (iBr rw nb) (oBr rw nb) z0 u1 u2 u3 u4 u5 u6 u7 u8 u9 u10 u11 u12 u13 u14 u15 u16 u17 u18 u19 u20 u21 u22 u23 u24 u25 u26 u27 u28 u29 u30 u31 u41 z' v1 v2 v3 v4 v5 v6 v7 v8 v9 v10 v11 v12 v13 v14 v15 v16 v17 v18 v19 v20 v21 v22 v23 v24 v25 v26 v27 v41 v39) : rC1 nb par hgt tim bit bad rw v2 v3 v4 v5 v6 v7 v8 v9 v10 ∧ rC2 nb rw st' one v11 v12 v13 v14 v15 v16 v17 v19 v20 v21 v22 v25 v26 v27 v41 v24 ∧ rC3 sgB nb par hgt rw v23 := by
  obtain ⟨⟨t0, t1, t2⟩, d2, d3', d4, d5'⟩ := h1
  obtain ⟨c1, ⟨b1, b2, b3, b4, b5, b6, b7, b8, b9, b10⟩, cT, c39⟩ := hc
  have n1 := hI.1.1
  have hB : ∀ b t, Vdr rw nb b t → tGr rw b t < tBr rw nb ∧ iGr rw b t + (txO rw b t).2.1.length ≤ iBr rw nb ∧ oGr rw b t + (txO rw b t).2.2.2.1.length ≤ oBr rw nb ∧ ∀ i, i < (rw b).length → st' (sBr rw b + i) = st (sBr rw b + i) := fun b t hv => by
    obtain ⟨v1, v2⟩ := hv
    have q1 := tB_mo (rw := rw) v1
    have q2 := iG_s v2
    have q3 := iG_e (rw := rw) (b := b) (t + 1)
    have q4 := iB_mo (rw := rw) v1
    have q5 := oG_s v2
    have q6 := oG_e (rw := rw) (b := b) (t + 1)
    have q7 := oB_mo (rw := rw) v1
    have q8 := sB_mo (rw := rw) v1
    refine ⟨?_, by omega, by omega, fun i hi => ho _ (by omega)⟩
    show tBr rw b + t < tBr rw nb
    omega
  refine ⟨⟨⟨t0, ?_, fun k hk => ?_⟩, fun k hk i hi => ?_, fun k hk => ?_, fun k hk => ?_, fun b hb hb' => ?_⟩, rAl_k h2 cT hB hst, fun b t k hv hk => ?_⟩
  · rw [b2 0 (by omega)]; exact t1
  · obtain ⟨y1, y2, y3, y4, y5, y6, y7⟩ := t2 k hk
    rw [b2 k hk, b3 k hk, b4 k hk, b5 k hk]
    exact ⟨y1, y2, y3, y4, y5, y6, y7⟩
  · rw [b8 _ (by omega)]; exact d2 k hk i hi
  · rw [b10 k hk]; exact d3' k hk
  · rw [Wa_k b9 hk]; exact d4 k hk
  · rw [b6 b hb', b7 b hb']; exact d5' b hb hb'
  · have q := (hB b t hv).2.1
    have e : v23 (iGr rw b t + k) = u23 (iGr rw b t + k) := cT.2.1.2.2.2.2 _ (by omega)
    have := h3 b t k hv hk
    rw [← e] at this
    exact this
set_option maxHeartbeats 2000000 in
theorem vEn_r {sgB : Nat → List Int32 → List Int32 → Bool} {nb : Nat} {par hgt tim : Nat → Nat} {bit : Nat → Int32} {bad : Nat → Bool} {rw : Nat → List Int32} {tip : Nat} {U : List Cn} (hI : aI sgB nb par hgt tim bit bad rw tip U) {st one u2 u3 u4 u5 u6 u7 u8 u9 u10 : Nat → Int32} {u11 u12 u13 u14 u15 u16 u17 u19 u20 u21 u22 u25 u26 u27 u41 : Nat → Int32} {u24 : Nat → Int64} (h1 : rC1 nb par hgt tim bit bad rw u2 u3 u4 u5 u6 u7 u8 u9 u10) (h2 : rC2 nb rw st one u11 u12 u13 u14 u15 u16 u17 u19 u20 u21 u22 u25 u26 u27 u41 u24) {b : Nat} (hb : 0 < b) (hb' : b < nb) : vEn sgB rw hgt (Vdr rw nb) (sBr rw) (tGr rw) (iGr rw) (oGr rw) (evT sgB rw par hgt) st u3 u6 u7 u11 u12 u13 u14 u15 u16 u17 u19 u20 u21 u22 u24 u25 u26 u27 one u41 b := by
  have hh := aI_h hI
  have hbk := hI.2.1.2 b hb hb'
  have hn := bk_n hbk
  have hcn := cnt_n hI.2.1 nb (Nat.le_refl _)
  have n2 := hI.1.2
  have h17 := hI.2.2.2.2.2.2.1
  have l3 := hbk.2.1
  obtain ⟨⟨t0, t1, t2⟩, d2, d3', d4, d5'⟩ := h1
  have hH := hh b hb'
  have q1 := tB_mo (rw := rw) hb'
  have q7 := oB_mo (rw := rw) hb'
  have q6 := oG_e (rw := rw) (b := b) (TLb rw b).length
  have q5 : iGr rw b (TLb rw b).length ≤ iGr rw b 0 + nIn (TLb rw b) := by
    unfold iGr
    have := nIn_mo (TLb rw b) (TLb rw b).length
    rw [List.take_zero]
    show _ ≤ iBr rw b + 0 + _
    omega
  refine ⟨h2, iIj_r rw nb, fun b t U U' => evT_u, fun t U s => evT_s, fun b t hv => Nat.le_trans (hh b hv.1) (by have := hv.1; omega), ⟨by omega, (t2 b hb').2.1, ?_, (d5' b hb hb').2, by omega⟩, fun t ht => ⟨⟨hb', ht⟩, ?_, iG_s ht, oG_s ht, fun _ => (bk_t hbk ht).2.2⟩, by omega, by omega, ?_⟩
  · show u6 b = nI (tBr rw b + 0)
    rw [Nat.add_zero]; exact (d5' b hb hb').1
  · show tBr rw b + t = tBr rw b + 0 + t
    omega
  · show tBr rw b + 0 + _ ≤ 2200
    omega
set_option maxHeartbeats 2000000 in
theorem hmo_r (rw : Nat → List Int32) {b b' : Nat} (h : b < b') : oGr rw b (TLb rw b).length ≤ oGr rw b' 0 := by
  have q7 := oB_mo (rw := rw) h
  have q6 := oG_e (rw := rw) (b := b) (TLb rw b).length
  have : oBr rw b' ≤ oGr rw b' 0 := Nat.le_add_right _ _
  omega
