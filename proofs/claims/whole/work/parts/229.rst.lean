-- the reference's state
set_option maxHeartbeats 2000000 in
theorem ag_sB {rw rw' : Nat → List Int32} {hgt hgt' : Nat → Nat} {nb : Nat} (h : agr nb rw hgt rw' hgt') {b : Nat} (hb : b ≤ nb) : sBr rw' b = sBr rw b := sumB_cg b fun k hk => by rw [(h k (by omega)).1]
set_option maxHeartbeats 2000000 in
theorem ag_tB {rw rw' : Nat → List Int32} {hgt hgt' : Nat → Nat} {nb : Nat} (h : agr nb rw hgt rw' hgt') {b : Nat} (hb : b ≤ nb) : tBr rw' b = tBr rw b := sumB_cg b fun k hk => by rw [ag_TL h (by omega)]
set_option maxHeartbeats 2000000 in
theorem ag_iB {rw rw' : Nat → List Int32} {hgt hgt' : Nat → Nat} {nb : Nat} (h : agr nb rw hgt rw' hgt') {b : Nat} (hb : b ≤ nb) : iBr rw' b = iBr rw b := sumB_cg b fun k hk => by rw [ag_TL h (by omega)]
set_option maxHeartbeats 2000000 in
theorem ag_oB {rw rw' : Nat → List Int32} {hgt hgt' : Nat → Nat} {nb : Nat} (h : agr nb rw hgt rw' hgt') {b : Nat} (hb : b ≤ nb) : oBr rw' b = oBr rw b := sumB_cg b fun k hk => by rw [ag_TL h (by omega)]
set_option maxHeartbeats 2000000 in
theorem ag_iG {rw rw' : Nat → List Int32} {hgt hgt' : Nat → Nat} {nb : Nat} (h : agr nb rw hgt rw' hgt') {b : Nat} (hb : b < nb) (t : Nat) : iGr rw' b t = iGr rw b t := by
  unfold iGr; rw [ag_iB h (Nat.le_of_lt hb), ag_TL h hb]
set_option maxHeartbeats 2000000 in
theorem ag_oG {rw rw' : Nat → List Int32} {hgt hgt' : Nat → Nat} {nb : Nat} (h : agr nb rw hgt rw' hgt') {b : Nat} (hb : b < nb) (t : Nat) : oGr rw' b t = oGr rw b t := by
  unfold oGr; rw [ag_oB h (Nat.le_of_lt hb), ag_TL h hb]
set_option maxHeartbeats 2000000 in
theorem ag_tG {rw rw' : Nat → List Int32} {hgt hgt' : Nat → Nat} {nb : Nat} (h : agr nb rw hgt rw' hgt') {b : Nat} (hb : b < nb) (t : Nat) : tGr rw' b t = tGr rw b t := by
  unfold tGr; rw [ag_tB h (Nat.le_of_lt hb)]
set_option maxHeartbeats 2000000 in
theorem rTab_g {rw rw' : Nat → List Int32} {hgt hgt' : Nat → Nat} {nb : Nat} (ag : agr nb rw hgt rw' hgt') {N : Nat} {cs : Nat → Cn} {uO uH uN ch uI : Nat → Int32} (hT : rTab rw hgt (Vdr rw nb) (oGr rw) N cs uO uH uN ch uI) : rTab rw' hgt' (Vdr rw' (nb + 1)) (oGr rw') N cs uO uH uN ch uI := by
  obtain ⟨a, b, c⟩ := hT
  have hb : ∀ e, e < N → (cs e).1 < nb := fun e he => (a e he).1.1.1
  refine ⟨fun e he => ?_, fun p hp => ?_, fun e e' he he' h1 h2 h3 => ?_⟩
  · obtain ⟨⟨⟨v1, v2⟩, v3⟩, a2, a3, a4⟩ := a e he
    refine ⟨⟨⟨Nat.lt_succ_of_lt v1, by rw [ag_TL ag v1]; exact v2⟩, by rw [ag_tx ag v1]; exact v3⟩, by rw [ag_oG ag v1]; exact a2, ?_, a4⟩
    rw [a3]
    unfold cnH
    rw [(ag _ v1).2]
  · obtain ⟨L, l1, l2, l3, l4⟩ := b p hp
    refine ⟨L, l1, fun e he q => l2 e he ?_, l3, l4⟩
    rw [← q]
    show cnW rw (cs e) = cnW rw' (cs e)
    unfold cnW
    rw [ag_id ag (hb e he)]
  · rw [ag_cK ag (hb e he), ag_cK ag (hb e' he')] at h3
    exact c e e' he he' h1 h2 h3
set_option maxHeartbeats 2000000 in
theorem iFi_g {sgB : Nat → List Int32 → List Int32 → Bool} {rw rw' : Nat → List Int32} {par par' hgt hgt' : Nat → Nat} {nb : Nat} (ag : agr nb rw hgt rw' hgt') (h0 : rw 0 = []) (hnb : 1 ≤ nb) (hp : ∀ k, 0 < k → par k < k) (hp' : ∀ k, 0 < k → par' k < k) (hpp : ∀ k, 0 < k → k < nb → par' k = par k) {u1 u1' : Nat → Int32} (h : iFi sgB rw (Vdr rw nb) (iGr rw) (evT sgB rw par hgt) u1) (hk : kb u1 u1' (iBr rw nb)) (hn : ∀ t k, t < (TLb rw' nb).length → k < (txO rw' nb t).2.1.length → u1' (iGr rw' nb t + k) = 0) : iFi sgB rw' (Vdr rw' (nb + 1)) (iGr rw') (evT sgB rw' par' hgt') u1' := by
  intro b t k hv hk'
  obtain ⟨v1, v2⟩ := hv
  by_cases q : b = nb
  · subst q
    exact Or.inl (hn t k v2 hk')
  have hb : b < nb := by omega
  rw [ag_TL ag hb] at v2
  rw [ag_tx ag hb] at hk'
  have hb0 : 0 < b := by
    by_cases q0 : b = 0
    · rw [q0, TLb_0 h0] at v2; exact absurd v2 (Nat.not_lt_zero _)
    · omega
  have a1 := iG_s v2
  have a2 := iG_e (rw := rw) (b := b) (t + 1)
  have a3 := iB_mo (rw := rw) hb
  rw [ag_iG ag hb, hk _ (by omega)]
  rcases h b t k ⟨hb, v2⟩ hk' with g | g
  · exact Or.inl g
  · refine Or.inr fun U hU => ?_
    obtain ⟨e1, e2⟩ := ag_evT (sgB := sgB) (ag_s ag) hp' (fun k hk hk' => (hpp k hk hk').symm) hb0 hb hU
    have hc : ((spC rw b t U).getD k e_C).1 < nb := by
      by_cases q : k < (spC rw b t U).length
      · exact bU_sC hb e2 _ (gD_mem e_C _ q)
      · rw [List.getD_eq_getElem?_getD, List.getElem?_eq_none (Nat.le_of_not_lt q)]
        exact hnb
    rw [ag_sC ag hb t e2, ag_fS ag hb t k hc]
    exact g U e1
/-- the reference's tables -/
def rC1 (nb : Nat) (par hgt tim : Nat → Nat) (bit : Nat → Int32) (bad : Nat → Bool) (rw : Nat → List Int32) (u2 u3 u4 u5 u6 u7 u8 u9 u10 : Nat → Int32) : Prop := rTb nb par hgt tim bit u2 u3 u4 u5 ∧ (∀ k, k < nb → ∀ i, i < 8 → u8 (8 * k + i) = nI (leP (bIf rw k) (4 * i) 4)) ∧ bdR nb bad u10 ∧ (∀ k, k < nb → Wa u9 k = wrk par bit k) ∧ ∀ b, 0 < b → b < nb → u6 b = nI (tBr rw b) ∧ u7 b = nI (TLb rw b).length
def rC2 (nb : Nat) (rw : Nat → List Int32) (st one : Nat → Int32) (u11 u12 u13 u14 u15 u16 u17 u19 u20 u21 u22 u25 u26 u27 u41 : Nat → Int32) (u24 : Nat → Int64) : Prop := rAl rw (Vdr rw nb) (sBr rw) (tGr rw) (iGr rw) (oGr rw) st u11 u12 u13 u14 u15 u16 u17 u19 u20 u21 u22 u25 u26 u27 one u41 u24
def rC3 (sgB : Nat → List Int32 → List Int32 → Bool) (nb : Nat) (par hgt : Nat → Nat) (rw : Nat → List Int32) (u23 : Nat → Int32) : Prop := iFi sgB rw (Vdr rw nb) (iGr rw) (evT sgB rw par hgt) u23
def rCz (nb : Nat) (rw : Nat → List Int32) (z : Nat → Int32) : Prop := z 1 = nI (sBr rw nb) ∧ z 3 = nI nb ∧ z 5 = nI (tBr rw nb) ∧ z 6 = nI (iBr rw nb) ∧ z 7 = nI (oBr rw nb)
def rCu (nb : Nat) (hgt : Nat → Nat) (rw : Nat → List Int32) (tip : Nat) (U : List Cn) (z uO uH uN ch uI : Nat → Int32) : Prop := z 4 = nI tip ∧ ∃ N cs, z 19 = nI N ∧ N ≤ 11600 ∧ rTab rw hgt (Vdr rw nb) (oGr rw) N cs uO uH uN ch uI ∧ liv N uI cs = U
set_option maxHeartbeats 2000000 in
theorem Wa_k {u v : Nat → Int32} {n k : Nat} (h : kb u v (8 * n)) (hk : k < n) : Wa v k = Wa u k := V_c fun j hj => h _ (by omega)
set_option maxHeartbeats 2000000 in
theorem wrk_g {par par' : Nat → Nat} {bit bit' : Nat → Int32} {nb : Nat} (hnb : 1 ≤ nb) (hp : ∀ k, 0 < k → k < nb → par k < k ∧ par' k = par k) (hP : ∀ k, 0 < k → par k < k) (hb : ∀ k, k < nb → bit' k = bit k) {k : Nat} (hk : k < nb) : wrk par' bit' k = wrk par bit k := by
  unfold wrk
  rw [ag_wy hp hk, hb 0 hnb, sumL_cg (q := fun k => wkX (bit k)) _ fun x hx => by rw [hb x (by have := (wy_mem hP _ x hx).2; omega)]]
set_option maxHeartbeats 2000000 in
theorem rC_ext {sgB : Nat → List Int32 → List Int32 → Bool} {nb : Nat} {par hgt tim : Nat → Nat} {bit : Nat → Int32} {bad : Nat → Bool} {rw : Nat → List Int32} {tip : Nat} {U : List Cn} (hI : aI sgB nb par hgt tim bit bad rw tip U) (hn : nb ≤ 57) {r : List Int32} {p : Nat} (hr : rfR rw nb par hgt tim bit (fun k => bad k = true) r 0 p) (hf : ftB (lf r)) (hl : r.length ≤ 3000) (hs : sBr rw nb + r.length ≤ 17000) {z0 z' : Nat → Int32} {u1 u2 u3 u4 u5 u6 u7 u8 u9 u10 u11 u12 u13 u14 u15 u16 u17 u18 u19 u20 u21 u22 u23 u25 u26 u27 u28 u29 u30 u31 u41 : Nat → Int32} {u24 : Nat → Int64} {v1 v2 v3 v4 v5 v6 v7 v8 v9 v10 v11 v12 v13 v14 v15 v16 v17 v18 v19 v20 v21 v22 v23 v25 v26 v27 v39 v41 : Nat → Int32} {v24 : Nat → Int64} {st st' one : Nat → Int32} (hst : ftB st') (h1 : rC1 nb par hgt tim bit bad rw u2 u3 u4 u5 u6 u7 u8 u9 u10) (h2 : rC2 nb rw st one u11 u12 u13 u14 u15 u16 u17 u19 u20 u21 u22 u25 u26 u27 u41 u24) (h3 : rC3 sgB nb par hgt rw u23) (ho : ∀ j, j < sBr rw nb → st' j = st j) (hw : ∀ j, j < r.length → st' (sBr rw nb + j) = lf r j) (hc : cmT nb (tBr rw nb) (iBr rw nb) (oBr rw nb) z0 u1 u2 u3 u4 u5 u6 u7 u8 u9 u10 u11 u12 u13 u14 u15 u16 u17 u18 u19 u20 u21 u22 u23 u24 u25 u26 u27 u28 u29 u30 u31 u41 z' v1 v2 v3 v4 v5 v6 v7 v8 v9 v10 v11 v12 v13 v14 v15 v16 v17 v18 v19 v20 v21 v22 v23 v24 v25 v26 v27 v41 v39) (hN : nwT hgt st' r (sBr rw nb) nb (tBr rw nb) (iBr rw nb) (oBr rw nb) p u9 z' v1 v2 v3 v4 v5 v6 v7 v8 v9 v10 v11 v12 v13 v14 v15 v16 v17 v18 v19 v20 v21 v22 v23 v24 v25 v26 v27 v41) : rC1 (nb + 1) (upW par nb p) (upW hgt nb (hgt p + 1)) (upW tim nb (rTm r)) (upW bit nb (rBi r)) (upW bad nb false) (upW rw nb r) v2 v3 v4 v5 v6 v7 v8 v9 v10 ∧ rC2 (nb + 1) (upW rw nb r) st' one v11 v12 v13 v14 v15 v16 v17 v19 v20 v21 v22 v25 v26 v27 v41 v24 ∧ rC3 sgB (nb + 1) (upW par nb p) (upW hgt nb (hgt p + 1)) (upW rw nb r) v23 ∧ (z' 5 = nI (tBr (upW rw nb r) (nb + 1)) ∧ z' 6 = nI (iBr (upW rw nb r) (nb + 1)) ∧ z' 7 = nI (oBr (upW rw nb r) (nb + 1))) := by
  have hX := aI_ext hI hn hr hf hl hs
  have hbA := cnt_n hI.2.1 nb (Nat.le_refl _)
  have hgx := fun k => aI_g hX (k := k)
  have hhx := aI_h hX
  obtain ⟨⟨n1, n2⟩, i2, i3, i4, i5, i6, i7, i8, i10⟩ := hI
  obtain ⟨-, x2, x3, x4, x5, -⟩ := hX
  obtain ⟨⟨TL, r1⟩, r2, ⟨r3, r4⟩, r5, r6, r7⟩ := rfR_0 hr
  have ag : agr nb rw hgt (upW rw nb r) (upW hgt nb (hgt p + 1)) := fun b hb => ⟨upW_n (by omega), upW_n (by omega)⟩
  have hTL : TLb (upW rw nb r) nb = rTL r := by unfold TLb rTL; rw [upW_s]
  obtain ⟨⟨t0, t1, t2⟩, d2, d3', d4, d5'⟩ := h1
  obtain ⟨c1, ⟨b1, b2, b3, b4, b5, b6, b7, b8, b9, b10⟩, cT, c39⟩ := hc
  obtain ⟨⟨w5, w6, w7⟩, ⟨m1, m2, m3, m4, m5, m6, m7, m10⟩, m8, m9, mR⟩ := hN
  have hpn : ∀ k, 0 < k → k < nb → par k < k ∧ upW par nb p k = par k := fun k hk hk' => ⟨i3 k hk, upW_n (by omega)⟩
  have eS := ag_sB ag (Nat.le_refl nb)
  have eT := ag_tB ag (Nat.le_refl nb)
  have eI := ag_iB ag (Nat.le_refl nb)
  have eO := ag_oB ag (Nat.le_refl nb)
  have hrf : rfH st' v11 v12 v13 v14 v15 v16 v17 v18 v19 v20 v21 v22 v23 v24 v25 v26 v27 v41 ((TLb (upW rw nb r) nb).map (shT (sBr (upW rw nb r) nb))) (tBr (upW rw nb r) nb) (iBr (upW rw nb r) nb) (oBr (upW rw nb r) nb) := by
    rw [hTL, eS, eT, eI, eO]; exact mR
  refine ⟨⟨⟨⟨by omega, x4.1, fun k hk hk' => ⟨x3 k hk, x4.2 k hk hk'⟩⟩, ?_, fun k hk => ?_⟩, fun k hk i hi => ?_, fun k hk => ?_, fun k hk => ?_, fun b hb hb' => ?_⟩, ?_, ?_, ?_⟩
  · rw [b2 0 (by omega)]; exact t1
  · have g := hgx k hk
    have g' := hhx k hk
    by_cases q : k = nb
    · subst q
      rw [m2, m3, m4, m5, upW_s, upW_s, upW_s, upW_s]
      rw [upW_s, upW_s] at g
      rw [upW_s] at g'
      rw [upW_s] at g
      exact ⟨fun _ => rfl, rfl, rfl, g.2, rfl, g.1, by omega⟩
    · obtain ⟨y1, y2, y3, y4, y5, y6, y7⟩ := t2 k (by omega)
      rw [b2 k (by omega), b3 k (by omega), b4 k (by omega), b5 k (by omega), upW_n q, upW_n q, upW_n q, upW_n q]
      exact ⟨y1, y2, y3, y4, y5, y6, y7⟩
  · by_cases q : k = nb
    · subst q
      rw [m8 i hi]
      unfold bIf
      rw [if_neg (by omega), upW_s]
    · rw [b8 _ (by omega), bIf_c (rw := rw) (rw' := upW rw nb r) (upW_n q)]
      exact d2 k (by omega) i hi
  · by_cases q : k = nb
    · subst q
      rw [m10, upW_s]; rfl
    · rw [b10 k (by omega), upW_n q]
      exact d3' k (by omega)
  · by_cases q : k = nb
    · subst q
      rw [m9, wrk_s x3 (by omega), upW_s, upW_s, d4 p r3, wrk_g n1 hpn i3 (fun k hk => upW_n (by omega)) r3]
    · rw [Wa_k b9 (by omega), d4 k (by omega), wrk_g n1 hpn i3 (fun k hk => upW_n (by omega)) (by omega)]
  · by_cases q : b = nb
    · subst q
      rw [m6, m7, eT, hTL]
      exact ⟨rfl, rfl⟩
    · rw [b6 b (by omega), b7 b (by omega), ag_tB ag (by omega), ag_TL ag (by omega)]
      exact d5' b hb (by omega)
  · have A := rAl_k (st' := st') h2 cT (fun b t hv => by
      obtain ⟨v1, v2⟩ := hv
      have q1 := tB_mo (rw := rw) v1
      have q2 := iG_s v2
      have q3 := iG_e (rw := rw) (b := b) (t + 1)
      have q4 := iB_mo (rw := rw) v1
      have q5 := oG_s v2
      have q6 := oG_e (rw := rw) (b := b) (t + 1)
      have q7 := oB_mo (rw := rw) v1
      have q8 := sB_mo (rw := rw) v1
      refine ⟨?_, by omega, by omega, fun i hi => ho _ (by omega)⟩
      show tBr rw b + t < tBr rw nb
      omega) hst
    have A' := rAl_g (rw' := upW rw nb r) (sB' := sBr (upW rw nb r)) (tG' := tGr (upW rw nb r)) (iG' := iGr (upW rw nb r)) (oG' := oGr (upW rw nb r)) A (fun b t hv => ⟨(ag b hv.1).1, ag_sB ag (Nat.le_of_lt hv.1), ag_tG ag hv.1 t, ag_iG ag hv.1 t, ag_oG ag hv.1 t⟩)
    have hbn := x2.2 nb (by omega) (by omega)
    have er : (upW rw nb r nb) = r := upW_s
    have B := rAl_n hbn hst h2.2.1 (fun j hj => by rw [er] at hj; rw [eS, er]; exact hw j hj) (by rw [eS, er]; omega) (by rw [eS, eT]; omega) (by rw [eS, eI]; omega) (by rw [eS, eO]; omega) hrf
    have C := rAl_o A' B
    refine ⟨C.1, C.2.1, fun b t hv => C.2.2 b t ?_⟩
    obtain ⟨v1, v2⟩ := hv
    by_cases q : b = nb
    · subst q
      exact Or.inr ⟨rfl, v2⟩
    · refine Or.inl ⟨by omega, ?_⟩
      rw [← ag_TL ag (by omega)]; exact v2
  · refine iFi_g ag i2.1 n1 i3 x3 (fun k hk hk' => (hpn k hk hk').2) h3 cT.2.1.2.2.2.2 (fun t k ht hk => ?_)
    have hO := rfH_at _ _ _ _ hrf t (by rw [List.length_map]; exact ht)
    rw [getD_map (shT (sBr (upW rw nb r) nb)) d5 d5 _ ht, ← List.map_take, nIn_sh, nOut_sh] at hO
    exact (hin_g hO.2.1 hk).2.2.2.2
  · refine ⟨?_, ?_, ?_⟩
    · show z' 5 = nI (tBr (upW rw nb r) nb + (TLb (upW rw nb r) nb).length)
      rw [eT, hTL]; exact w5
    · show z' 6 = nI (iBr (upW rw nb r) nb + nIn (TLb (upW rw nb r) nb))
      rw [eI, hTL]; exact w6
    · show z' 7 = nI (oBr (upW rw nb r) nb + nOut (TLb (upW rw nb r) nb))
      rw [eO, hTL]; exact w7
