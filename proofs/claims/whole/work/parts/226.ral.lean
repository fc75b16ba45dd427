-- the reference's arrays hold the new block too
set_option maxHeartbeats 1000000 in
theorem rAl_k {rw : Nat → List Int32} {Vd : Nat → Nat → Prop} {sB : Nat → Nat} {tG iG oG : Nat → Nat → Nat} {st one : Nat → Int32} {st' : Nat → Int32} {u11 u12 u13 u14 u15 u16 u17 u18 u19 u20 u21 u22 u23 u25 u26 u27 u28 u29 u30 u31 u41 : Nat → Int32} {u24 : Nat → Int64} {v11 v12 v13 v14 v15 v16 v17 v18 v19 v20 v21 v22 v23 v25 v26 v27 v41 : Nat → Int32} {v24 : Nat → Int64} {T0 I0 O0 : Nat} (h : rAl rw Vd sB tG iG oG st u11 u12 u13 u14 u15 u16 u17 u19 u20 u21 u22 u25 u26 u27 one u41 u24) (hk : keT T0 I0 O0 u11 u12 u13 u14 u15 u16 u17 u18 u19 u20 u21 u22 u23 u24 u25 u26 u27 u28 u29 u30 u31 u41 v11 v12 v13 v14 v15 v16 v17 v18 v19 v20 v21 v22 v23 v24 v25 v26 v27 v41) (hV : ∀ b t, Vd b t → tG b t < T0 ∧ iG b t + (txO rw b t).2.1.length ≤ I0 ∧ oG b t + (txO rw b t).2.2.2.1.length ≤ O0 ∧ ∀ i, i < (rw b).length → st' (sB b + i) = st (sB b + i)) (hst : ftB st') : rAl rw Vd sB tG iG oG st' v11 v12 v13 v14 v15 v16 v17 v19 v20 v21 v22 v25 v26 v27 one v41 v24 := by
  obtain ⟨-, h2, h3⟩ := h
  refine ⟨hst, h2, fun b t hv => ?_⟩
  obtain ⟨a, s, d, ⟨c1, c2, c3, c4, c5, c6, c7, c8⟩, e, f⟩ := h3 b t hv
  obtain ⟨w1, w2, w3, w4⟩ := hV b t hv
  obtain ⟨⟨k1, k2, k3, k4, k5, k6, k7, k8, k9⟩, ⟨l1, l2, l3, l4, l5⟩, m1, m2, m3, m4⟩ := hk
  refine ⟨a, fun i hi => (w4 i hi).trans (s i hi), d, ⟨(k1 _ w1).trans c1, (k2 _ w1).trans c2, fun i hi => (k3 _ (by omega)).trans (c3 i hi), (k4 _ w1).trans c4, (k5 _ w1).trans c5, (k6 _ w1).trans c6, (k7 _ w1).trans c7, (k9 _ w1).trans c8⟩, fun j hj => ?_, fun j hj => ?_⟩
  · obtain ⟨e1, e2, e3, e4⟩ := e j hj
    exact ⟨(l1 _ (by omega)).trans e1, (l2 _ (by omega)).trans e2, (l3 _ (by omega)).trans e3, (l4 _ (by omega)).trans e4⟩
  · obtain ⟨e1, e2, e3, e4⟩ := f j hj
    exact ⟨(m1 _ (by omega)).trans e1, (m2 _ (by omega)).trans e2, (m3 _ (by omega)).trans e3, (m4 _ (by omega)).trans e4⟩
set_option maxHeartbeats 1000000 in
theorem rAl_g {rw : Nat → List Int32} {Vd : Nat → Nat → Prop} {sB : Nat → Nat} {tG iG oG : Nat → Nat → Nat} {st one : Nat → Int32} {rw' : Nat → List Int32} {sB' : Nat → Nat} {tG' iG' oG' : Nat → Nat → Nat} {u11 u12 u13 u14 u15 u16 u17 u19 u20 u21 u22 u25 u26 u27 u41 : Nat → Int32} {u24 : Nat → Int64} (h : rAl rw Vd sB tG iG oG st u11 u12 u13 u14 u15 u16 u17 u19 u20 u21 u22 u25 u26 u27 one u41 u24) (hV : ∀ b t, Vd b t → rw' b = rw b ∧ sB' b = sB b ∧ tG' b t = tG b t ∧ iG' b t = iG b t ∧ oG' b t = oG b t) : rAl rw' Vd sB' tG' iG' oG' st u11 u12 u13 u14 u15 u16 u17 u19 u20 u21 u22 u25 u26 u27 one u41 u24 := by
  obtain ⟨h1, h2, h3⟩ := h
  refine ⟨h1, h2, fun b t hv => ?_⟩
  obtain ⟨w1, w2, w3, w4, w5⟩ := hV b t hv
  have e1 : txO rw' b t = txO rw b t := by unfold txO TLb; rw [w1]
  have e2 : idT rw' b t = idT rw b t := by unfold idT; rw [e1, w1]
  rw [w1, w2, w3, w4, w5, e1, e2]
  exact h3 b t hv
set_option maxHeartbeats 1000000 in
theorem rAl_o {rw : Nat → List Int32} {Vd : Nat → Nat → Prop} {sB : Nat → Nat} {tG iG oG : Nat → Nat → Nat} {st one : Nat → Int32} {Vd' : Nat → Nat → Prop} {u11 u12 u13 u14 u15 u16 u17 u19 u20 u21 u22 u25 u26 u27 u41 : Nat → Int32} {u24 : Nat → Int64} (h : rAl rw Vd sB tG iG oG st u11 u12 u13 u14 u15 u16 u17 u19 u20 u21 u22 u25 u26 u27 one u41 u24) (h' : rAl rw Vd' sB tG iG oG st u11 u12 u13 u14 u15 u16 u17 u19 u20 u21 u22 u25 u26 u27 one u41 u24) : rAl rw (fun b t => Vd b t ∨ Vd' b t) sB tG iG oG st u11 u12 u13 u14 u15 u16 u17 u19 u20 u21 u22 u25 u26 u27 one u41 u24 := ⟨h.1, h.2.1, fun b t hv => hv.elim (h.2.2 b t) (h'.2.2 b t)⟩
set_option maxHeartbeats 1000000 in
theorem rfH_at {st : Nat → Int32} {u11 u12 u13 u14 u15 u16 u17 u18 u19 u20 u21 u22 u23 u25 u26 u27 u41 : Nat → Int32} {u24 : Nat → Int64} : ∀ (TL : List Tx5) (t i o : Nat), rfH st u11 u12 u13 u14 u15 u16 u17 u18 u19 u20 u21 u22 u23 u24 u25 u26 u27 u41 TL t i o → ∀ k, k < TL.length → okT st (TL.getD k d5).1 (t + k) (i + nIn (TL.take k)) (o + nOut (TL.take k)) (TL.getD k d5).2.1 (TL.getD k d5).2.2.1 (TL.getD k d5).2.2.2.1 (TL.getD k d5).2.2.2.2 u11 u12 u13 u14 u15 u16 u17 u18 u19 u20 u21 u22 u23 u24 u25 u26 u27 u41
  | [], _, _, _, _, k, hk => absurd hk (Nat.not_lt_zero _)
  | T :: TL, t, i, o, h, 0, _ => h.1
  | T :: TL, t, i, o, h, k + 1, hk => by
    have := rfH_at TL (t + 1) _ _ h.2 k (Nat.lt_of_succ_lt_succ hk)
    show okT st (TL.getD k d5).1 (t + (k + 1)) (i + (T.2.1.length + nIn (TL.take k))) (o + (T.2.2.2.1.length + nOut (TL.take k))) (TL.getD k d5).2.1 (TL.getD k d5).2.2.1 (TL.getD k d5).2.2.2.1 (TL.getD k d5).2.2.2.2 u11 u12 u13 u14 u15 u16 u17 u18 u19 u20 u21 u22 u23 u24 u25 u26 u27 u41
    rw [show t + (k + 1) = t + 1 + k from by omega, ← Nat.add_assoc i, ← Nat.add_assoc o]
    exact this
set_option maxHeartbeats 1000000 in
theorem rAl_n {rw : Nat → List Int32} {hgt tim : Nat → Nat} {nb : Nat} {st one : Nat → Int32} {u11 u12 u13 u14 u15 u16 u17 u18 u19 u20 u21 u22 u23 u25 u26 u27 u41 : Nat → Int32} {u24 : Nat → Int64} (hb : bkS rw hgt tim nb) (hst : ftB st) (h1 : V one 8 = 1) (hr : ∀ j, j < (rw nb).length → st (sBr rw nb + j) = lf (rw nb) j) (hB : sBr rw nb + (rw nb).length ≤ 20000) (ht : 10 * tBr rw nb ≤ sBr rw nb) (hi : 41 * iBr rw nb ≤ sBr rw nb) (ho : 9 * oBr rw nb ≤ sBr rw nb) (hR : rfH st u11 u12 u13 u14 u15 u16 u17 u18 u19 u20 u21 u22 u23 u24 u25 u26 u27 u41 ((TLb rw nb).map (shT (sBr rw nb))) (tBr rw nb) (iBr rw nb) (oBr rw nb)) : rAl rw (fun b t => b = nb ∧ t < (TLb rw nb).length) (sBr rw) (tGr rw) (iGr rw) (oGr rw) st u11 u12 u13 u14 u15 u16 u17 u19 u20 u21 u22 u25 u26 u27 one u41 u24 := by
  refine ⟨hst, h1, fun b t hv => ?_⟩
  obtain ⟨rfl, hv⟩ := hv
  obtain ⟨d, ⟨b1, b2⟩, -⟩ := bk_t hb hv
  obtain ⟨E80, a0, ha0, ha1, hTB⟩ := pBl_B hb.1
  have hcnt := txB_n _ _ hTB
  have n1 := nIn_tk (TLb rw b) t hv
  have n2 := nOut_tk (TLb rw b) t hv
  have n3 := nIn_mo (TLb rw b) (t + 1)
  have n4 := nOut_mo (TLb rw b) (t + 1)
  replace n1 : nIn ((TLb rw b).take (t + 1)) = nIn ((TLb rw b).take t) + (txO rw b t).2.1.length := n1
  replace n2 : nOut ((TLb rw b).take (t + 1)) = nOut ((TLb rw b).take t) + (txO rw b t).2.2.2.1.length := n2
  have h3000 := hb.2.1
  have hid := l_ids hr (TLb rw b) _ _ _ hTB hR t hv
  have hO := rfH_at _ _ _ _ hR t (by rw [List.length_map]; exact hv)
  rw [getD_map (shT (sBr rw b)) d5 d5 _ hv, ← List.map_take, nIn_sh, nOut_sh] at hO
  replace hO : okT st (sBr rw b + (txO rw b t).1) (tGr rw b t) (iGr rw b t) (oGr rw b t) ((txO rw b t).2.1.map (sh3 (sBr rw b))) (sBr rw b + (txO rw b t).2.2.1) ((txO rw b t).2.2.2.1.map (sh3 (sBr rw b))) (sBr rw b + (txO rw b t).2.2.2.2) u11 u12 u13 u14 u15 u16 u17 u18 u19 u20 u21 u22 u23 u24 u25 u26 u27 u41 := hO
  obtain ⟨⟨c1, c2, c3, c4, c5, c6, c7, c8, c9⟩, hin, hout⟩ := hO
  rw [List.length_map] at c5 c7
  rw [show sBr rw b + (txO rw b t).2.2.2.2 - (sBr rw b + (txO rw b t).1) = (txO rw b t).2.2.2.2 - (txO rw b t).1 from by omega] at c2
  refine ⟨⟨?_, ?_, ?_, by omega, h3000, b1, b2⟩, hr, d, ⟨c1, c2, fun i hi => ?_, c4, c5, c6, c7, c9⟩, fun j hj => ?_, fun j hj => ?_⟩
  · show tBr rw b + t < 2200; omega
  · show iBr rw b + nIn ((TLb rw b).take t) + _ ≤ 2600; omega
  · show oBr rw b + nOut ((TLb rw b).take t) + _ ≤ 11600; omega
  · exact hid i hi
  · obtain ⟨g1, g2, g3, g4, -⟩ := hin_g hin hj
    have q := d.2.2.2.1 _ (gD_mem d3 _ hj)
    rw [leP_c (p' := lf (rw b)) fun i hi => (hr (((txO rw b t).2.1.getD j d3).2.1 + ((txO rw b t).2.1.getD j d3).2.2 + i) (by omega) : at0 (sBr rw b) st _ = _)] at g4
    exact ⟨g1, g2, g3, g4⟩
  · obtain ⟨g1, g2, g3, g4⟩ := hout_g hout hj
    have q := d.2.2.2.2 _ (gD_mem d3 _ hj)
    rw [leP_c (p' := lf (rw b)) fun i hi => (hr (((txO rw b t).2.2.2.1.getD j d3).1 + i) (by omega) : at0 (sBr rw b) st _ = _)] at g1
    exact ⟨g1, g2, g3, g4⟩
