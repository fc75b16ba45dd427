-- the reference's take: the checks
set_option maxHeartbeats 4000000 in
theorem insr_m (x : Nat) : ∀ A y, y ∈ insr x A → y = x ∨ y ∈ A
  | [], y, h => Or.inl (List.mem_singleton.mp h)
  | a :: A, y, h => by
    unfold insr at h
    split at h
    · rcases List.mem_cons.mp h with h | h
      · exact Or.inr (h ▸ List.mem_cons_self)
      · rcases insr_m x A y h with h | h
        · exact Or.inl h
        · exact Or.inr (List.mem_cons_of_mem _ h)
    · exact List.mem_cons.mp h
set_option maxHeartbeats 4000000 in
theorem isr_m : ∀ L A y, y ∈ isr L A → y ∈ L ∨ y ∈ A
  | [], A, y, h => Or.inr h
  | x :: L, A, y, h => by
    rcases isr_m L (insr x A) y h with h | h
    · exact Or.inl (List.mem_cons_of_mem _ h)
    · rcases insr_m x A y h with h | h
      · exact Or.inl (h ▸ List.mem_cons_self)
      · exact Or.inr h
set_option maxHeartbeats 4000000 in
theorem med_lt {L : List Nat} {M : Nat} (hM : 0 < M) (h : ∀ y, y ∈ L → y < M) : med L < M := by
  unfold med
  by_cases q : L.length / 2 < ((isr L []).reverse).length
  · have := gD_mem 0 ((isr L []).reverse) q
    rcases isr_m L [] _ (List.mem_reverse.mp this) with h1 | h1
    · exact h _ h1
    · exact absurd h1 (List.not_mem_nil)
  · rw [List.getD_eq_getElem?_getD, List.getElem?_eq_none (Nat.le_of_not_lt q)]
    exact hM
set_option maxHeartbeats 4000000 in
theorem tls_lt {par tim : Nat → Nat} {nb M : Nat} (hp : ∀ k, 0 < k → k < nb → par k < k) (ht : ∀ k, k < nb → tim k < M) : ∀ n k, k < nb → ∀ y, y ∈ tls par tim n k → y < M
  | 0, k, _, y, h => absurd h (List.not_mem_nil)
  | n + 1, k, hk, y, h => by
    rcases List.mem_cons.mp h with h | h
    · rw [h]; exact ht k hk
    · by_cases q : k = 0
      · rw [if_pos q] at h; exact absurd h (List.not_mem_nil)
      · rw [if_neg q] at h
        exact tls_lt hp ht n (par k) (Nat.lt_trans (hp k (by omega) hk) hk) y h
set_option maxHeartbeats 4000000 in
theorem l_Tg {x : Int32} {e m : Nat} (h : gb x e m) : Tg e m + 1 < 2 ^ 256 := Nat.lt_of_le_of_lt (Tg_lt h) (Nat.pow_lt_pow_right (by decide) (by decide))
set_option maxHeartbeats 4000000 in
theorem l_ids {st : Nat → Int32} {r : List Int32} {B : Nat} (hr : ∀ j, j < r.length → st (B + j) = lf r j) {u11 u12 u13 u14 u15 u16 u17 u18 u19 u20 u21 u22 u23 u25 u26 u27 u41 : Nat → Int32} {u24 : Nat → Int64} : ∀ (TL : List Tx5) (t i o : Nat) {a : Nat}, txB r.length TL a → rfH st u11 u12 u13 u14 u15 u16 u17 u18 u19 u20 u21 u22 u23 u24 u25 u26 u27 u41 (TL.map (shT B)) t i o → ∀ k, k < TL.length → ∀ j, j < 8 → u13 (8 * (t + k) + j) = nI (leP (dbl (fun i => lf r ((TL.getD k d5).1 + i)) ((TL.getD k d5).2.2.2.2 - (TL.getD k d5).1)) (4 * j) 4)
  | [], _, _, _, _, _, _, k, hk, _, _ => absurd hk (Nat.not_lt_zero _)
  | T :: TL, t, i, o, a, hb, h, k, hk, j, hj => by
    obtain ⟨b1, b2, b3, b4, b5, b6⟩ := hb
    match k, hk with
    | 0, _ =>
      have := h.1.1.2.2.1 j hj
      rw [Nat.add_zero]
      rw [this]
      unfold idW
      show nI (leP (dbl (fun i => st (B + T.1 + i)) (B + T.2.2.2.2 - (B + T.1))) (4 * j) 4) = nI (leP (dbl (fun i => lf r (T.1 + i)) (T.2.2.2.2 - T.1)) (4 * j) 4)
      rw [show B + T.2.2.2.2 - (B + T.1) = T.2.2.2.2 - T.1 from by omega, dbl_c (m' := fun i => lf r (T.1 + i)) fun n hn => by rw [Nat.add_assoc]; exact hr _ (by omega)]
    | k + 1, hk =>
      have := l_ids hr TL (t + 1) _ _ b6 h.2 k (Nat.lt_of_succ_lt_succ hk) j hj
      rw [show t + (k + 1) = t + 1 + k from by omega]
      exact this
set_option maxHeartbeats 4000000 in
theorem l_txV {st : Nat → Int32} {r : List Int32} {B : Nat} (hr : ∀ j, j < r.length → st (B + j) = lf r j) : ∀ {TL : List Tx5} {a : Nat}, txB r.length TL a → TL.map (txV (at0 B st)) = TL.map (txV (lf r))
  | [], _, _ => rfl
  | T :: TL, a, hb => by
    obtain ⟨b1, b2, b3, b4, b5, b6⟩ := hb
    rw [List.map_cons, List.map_cons, l_txV hr b6]
    congr 1
    have e1 : T.2.1.map (inV (at0 B st)) = T.2.1.map (inV (lf r)) := List.map_congr_left fun x hx => by
      have q := b2 x hx
      unfold inV
      have y1 : bl (at0 B st) x.1 36 = bl (lf r) x.1 36 := bl_c _ _ _ fun j hj => hr (x.1 + j) (by omega)
      have y2 : bl (at0 B st) x.2.1 x.2.2 = bl (lf r) x.2.1 x.2.2 := bl_c _ _ _ fun j hj => hr (x.2.1 + j) (by omega)
      rw [y1, y2, leP_c fun j hj => (hr (x.2.1 + x.2.2 + j) (by omega) : at0 B st (x.2.1 + x.2.2 + j) = _)]
    have e2 : T.2.2.2.1.map (outV (at0 B st)) = T.2.2.2.1.map (outV (lf r)) := List.map_congr_left fun x hx => by
      have q := b3 x hx
      unfold outV
      rw [bl_c _ _ _ fun j hj => (hr (x.2.1 + j) (by omega) : at0 B st (x.2.1 + j) = _), leP_c fun j hj => (hr (x.1 + j) (by omega) : at0 B st (x.1 + j) = _)]
    unfold txV
    rw [e1, e2, leP_c fun j hj => (hr (T.2.2.2.2 - 4 + j) (by omega) : at0 B st (T.2.2.2.2 - 4 + j) = _)]
/-- what take leaves as it was -/
def cmT (nb t i o : Nat) (z0 : Nat → Int32) (b1 b2 b3 b4 b5 b6 b7 b8 b9 b10 : Nat → Int32) (b11 b12 b13 b14 b15 b16 b17 b18 b19 b20 b21 b22 b23 : Nat → Int32) (b24 : Nat → Int64) (b25 b26 b27 b28 b29 b30 b31 b41 : Nat → Int32) (z' : Nat → Int32) (v1 v2 v3 v4 v5 v6 v7 v8 v9 v10 : Nat → Int32) (v11 v12 v13 v14 v15 v16 v17 v18 v19 v20 v21 v22 v23 : Nat → Int32) (v24 : Nat → Int64) (v25 v26 v27 v41 : Nat → Int32) (v39 : Nat → Int32) : Prop := (∀ j, j ≠ 5 → j ≠ 6 → j ≠ 7 → j ≠ 9 → j ≠ 16 → j ≠ 18 → z' j = z0 j) ∧ (kb b1 v1 nb ∧ kb b2 v2 nb ∧ kb b3 v3 nb ∧ kb b4 v4 nb ∧ kb b5 v5 nb ∧ kb b6 v6 nb ∧ kb b7 v7 nb ∧ kb b8 v8 (8 * nb) ∧ kb b9 v9 (8 * nb) ∧ kb b10 v10 nb) ∧ keT t i o b11 b12 b13 b14 b15 b16 b17 b18 b19 b20 b21 b22 b23 b24 b25 b26 b27 b28 b29 b30 b31 b41 v11 v12 v13 v14 v15 v16 v17 v18 v19 v20 v21 v22 v23 v24 v25 v26 v27 v41 ∧ ftB v39
/-- the row of a block that was taken -/
def nwT (hgt : Nat → Nat) (st : Nat → Int32) (r : List Int32) (B nb t i o p : Nat) (b9 z' : Nat → Int32) (v1 v2 v3 v4 v5 v6 v7 v8 v9 v10 : Nat → Int32) (v11 v12 v13 v14 v15 v16 v17 v18 v19 v20 v21 v22 v23 : Nat → Int32) (v24 : Nat → Int64) (v25 v26 v27 v41 : Nat → Int32) : Prop := (z' 5 = nI (t + (rTL r).length) ∧ z' 6 = nI (i + nIn (rTL r)) ∧ z' 7 = nI (o + nOut (rTL r))) ∧ (v1 nb = nI B ∧ v2 nb = nI p ∧ v3 nb = nI (hgt p + 1) ∧ v4 nb = nI (rTm r) ∧ v5 nb = rBi r ∧ v6 nb = nI t ∧ v7 nb = nI (rTL r).length ∧ v10 nb = 0) ∧ (∀ i, i < 8 → v8 (8 * nb + i) = nI (leP (dbl (lf r) 80) (4 * i) 4)) ∧ Wa v9 nb = wkX (rBi r) + Wa b9 p ∧ rfH st v11 v12 v13 v14 v15 v16 v17 v18 v19 v20 v21 v22 v23 v24 v25 v26 v27 v41 ((rTL r).map (shT B)) t i o
def tkR (rw : Nat → List Int32) (nb : Nat) (par hgt tim : Nat → Nat) (bit : Nat → Int32) (bad : Nat → Bool) (st : Nat → Int32) (r : List Int32) (B t i o : Nat) (z0 : Nat → Int32) (b1 b2 b3 b4 b5 b6 b7 b8 b9 b10 : Nat → Int32) (b11 b12 b13 b14 b15 b16 b17 b18 b19 b20 b21 b22 b23 : Nat → Int32) (b24 : Nat → Int64) (b25 b26 b27 b28 b29 b30 b31 b41 : Nat → Int32) (x : T46) : Prop := match x with
  | (a, z', v1, v2, v3, v4, v5, v6, v7, v8, v9, v10, v11, v12, v13, v14, v15, v16, v17, v18, v19, v20, v21, v22, v23, v24, v25, v26, v27, v28, v29, v30, v31, v32, v33, v34, v35, v36, v37, v38, v39, v40, v41, v42, v43, v44) => ∃ c p, a = nI c ∧ c ≤ 9 ∧ rfR rw nb par hgt tim bit (fun k => bad k = true) r c p ∧ cmT nb t i o z0 b1 b2 b3 b4 b5 b6 b7 b8 b9 b10 b11 b12 b13 b14 b15 b16 b17 b18 b19 b20 b21 b22 b23 b24 b25 b26 b27 b28 b29 b30 b31 b41 z' v1 v2 v3 v4 v5 v6 v7 v8 v9 v10 v11 v12 v13 v14 v15 v16 v17 v18 v19 v20 v21 v22 v23 v24 v25 v26 v27 v41 v39 ∧ (c = 0 → nwT hgt st r B nb t i o p b9 z' v1 v2 v3 v4 v5 v6 v7 v8 v9 v10 v11 v12 v13 v14 v15 v16 v17 v18 v19 v20 v21 v22 v23 v24 v25 v26 v27 v41)
set_option maxHeartbeats 4000000 in
theorem cmpN_gt (a b : Nat) : 0 < cmpN a b ↔ b < a := by
  rw [← Int32.not_le, cmpN_le]; omega
set_option maxHeartbeats 4000000 in
theorem l_tkF (fu : Nat) (hfu : 5000 ≤ fu) (st one : Nat → Int32) (hst : ftB st) (h1 : V one 8 = 1) {rw : Nat → List Int32} {nb : Nat} {par hgt tim : Nat → Nat} {bit : Nat → Int32} {bad : Nat → Bool} {r : List Int32} {B t i o : Nat} (hr : ∀ j, j < r.length → st (B + j) = lf r j) (hE : r.length ≤ 3000) (hBE : B + r.length ≤ 20000) (hnb : 1 ≤ nb ∧ nb ≤ 200) (hpb : pBl (lf r) r.length = some (rTL r)) (ht : 10 * t ≤ B) (hi : 41 * i ≤ B) (ho : 9 * o ≤ B) (z0 b8 : Nat → Int32) (b11 b12 b13 b14 b15 b16 b17 b18 b19 b20 b21 b22 b23 : Nat → Int32) (b24 : Nat → Int64) (b25 b26 b27 b28 b29 b30 b31 b41 : Nat → Int32) (K : Int32 → Int32 → Int32 → Int32 → Int64 → Int32 → Int32 → (Nat → Int32) → (Nat → Int32) → (Nat → Int32) → (Nat → Int32) → (Nat → Int32) → (Nat → Int32) → (Nat → Int32) → (Nat → Int32) → (Nat → Int32) → (Nat → Int32) → (Nat → Int32) → (Nat → Int32) → (Nat → Int32) → (Nat → Int32) → (Nat → Int32) → (Nat → Int32) → (Nat → Int32) → (Nat → Int32) → (Nat → Int32) → (Nat → Int32) → (Nat → Int32) → (Nat → Int32) → (Nat → Int32) → (Nat → Int32) → (Nat → Int64) → (Nat → Int32) → (Nat → Int32) → (Nat → Int32) → (Nat → Int32) → (Nat → Int32) → (Nat → Int32) → (Nat → Int32) → (Nat → Int32) → (Nat → Int32) → (Nat → Int32) → (Nat → Int32) → (Nat → Int32) → (Nat → Int32) → (Nat → Int32) → (Nat → Int32) → (Nat → Int32) → (Nat → Int32) → (Nat → Int32) → (Nat → Int32) → (Nat → Int32) → Option T46) (z : Nat → Int32) (u1 u2 u3 u4 u5 u6 u7 u8 u9 u10 u11 u12 u13 u14 u15 u16 u17 u18 u19 u20 u21 u22 u23 : Nat → Int32) (u24 : Nat → Int64) (u25 u26 u27 u28 u29 u30 u31 u32 u33 u34 u35 u36 u37 u38 u39 u40 u41 u42 u43 u44 : Nat → Int32) (hT : rTb nb par hgt tim bit u2 u3 u4 u5) (hhg : ∀ k, k < nb → hgt k ≤ 57) (hid : ∀ k, k < nb → ∀ i, i < 8 → u8 (8 * k + i) = nI (leP (bIf rw k) (4 * i) 4)) (hnw : ∀ i, i < 8 → u8 (8 * nb + i) = nI (leP (dbl (lf r) 80) (4 * i) 4)) (hbd : bdR nb bad u10) (hwk : ∀ k, k < nb → Wa u9 k < 2 ^ 40) (hh : ∀ j, j < 32 → u30 j = dbl (lf r) 80 j) (h3 : z 3 = nI nb) (h5 : z 5 = nI (t + (rTL r).length)) (h6 : z 6 = nI (i + nIn (rTL r))) (h7 : z 7 = nI (o + nOut (rTL r))) (hRf : rfH st u11 u12 u13 u14 u15 u16 u17 u18 u19 u20 u21 u22 u23 u24 u25 u26 u27 u41 ((rTL r).map (shT B)) t i o) (hth : ftB u39) (hz0 : ∀ j, j ≠ 5 → j ≠ 6 → j ≠ 7 → j ≠ 9 → j ≠ 16 → j ≠ 18 → z j = z0 j) (k8 : kb b8 u8 (8 * nb)) (kT : keT t i o b11 b12 b13 b14 b15 b16 b17 b18 b19 b20 b21 b22 b23 b24 b25 b26 b27 b28 b29 b30 b31 b41 u11 u12 u13 u14 u15 u16 u17 u18 u19 u20 u21 u22 u23 u24 u25 u26 u27 u41) : ok (xb_M_take_126 fu st one K (nI B) (nI (rTm r)) (rBi r) (nI nb) (lN (rTL r).length) (nI t) (nI 8) z u1 u2 u3 u4 u5 u6 u7 u8 u9 u10 u11 u12 u13 u14 u15 u16 u17 u18 u19 u20 u21 u22 u23 u24 u25 u26 u27 u28 u29 u30 u31 u32 u33 u34 u35 u36 u37 u38 u39 u40 u41 u42 u43 u44) (tkR rw nb par hgt tim bit bad st r B t i o z0 u1 u2 u3 u4 u5 u6 u7 b8 u9 u10 b11 b12 b13 b14 b15 b16 b17 b18 b19 b20 b21 b22 b23 b24 b25 b26 b27 b28 b29 b30 b31 b41) := by
  obtain ⟨n1, n2⟩ := hnb
  obtain ⟨E80, a0, ha0, ha1, hTB⟩ := pBl_B hpb
  have hcnt := txB_n _ _ hTB
  have hlenT : (rTL r).length ≤ 292 := by omega
  have htm : rTm r < 2 ^ 32 := leP_lt _ _ 4
  have CM : cmT nb t i o z0 u1 u2 u3 u4 u5 u6 u7 b8 u9 u10 b11 b12 b13 b14 b15 b16 b17 b18 b19 b20 b21 b22 b23 b24 b25 b26 b27 b28 b29 b30 b31 b41 z u1 u2 u3 u4 u5 u6 u7 u8 u9 u10 u11 u12 u13 u14 u15 u16 u17 u18 u19 u20 u21 u22 u23 u24 u25 u26 u27 u41 u39 := ⟨hz0, ⟨fun _ _ => rfl, fun _ _ => rfl, fun _ _ => rfl, fun _ _ => rfl, fun _ _ => rfl, fun _ _ => rfl, fun _ _ => rfl, k8, fun _ _ => rfl, fun _ _ => rfl⟩, kT, hth⟩
  have hID : ∀ k, k < nb → (∀ i, i < 8 → u8 (8 * k + i) = nI (leP (bIf rw k) (4 * i) 4)) ∧ ∀ j, j < 32 → fits .byte (.int (bIf rw k j)) = true := fun k hk => ⟨hid k hk, fun j _ => by
    unfold bIf
    by_cases q : k = 0
    · rw [if_pos q]; decide
    · rw [if_neg q]; exact dbl_f _ _ _⟩
  have e32 : bl u30 0 32 = bl (dbl (lf r) 80) 0 32 := bl_c _ _ _ fun j hj => by rw [Nat.zero_add]; exact hh j hj
  have e4 : bl st (B + 4) 32 = bl (lf r) 4 32 := bl_st hr (by omega)
  have e36 : bl st (B + 36) 32 = bl (lf r) 36 32 := bl_st hr (by omega)
  unfold xb_M_take_126
  refine ok_t (by decide) ?_
  refine ok_bd1 (Q := fnP nb fun k => bl (bIf rw k) 0 32 = bl u30 0 32) (v_M_find fu (by omega) z u8 32 (by decide) u30 (a := 0) (nb := nb) (idf := bIf rw) (by decide) (by omega) h3 hID (fun j hj => by rw [Nat.zero_add, hh j hj]; exact dbl_f _ _ _)) (fun v1 hq => ?_)
  rw [e32] at hq
  have c1 : ¬ pBl (lf r) r.length = none := by rw [hpb]; intro h; cases h
  rcases hq with ⟨rfl, hq⟩ | ⟨k, k1, k2, -, rfl⟩
  case inr =>
    refine ok_f (fun q => absurd ((nI_ltI (a := k) (b := 0) (by omega) (by omega)).mp q) (Nat.not_lt_zero _)) (ok_some ?_)
    exact ⟨2, 0, rfl, by decide, iPr_f c1 (iPr_t ⟨k, k1, k2⟩ rfl), CM, fun h => absurd h (by decide)⟩
  have c2 : ¬ ∃ k, k < nb ∧ bl (bIf rw k) 0 32 = bl (dbl (lf r) 80) 0 32 := fun ⟨k, k1, k2⟩ => hq k k1 k2
  refine ok_t (by decide) ?_
  refine ok_bn (e' := nI (B + 4)) (nI_add B 4) ?_
  refine ok_bd1 (v_M_find fu (by omega) z u8 103000 (by decide) st (a := B + 4) (nb := nb) (idf := bIf rw) (by omega) (by omega) h3 hID (fun j hj => hst _)) (fun v3 hq => ?_)
  rw [e4] at hq
  rcases hq with ⟨rfl, hq⟩ | ⟨p, p1, p2, -, rfl⟩
  · refine ok_f (by decide) (ok_some ?_)
    exact ⟨3, 0, rfl, by decide, iPr_f c1 (iPr_f c2 (iPr_t hq rfl)), CM, fun h => absurd h (by decide)⟩
  have c3 : ¬ ∀ k, k < nb → bl (bIf rw k) 0 32 ≠ bl (lf r) 4 32 := fun q => q p p1 p2
  have G : ∀ c, rf2 par hgt tim bit (fun k => bad k = true) r p c → rfR rw nb par hgt tim bit (fun k => bad k = true) r c p := fun c h => iPr_f c1 (iPr_f c2 (iPr_f c3 ⟨p1, p2, h⟩))
  refine ok_t ((nI_leI (a := 0) (b := p) (by omega) (by omega)).mpr (Nat.zero_le _)) ?_
  have hin : inb (nI p) 202 = true := inb_nI (by omega) (by decide)
  have ec : (nI p).toNatClampNeg = p := nI_clamp (n := p) (by omega)
  rw [ec]
  refine ok_gd hin (ok_bnd ?_)
  have hp10 := hbd p p1
  by_cases q4 : bad p = true
  · rw [if_pos q4] at hp10
    refine ok_f (by rw [hp10]; decide) (ok_some ?_)
    exact ⟨4, p, rfl, by decide, G 4 (iPr_t q4 rfl), CM, fun h => absurd h (by decide)⟩
  rw [if_neg q4] at hp10
  refine ok_t hp10 ?_
  refine ok_bd3 (v_M_wanted fu (by omega) z hT (by omega) p1 u32 u37) (fun v5 f6 f7 hq => ?_)
  replace hq : wnQ par hgt tim bit p v5 := hq
  by_cases q5 : rBi r = v5
  case neg =>
    refine ok_f q5 (ok_some ?_)
    exact ⟨5, p, rfl, by decide, G 5 (iPr_f q4 (iPr_t (fun q => q5 (wnQ_u q hq)) rfl)), CM, fun h => absurd h (by decide)⟩
  have hwq : wnQ par hgt tim bit p (rBi r) := by rw [q5]; exact hq
  have c5 : ¬ ¬ wnQ par hgt tim bit p (rBi r) := fun q => q hwq
  refine ok_t q5 ?_
  obtain ⟨T0, T1, T2⟩ := hT
  obtain ⟨-, gh, -, -, -, gB, -⟩ := T2 p p1
  obtain ⟨e, m, g1, g2⟩ := wn_gT hwq gB (hhg p p1)
  have hTg := tgB_e g1
  refine ok_bd2 (v_M_target fu (by omega) z g1 f6) (fun v8 f9 hq9 => ?_)
  replace hq9 : V f9 8 = Tg e m := hq9
  refine ok_bn (e' := nI (8 * nb)) (pk_mul 8 nb) ?_
  refine ok_gd (cpk_nI (a := 8 * nb) (b := 0) (n := 8) (by omega) (by decide) (by decide) (by decide)) ?_
  rw [nI_clamp (n := 8 * nb) (by omega)]
  refine ok_bnd ?_
  have hV : V (va_cpy u8 f7 (8 * nb) (Int32.toNatClampNeg 0) (Int32.toNatClampNeg 8)) 8 = leP (dbl (lf r) 80) 0 32 := V_le (o := 0) 8 fun j hj => by
    rw [show Int32.toNatClampNeg 0 = 0 from rfl, show Int32.toNatClampNeg 8 = 8 from rfl, pk_cpy_in (Nat.zero_le _) (by omega), Nat.sub_zero, Nat.zero_add]
    exact hnw j hj
  generalize va_cpy u8 f7 (8 * nb) (Int32.toNatClampNeg 0) (Int32.toNatClampNeg 8) = f11 at *
  refine ok_bd1 (Q := fun v => v = cmpN (leP (dbl (lf r) 80) 0 32) (Tg e m)) (by rw [v_M_compare fu (by omega), hV, hq9]; exact ok_some rfl) (fun v12 hv => ?_)
  subst hv
  by_cases q6 : leP (dbl (lf r) 80) 0 32 ≤ Tg e m
  case neg =>
    refine ok_f (fun q => q6 ((cmpN_le _ _).mp q)) (ok_some ?_)
    exact ⟨6, p, rfl, by decide, G 6 (iPr_f q4 (iPr_f c5 (iPr_t (by rw [hTg]; exact Nat.lt_of_not_le q6) rfl))), CM, fun h => absurd h (by decide)⟩
  have c6 : ¬ tgB (rBi r) < leP (dbl (lf r) 80) 0 32 := by rw [hTg]; exact Nat.not_lt_of_le q6
  refine ok_t ((cmpN_le _ _).mpr q6) ?_
  refine ok_bd2 (v_M_medianOf fu (by omega) z (bit := bit) (gh := u3) (gbi := u5) ⟨T0, T1, T2⟩ (by omega) p1 u42) (fun v13 f14 hq => ?_)
  replace hq : v13 = nI (med (tls par tim 11 p)) := hq
  have hmd : med (tls par tim 11 p) < 2 ^ 32 := med_lt (by decide) (tls_lt (nb := nb) (fun k hk hk' => (T0.2.2 k hk hk').1) (fun k hk => (T2 k hk).2.2.2.1) 11 p p1)
  refine ok_bd1 (Q := fun v => v = cmpN (rTm r) (med (tls par tim 11 p))) (by rw [ig_cu, hq, U_nI htm, U_nI hmd]; exact ok_some rfl) (fun v15 hv => ?_)
  subst hv
  by_cases q7 : rTm r ≤ med (tls par tim 11 p)
  · refine ok_f (fun q => absurd ((cmpN_gt _ _).mp q) (Nat.not_lt_of_le q7)) (ok_some ?_)
    exact ⟨7, p, rfl, by decide, G 7 (iPr_f q4 (iPr_f c5 (iPr_f c6 (iPr_t q7 rfl)))), CM, fun h => absurd h (by decide)⟩
  refine ok_t ((cmpN_gt _ _).mpr (Nat.lt_of_not_le q7)) ?_
  refine ok_bn (e' := nI (rTL r).length) iN_l ?_
  refine ok_bn (e' := nI (B + 36)) (nI_add B 36) ?_
  have hti := l_ids hr (rTL r) t i o hTB hRf
  refine ok_bd7 (v_M_isRoot fu (by omega) z st u13 (t0 := t) (m := (rTL r).length) (pl := B + 36) (by omega) (by omega) (by omega) hst (H := rId r) (fun k _ j _ => dbl_f _ _ _) hti u28 u29 u30 u31 u43 u44) (fun v18 f19 f20 f21 f22 f23 f24 hq => ?_)
  replace hq : tf (rtQ (bl st (B + 36) 32) 10 (rTL r).length (rId r)) v18 := hq
  rw [e36] at hq
  rcases hq with ⟨hq, rfl⟩ | ⟨hq, rfl⟩
  case inr =>
    refine ok_t rfl (ok_some ?_)
    exact ⟨8, p, rfl, by decide, G 8 (iPr_f q4 (iPr_f c5 (iPr_f c6 (iPr_f q7 (iPr_t hq rfl))))), CM, fun h => absurd h (by decide)⟩
  have c8 : ¬ ¬ rtQ (bl (lf r) 36 32) 10 (rTL r).length (rId r) := fun q => q hq
  refine ok_f (by decide) ?_
  refine ok_bn (e' := nI (rTL r).length) iN_l ?_
  refine ok_gd hin ?_
  rw [gh]
  refine ok_bnd (ok_bn (e' := nI (hgt p + 1)) (nI_add (hgt p) 1) ?_)
  have hg57 := hhg p p1
  refine ok_bd4 (v_M_isSound fu (by omega) st u11 u12 u13 u14 u15 u16 u17 u18 u19 u20 u21 u22 u23 u24 u25 u26 u27 u41 hst (B := B) (E := r.length) (t0 := t) (i0 := i) (o0 := o) (h := hgt p + 1) (tm := rTm r) (TL := rTL r) (by omega) hE (by omega) (by omega) (by omega) (by omega) htm hRf hTB z u39 u40 hth) (fun v28 f29 f30 f31 hq => ?_)
  obtain ⟨hs1, hs2, hs3⟩ := hq
  replace hs1 : tf (sndS ((rTL r).map (txV (at0 B st))) (hgt p + 1) (rTm r)) v28 := hs1
  replace hs2 : ∀ j, j ≠ 9 → f29 j = z j := hs2
  replace hs3 : ftB f30 := hs3
  rw [l_txV hr hTB] at hs1
  have hz9 : ∀ j, j ≠ 5 → j ≠ 6 → j ≠ 7 → j ≠ 9 → j ≠ 16 → j ≠ 18 → f29 j = z0 j := fun j a1 a2 a3 a4 a5 a6 => by rw [hs2 j a4]; exact hz0 j a1 a2 a3 a4 a5 a6
  rcases hs1 with ⟨hs1, rfl⟩ | ⟨hs1, rfl⟩
  case inr =>
    refine ok_t rfl (ok_some ?_)
    exact ⟨9, p, rfl, by decide, G 9 (iPr_f q4 (iPr_f c5 (iPr_f c6 (iPr_f q7 (iPr_f c8 (iPr_t hs1 rfl)))))), ⟨hz9, CM.2.1, kT, hs3⟩, fun h => absurd h (by decide)⟩
  refine ok_f (by decide) ?_
  have hin4 : inb (nI nb) 202 = true := inb_nI (by omega) (by decide)
  have ec4 : (nI nb).toNatClampNeg = nb := nI_clamp (n := nb) (by omega)
  rw [ec4]
  refine ok_gd hin4 (ok_bnd (ok_gd hin4 (ok_bnd (ok_gd hin (ok_bnd (ok_bn (e' := nI (hgt p + 1)) (nI_add (hgt p) 1) (ok_gd hin4 (ok_bnd (ok_gd hin4 (ok_bnd (ok_gd hin4 (ok_bnd (ok_gd hin4 (ok_bnd (ok_bn (e' := nI (rTL r).length) iN_l (ok_gd hin4 (ok_bnd (ok_gd hin4 (ok_bnd ?_)))))))))))))))))))
  refine ok_bd2 (v_M_target fu (by omega) f29 g1 f9) (fun v43 f44 hq44 => ?_)
  replace hq44 : V f44 8 = Tg e m := hq44
  obtain ⟨X, hX⟩ : ∃ X, X = 2 ^ 256 := ⟨_, rfl⟩
  have hTl : Tg e m + 1 < X := by rw [hX]; exact l_Tg g1
  have hWk := (Wk_le hX g2 (by omega)).2
  have hwk' := hwk p p1
  have hX2 : 2 ^ 23 + 2 ^ 40 ≤ X := by rw [hX]; decide +kernel
  refine ok_bd7 (v_M_worth fu (by omega) f29 (upd u2 nb (nI p)) f44 one (b := nb) (P := Wa u9 p) (T := Tg e m) (Q := X / (Tg e m + 1)) (X := X) hX (by omega) hq44 hTl (Wk_q (Nat.le_of_lt hTl)) h1 u9 u33 u34 u35 u36 f11 u38 (Or.inr ⟨p, by omega, pk_us, rfl⟩) (by omega)) (fun f45 f46 f47 f48 f49 f50 f51 hq => ok_some ?_)
  obtain ⟨w1, w2⟩ := hq
  replace w1 : ∀ j, ¬ (8 * nb ≤ j ∧ j < 8 * nb + 8) → f45 j = u9 j := w1
  replace w2 : Wa f45 nb = X / (Tg e m + 1) + Wa u9 p := w2
  refine ⟨0, p, rfl, by decide, G 0 (iPr_f q4 (iPr_f c5 (iPr_f c6 (iPr_f q7 (iPr_f c8 (iPr_f (fun q => q hs1) rfl)))))), ⟨hz9, ⟨kb_u (fun _ _ => rfl) (Nat.le_refl _), kb_u (fun _ _ => rfl) (Nat.le_refl _), kb_u (fun _ _ => rfl) (Nat.le_refl _), kb_u (fun _ _ => rfl) (Nat.le_refl _), kb_u (fun _ _ => rfl) (Nat.le_refl _), kb_u (fun _ _ => rfl) (Nat.le_refl _), kb_u (fun _ _ => rfl) (Nat.le_refl _), k8, fun j hj => w1 j (by omega), kb_u (fun _ _ => rfl) (Nat.le_refl _)⟩, kT, hs3⟩, fun _ => ⟨⟨?_, ?_, ?_⟩, ⟨pk_us, pk_us, pk_us, pk_us, pk_us, pk_us, pk_us, pk_us⟩, hnw, ?_, hRf⟩⟩
  · rw [hs2 5 (by decide)]; exact h5
  · rw [hs2 6 (by decide)]; exact h6
  · rw [hs2 7 (by decide)]; exact h7
  · rw [w2, wkX_e g1]
    unfold Wk
    rw [← hX]
