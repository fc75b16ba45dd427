-- the reference's take: its transactions
abbrev T46 : Type := Int32 × (Nat → Int32) × (Nat → Int32) × (Nat → Int32) × (Nat → Int32) × (Nat → Int32) × (Nat → Int32) × (Nat → Int32) × (Nat → Int32) × (Nat → Int32) × (Nat → Int32) × (Nat → Int32) × (Nat → Int32) × (Nat → Int32) × (Nat → Int32) × (Nat → Int32) × (Nat → Int32) × (Nat → Int32) × (Nat → Int32) × (Nat → Int32) × (Nat → Int32) × (Nat → Int32) × (Nat → Int32) × (Nat → Int32) × (Nat → Int32) × (Nat → Int64) × (Nat → Int32) × (Nat → Int32) × (Nat → Int32) × (Nat → Int32) × (Nat → Int32) × (Nat → Int32) × (Nat → Int32) × (Nat → Int32) × (Nat → Int32) × (Nat → Int32) × (Nat → Int32) × (Nat → Int32) × (Nat → Int32) × (Nat → Int32) × (Nat → Int32) × (Nat → Int32) × (Nat → Int32) × (Nat → Int32) × (Nat → Int32) × (Nat → Int32)
set_option maxHeartbeats 400000 in
theorem kb_tr {u v w : Nat → Int32} {k k' : Nat} (h : kb u v k) (h' : kb v w k') (hk : k ≤ k') : kb u w k := fun j hj => by rw [h' j (by omega), h j hj]
set_option maxHeartbeats 2000000 in
theorem kbL_tr {u v w : Nat → Int64} {k k' : Nat} (h : kbL u v k) (h' : kbL v w k') (hk : k ≤ k') : kbL u w k := fun j hj => by rw [h' j (by omega), h j hj]
set_option maxHeartbeats 2000000 in
theorem hin_k {st u9 u10 u11 u12 u13 v9 v10 v11 v12 v13 : Nat → Int32} {i i' : Nat} {I : List In3} (h : hin st u9 u10 u11 u12 u13 i I) (hi : i + I.length ≤ i') (h1 : kb u9 v9 i') (h2 : kb u10 v10 i') (h3 : kb u11 v11 i') (h4 : kb u12 v12 i') (h5 : kb u13 v13 i') : hin st v9 v10 v11 v12 v13 i I := fun j hj => by
  rw [h1 _ (by omega), h2 _ (by omega), h3 _ (by omega), h4 _ (by omega), h5 _ (by omega)]
  exact h j hj
set_option maxHeartbeats 2000000 in
theorem hout_k {st : Nat → Int32} {u14 v14 : Nat → Int64} {u15 u16 u17 v15 v16 v17 : Nat → Int32} {t o o' : Nat} {O : List In3} (h : hout st u14 u15 u16 u17 t o O) (ho : o + O.length ≤ o') (h1 : kbL u14 v14 o') (h2 : kb u15 v15 o') (h3 : kb u16 v16 o') (h4 : kb u17 v17 o') : hout st v14 v15 v16 v17 t o O := fun j hj => by
  rw [h1 _ (by omega), h2 _ (by omega), h3 _ (by omega), h4 _ (by omega)]
  exact h j hj
set_option maxHeartbeats 2000000 in
theorem okT_k {st : Nat → Int32} {a t i o : Nat} {I : List In3} {c : Nat} {O : List In3} {e t' i' o' : Nat} {u11 u12 u13 u14 u15 u16 u17 u18 u19 u20 u21 u22 u23 u25 u26 u27 u28 u29 u30 u31 u41 : Nat → Int32} {u24 : Nat → Int64} {v11 v12 v13 v14 v15 v16 v17 v18 v19 v20 v21 v22 v23 v25 v26 v27 v41 : Nat → Int32} {v24 : Nat → Int64} (h : okT st a t i o I c O e u11 u12 u13 u14 u15 u16 u17 u18 u19 u20 u21 u22 u23 u24 u25 u26 u27 u41) (k : keT t' i' o' u11 u12 u13 u14 u15 u16 u17 u18 u19 u20 u21 u22 u23 u24 u25 u26 u27 u28 u29 u30 u31 u41 v11 v12 v13 v14 v15 v16 v17 v18 v19 v20 v21 v22 v23 v24 v25 v26 v27 v41) (ht : t < t') (hi : i + I.length ≤ i') (ho : o + O.length ≤ o') : okT st a t i o I c O e v11 v12 v13 v14 v15 v16 v17 v18 v19 v20 v21 v22 v23 v24 v25 v26 v27 v41 := by
  obtain ⟨⟨a1, a2, a3, a4, a5, a6, a7, a8, a9⟩, b, d⟩ := h
  obtain ⟨⟨k1, k2, k3, k4, k5, k6, k7, k8, k9⟩, ⟨l1, l2, l3, l4, l5⟩, m1, m2, m3, m4⟩ := k
  refine ⟨⟨?_, ?_, fun j hj => ?_, ?_, ?_, ?_, ?_, ?_, ?_⟩, hin_k b hi l1 l2 l3 l4 l5, hout_k d ho m1 m2 m3 m4⟩
  · rw [k1 t ht]; exact a1
  · rw [k2 t ht]; exact a2
  · rw [k3 _ (by omega)]; exact a3 j hj
  · rw [k4 t ht]; exact a4
  · rw [k5 t ht]; exact a5
  · rw [k6 t ht]; exact a6
  · rw [k7 t ht]; exact a7
  · rw [k8 t ht]; exact a8
  · rw [k9 t ht]; exact a9
set_option maxHeartbeats 2000000 in
theorem rfH_k {st : Nat → Int32} {T0 I0 O0 : Nat} {u11 u12 u13 u14 u15 u16 u17 u18 u19 u20 u21 u22 u23 u25 u26 u27 u28 u29 u30 u31 u41 : Nat → Int32} {u24 : Nat → Int64} {v11 v12 v13 v14 v15 v16 v17 v18 v19 v20 v21 v22 v23 v25 v26 v27 v41 : Nat → Int32} {v24 : Nat → Int64} (k : keT T0 I0 O0 u11 u12 u13 u14 u15 u16 u17 u18 u19 u20 u21 u22 u23 u24 u25 u26 u27 u28 u29 u30 u31 u41 v11 v12 v13 v14 v15 v16 v17 v18 v19 v20 v21 v22 v23 v24 v25 v26 v27 v41) : ∀ (TL : List Tx5) (t i o : Nat), t + TL.length ≤ T0 → i + nIn TL ≤ I0 → o + nOut TL ≤ O0 → rfH st u11 u12 u13 u14 u15 u16 u17 u18 u19 u20 u21 u22 u23 u24 u25 u26 u27 u41 TL t i o → rfH st v11 v12 v13 v14 v15 v16 v17 v18 v19 v20 v21 v22 v23 v24 v25 v26 v27 v41 TL t i o
  | [], _, _, _, _, _, _, _ => trivial
  | T :: TL, t, i, o, h1, h2, h3, h => by
    replace h2 : i + (T.2.1.length + nIn TL) ≤ I0 := h2
    replace h3 : o + (T.2.2.2.1.length + nOut TL) ≤ O0 := h3
    rw [List.length_cons] at h1
    refine ⟨okT_k h.1 k (by omega) (by omega) (by omega), rfH_k k TL _ _ _ (by omega) (by omega) (by omega) h.2⟩
set_option maxHeartbeats 2000000 in
theorem keT_tr {t i o t' i' o' : Nat} {u11 u12 u13 u14 u15 u16 u17 u18 u19 u20 u21 u22 u23 u25 u26 u27 u28 u29 u30 u31 u41 : Nat → Int32} {u24 : Nat → Int64} {v11 v12 v13 v14 v15 v16 v17 v18 v19 v20 v21 v22 v23 v25 v26 v27 v41 : Nat → Int32} {v24 : Nat → Int64} {v28 v29 v30 v31 w11 w12 w13 w14 w15 w16 w17 w18 w19 w20 w21 w22 w23 w25 w26 w27 w41 : Nat → Int32} {w24 : Nat → Int64} (h : keT t i o u11 u12 u13 u14 u15 u16 u17 u18 u19 u20 u21 u22 u23 u24 u25 u26 u27 u28 u29 u30 u31 u41 v11 v12 v13 v14 v15 v16 v17 v18 v19 v20 v21 v22 v23 v24 v25 v26 v27 v41) (k : keT t' i' o' v11 v12 v13 v14 v15 v16 v17 v18 v19 v20 v21 v22 v23 v24 v25 v26 v27 v28 v29 v30 v31 v41 w11 w12 w13 w14 w15 w16 w17 w18 w19 w20 w21 w22 w23 w24 w25 w26 w27 w41) (ht : t ≤ t') (hi : i ≤ i') (ho : o ≤ o') : keT t i o u11 u12 u13 u14 u15 u16 u17 u18 u19 u20 u21 u22 u23 u24 u25 u26 u27 u28 u29 u30 u31 u41 w11 w12 w13 w14 w15 w16 w17 w18 w19 w20 w21 w22 w23 w24 w25 w26 w27 w41 := by
  obtain ⟨⟨a1, a2, a3, a4, a5, a6, a7, a8, a9⟩, ⟨b1, b2, b3, b4, b5⟩, d1, d2, d3, d4⟩ := h
  obtain ⟨⟨k1, k2, k3, k4, k5, k6, k7, k8, k9⟩, ⟨l1, l2, l3, l4, l5⟩, m1, m2, m3, m4⟩ := k
  exact ⟨⟨kb_tr a1 k1 ht, kb_tr a2 k2 ht, kb_tr a3 k3 (by omega), kb_tr a4 k4 ht, kb_tr a5 k5 ht, kb_tr a6 k6 ht, kb_tr a7 k7 ht, kb_tr a8 k8 ht, kb_tr a9 k9 ht⟩, ⟨kb_tr b1 l1 hi, kb_tr b2 l2 hi, kb_tr b3 l3 hi, kb_tr b4 l4 hi, kb_tr b5 l5 hi⟩, kbL_tr d1 m1 ho, kb_tr d2 m2 ho, kb_tr d3 m3 ho, kb_tr d4 m4 ho⟩
/-- what the transactions leave -/
def tkE (st : Nat → Int32) (W : Option (List Tx5 × Nat)) (E t i o : Nat) (z z' : Nat → Int32) (u11 u12 u13 u14 u15 u16 u17 u18 u19 u20 u21 u22 u23 : Nat → Int32) (u24 : Nat → Int64) (u25 u26 u27 u28 u29 u30 u31 u41 : Nat → Int32) (v11 v12 v13 v14 v15 v16 v17 v18 v19 v20 v21 v22 v23 : Nat → Int32) (v24 : Nat → Int64) (v25 v26 v27 v41 : Nat → Int32) : Prop := fz z z' ∧ keT t i o u11 u12 u13 u14 u15 u16 u17 u18 u19 u20 u21 u22 u23 u24 u25 u26 u27 u28 u29 u30 u31 u41 v11 v12 v13 v14 v15 v16 v17 v18 v19 v20 v21 v22 v23 v24 v25 v26 v27 v41 ∧ ((W = none ∧ z' 18 = 1) ∨ ∃ TL e, W = some (TL, e) ∧ z' 18 = 0 ∧ z' 16 = nI e ∧ z' 5 = nI (t + TL.length) ∧ z' 6 = nI (i + nIn TL) ∧ z' 7 = nI (o + nOut TL) ∧ rfH st v11 v12 v13 v14 v15 v16 v17 v18 v19 v20 v21 v22 v23 v24 v25 v26 v27 v41 TL t i o)
set_option maxHeartbeats 2000000 in
theorem l_tk64 (fu : Nat) (hfu : 3000 ≤ fu) (st : Nat → Int32) (hst : ∀ j, fits .byte (.int (st j)) = true) (one : Nat → Int32) {E v : Nat} (hE : E ≤ 20000) (hv : v < 2 ^ 33) (x1 x2 x3 x4 x7 : Int32) (u1 u2 u3 u4 u5 u6 u7 u8 u9 u10 : Nat → Int32) (u32 u33 u34 u35 u36 u37 u38 u39 u40 : Nat → Int32) (u42 u43 u44 : Nat → Int32) (P : T46 → Prop) : ∀ m n a t i o c k (z : Nat → Int32) (u11 u12 u13 u14 u15 u16 u17 u18 u19 u20 u21 u22 u23 : Nat → Int32) (u24 : Nat → Int64) (u25 u26 u27 u28 u29 u30 u31 u41 : Nat → Int32), c + k = v → E < a + 10 * m → m + 1 ≤ n → zA z E a → z 18 = 0 → z 5 = nI t → z 6 = nI i → z 7 = nI o → 10 * t ≤ a → 41 * i ≤ a → 9 * o ≤ a → (∀ z' (v11 v12 v13 v14 v15 v16 v17 v18 v19 v20 v21 v22 v23 : Nat → Int32) (v24 : Nat → Int64) (v25 v26 v27 v28 v29 v30 v31 v41 : Nat → Int32), tkE st (pTxs st E k a) E t i o z z' u11 u12 u13 u14 u15 u16 u17 u18 u19 u20 u21 u22 u23 u24 u25 u26 u27 u28 u29 u30 u31 u41 v11 v12 v13 v14 v15 v16 v17 v18 v19 v20 v21 v22 v23 v24 v25 v26 v27 v41 → ok (xb_M_take_92 fu st one x1 x2 x3 x4 (lN v) x7 z' u1 u2 u3 u4 u5 u6 u7 u8 u9 u10 v11 v12 v13 v14 v15 v16 v17 v18 v19 v20 v21 v22 v23 v24 v25 v26 v27 v28 v29 v30 v31 u32 u33 u34 u35 u36 u37 u38 u39 u40 v41 u42 u43 u44) P) → ok (x_M_take_64 fu st one n x1 x2 x3 x4 (lN v) x7 (lN c) z u1 u2 u3 u4 u5 u6 u7 u8 u9 u10 u11 u12 u13 u14 u15 u16 u17 u18 u19 u20 u21 u22 u23 u24 u25 u26 u27 u28 u29 u30 u31 u32 u33 u34 u35 u36 u37 u38 u39 u40 u41 u42 u43 u44) P := by
  intro m
  induction m with
  | zero => intro n a t i o c k z u11 u12 u13 u14 u15 u16 u17 u18 u19 u20 u21 u22 u23 u24 u25 u26 u27 u28 u29 u30 u31 u41 hc hm hn hz h18 h5 h6 h7 ht hi ho hP; exact absurd hz.2.2.1 (by omega)
  | succ m ih =>
    intro n a t i o c k z u11 u12 u13 u14 u15 u16 u17 u18 u19 u20 u21 u22 u23 u24 u25 u26 u27 u28 u29 u30 u31 u41 hc hm hn hz h18 h5 h6 h7 ht hi ho hP
    match n, hn with
    | n + 1, hn =>
      show ok (xb_M_take_64 fu st one (x_M_take_64 fu st one n) x1 x2 x3 x4 (lN v) x7 (lN c) z u1 u2 u3 u4 u5 u6 u7 u8 u9 u10 u11 u12 u13 u14 u15 u16 u17 u18 u19 u20 u21 u22 u23 u24 u25 u26 u27 u28 u29 u30 u31 u32 u33 u34 u35 u36 u37 u38 u39 u40 u41 u42 u43 u44) P
      unfold xb_M_take_64
      match k, hc, hP with
      | 0, hc, hP =>
        refine ok_t ((lgL c v (by omega) (by omega)).mpr (by omega)) ?_
        refine hP z u11 u12 u13 u14 u15 u16 u17 u18 u19 u20 u21 u22 u23 u24 u25 u26 u27 u28 u29 u30 u31 u41 ⟨fun _ _ _ _ _ _ => rfl, ⟨⟨fun _ _ => rfl, fun _ _ => rfl, fun _ _ => rfl, fun _ _ => rfl, fun _ _ => rfl, fun _ _ => rfl, fun _ _ => rfl, fun _ _ => rfl, fun _ _ => rfl⟩, ⟨fun _ _ => rfl, fun _ _ => rfl, fun _ _ => rfl, fun _ _ => rfl, fun _ _ => rfl⟩, fun _ _ => rfl, fun _ _ => rfl, fun _ _ => rfl, fun _ _ => rfl⟩, Or.inr ⟨[], a, rfl, h18, hz.2.1, h5, h6, h7, trivial⟩⟩
      | k + 1, hc, hP =>
        refine ok_f (fun q => absurd ((lgL c v (by omega) (by omega)).mp q) (by omega)) ?_
        refine ok_t h18 ?_
        refine ok_bd23 (v_M_transaction fu hfu st hst z hz hE h18 h5 h6 h7 ht hi ho u11 u12 u13 u14 u15 u16 u17 u18 u19 u20 u21 u22 u23 u24 u25 u26 u27 u28 u29 u30 u31 u41) (fun z' v11 v12 v13 v14 v15 v16 v17 v18 v19 v20 v21 v22 v23 v24 v25 v26 v27 v28 v29 v30 v31 v41 hq => ?_)
        obtain ⟨q1, q2, q3⟩ := hq
        replace q1 : fz z z' := q1
        replace q2 : keT t i o u11 u12 u13 u14 u15 u16 u17 u18 u19 u20 u21 u22 u23 u24 u25 u26 u27 u28 u29 u30 u31 u41 v11 v12 v13 v14 v15 v16 v17 v18 v19 v20 v21 v22 v23 v24 v25 v26 v27 v41 := q2
        replace q3 : (pTx st E a = none ∧ z' 18 = 1) ∨ ∃ I c O e, pTx st E a = some (I, c, O, e) ∧ z' 18 = 0 ∧ z' 16 = nI e ∧ z' 5 = nI (t + 1) ∧ z' 6 = nI (i + I.length) ∧ z' 7 = nI (o + O.length) ∧ okT st a t i o I c O e v11 v12 v13 v14 v15 v16 v17 v18 v19 v20 v21 v22 v23 v24 v25 v26 v27 v41 := q3
        refine ok_bn (e' := lN (c + 1)) (lN_a c 1) ?_
        rcases q3 with ⟨w1, w2⟩ | ⟨I, cc, O, e, w1, w2, w3, w4, w5, w6, w7⟩
        · have hN : pTxs st E (k + 1) a = none := by
            show (pTx st E a).bind _ = none
            rw [w1]; rfl
          have hF := hP z' v11 v12 v13 v14 v15 v16 v17 v18 v19 v20 v21 v22 v23 v24 v25 v26 v27 v28 v29 v30 v31 v41 ⟨q1, q2, Or.inl ⟨hN, w2⟩⟩
          match n, hn with
          | 0, hn => exact absurd hn (by omega)
          | n + 1, hn =>
            show ok (xb_M_take_64 fu st one (x_M_take_64 fu st one n) x1 x2 x3 x4 (lN v) x7 (lN (c + 1)) z' u1 u2 u3 u4 u5 u6 u7 u8 u9 u10 v11 v12 v13 v14 v15 v16 v17 v18 v19 v20 v21 v22 v23 v24 v25 v26 v27 v28 v29 v30 v31 u32 u33 u34 u35 u36 u37 u38 u39 u40 v41 u42 u43 u44) P
            unfold xb_M_take_64
            by_cases hk : k = 0
            · exact ok_t ((lgL (c + 1) v (by omega) (by omega)).mpr (by omega)) hF
            · refine ok_f (fun q => absurd ((lgL (c + 1) v (by omega) (by omega)).mp q) (by omega)) (ok_f ?_ hF)
              rw [w2]; decide
        · have hb := pTx_b w1
          have z17 : z' 17 = nI E := by rw [q1 17 (by decide) (by decide) (by decide) (by decide) (by decide)]; exact hz.1
          refine ih n e (t + 1) (i + I.length) (o + O.length) (c + 1) k z' v11 v12 v13 v14 v15 v16 v17 v18 v19 v20 v21 v22 v23 v24 v25 v26 v27 v28 v29 v30 v31 v41 (by omega) (by omega) (by omega) ⟨z17, w3, hb.2, hz.2.2.2⟩ w2 w4 w5 w6 (by omega) (by omega) (by omega) (fun z'' w11 w12 w13 w14 w15 w16 w17 w18 w19 w20 w21 w22 w23 w24 w25 w26 w27 w28 w29 w30 w31 w41 hq => ?_)
          obtain ⟨y1, y2, y3⟩ := hq
          refine hP z'' w11 w12 w13 w14 w15 w16 w17 w18 w19 w20 w21 w22 w23 w24 w25 w26 w27 w28 w29 w30 w31 w41 ⟨fun j a1 a2 a3 a4 a5 => by rw [y1 j a1 a2 a3 a4 a5, q1 j a1 a2 a3 a4 a5], keT_tr q2 y2 (by omega) (by omega) (by omega), ?_⟩
          have hS : pTxs st E (k + 1) a = (pTxs st E k e).bind fun L => some ((a, I, cc, O, e) :: L.1, L.2) := by
            show (pTx st E a).bind _ = _
            rw [w1]; rfl
          rw [hS]
          rcases y3 with ⟨s1, s2⟩ | ⟨TL, e', s1, s2, s3, s4, s5, s6, s7⟩
          · exact Or.inl ⟨by rw [s1]; rfl, s2⟩
          · refine Or.inr ⟨(a, I, cc, O, e) :: TL, e', by rw [s1]; rfl, s2, s3, ?_, ?_, ?_, okT_k w7 y2 (Nat.lt_succ_self t) (Nat.le_refl (i + I.length)) (Nat.le_refl (o + O.length)), s7⟩
            · rw [s4, List.length_cons]; congr 1; omega
            · rw [s5]; show _ = nI (i + (I.length + nIn TL)); congr 1; omega
            · rw [s6]; show _ = nI (o + (O.length + nOut TL)); congr 1; omega
