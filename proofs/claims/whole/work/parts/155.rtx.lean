-- the reference's inputs
def P161 (st : Nat → Int32) (W : Option (List In3 × Nat)) (a t k c o : Nat) (z : Nat → Int32) (u1 u2 u3 u4 u5 u6 u7 u8 u9 u10 u11 u12 u13 : Nat → Int32) (u14 : Nat → Int64) (u15 u16 u17 u18 u19 u20 u21 u22 : Nat → Int32) (x : T23) : Prop := match x with
  | (z', v1, v2, v3, v4, v5, v6, v7, v8, v9, v10, v11, v12, v13, v14, v15, v16, v17, _, _, _, _, v22) =>
    fz z z' ∧ (v1 = u1 ∧ v4 = u4 ∧ v9 = u9 ∧ v10 = u10 ∧ v11 = u11 ∧ v12 = u12 ∧ v13 = u13) ∧ (kb u2 v2 t ∧ kb u3 v3 (8 * t) ∧ kb u5 v5 t ∧ kb u6 v6 t ∧ kb u7 v7 t ∧ kb u8 v8 t ∧ kb u22 v22 t) ∧ (kbL u14 v14 o ∧ kb u15 v15 o ∧ kb u16 v16 o ∧ kb u17 v17 o) ∧ ((W = none ∧ z' 18 = 1) ∨ ∃ O e, W = some (O, e) ∧ z' 18 = 0 ∧ z' 16 = nI e ∧ z' 5 = nI (t + 1) ∧ z' 6 = z 6 ∧ z' 7 = nI (o + O.length) ∧ v2 t = nI (e - a) ∧ (∀ j, j < 8 → v3 (8 * t + j) = idW st a (e - a) j) ∧ v5 t = nI k ∧ v6 t = nI o ∧ v7 t = nI O.length ∧ v8 t = nI (leP st (e - 4) 4) ∧ v22 t = nI c ∧ hout st v14 v15 v16 v17 t o O)
set_option maxHeartbeats 600000 in
theorem l_tr161 (fu : Nat) (hfu : 3000 ≤ fu) (st : Nat → Int32) (hst : ∀ j, fits .byte (.int (st j)) = true) {E a t i k c o : Nat} (z : Nat → Int32) (hz : zA z E c) (hE : E ≤ 20000) (ht : t ≤ 2000) (hac : a ≤ c) (h18 : z 18 = 0 ∨ z 18 = 1) (h5 : z 5 = nI t) (h6 : z 6 = nI (i + k)) (h7 : z 7 = nI o) (ho : 9 * o ≤ c) (u1 u2 u3 u4 u5 u6 u7 u8 u9 u10 u11 u12 u13 : Nat → Int32) (u14 : Nat → Int64) (u15 u16 u17 u18 u19 u20 u21 u22 : Nat → Int32) (hu1 : u1 t = nI a) (hu4 : u4 t = nI i) : ok (xb_M_transaction_161 fu st (nI t) z u1 u2 u3 u4 u5 u6 u7 u8 u9 u10 u11 u12 u13 u14 u15 u16 u17 u18 u19 u20 u21 u22) (P161 st (if z 18 = 0 then pTail st E c else none) a t k c o z u1 u2 u3 u4 u5 u6 u7 u8 u9 u10 u11 u12 u13 u14 u15 u16 u17 u18 u19 u20 u21 u22) := by
  unfold xb_M_transaction_161
  have hin : inb (nI t) 2200 = true := inb_nI (by omega) (by decide)
  have hz0 := hz
  obtain ⟨z1, z2, z3, z4⟩ := hz0
  have ec : (nI t).toNatClampNeg = t := nI_clamp (n := t) (by omega)
  rw [h6, ec, hu4]
  refine ok_gd hin (ok_bnd (ok_bn (show nI (i + k) - nI i = nI k from by rw [pk_sub (by omega)]; congr 1; omega) (ok_gd hin (ok_bnd (ok_gd hin (ok_bnd (ok_gd hin (ok_bnd ?_))))))))
  rw [z2, h7]
  refine ok_bd2 (v_M_count0 fu (by omega) st z hz) (fun v6 f7 hq => ?_)
  obtain ⟨hzk, hq⟩ := hq
  replace hzk : zk z f7 := hzk
  have g17 : f7 17 = nI E := by rw [hzk 17 (by decide) (by decide)]; exact z1
  have g5 : f7 5 = nI t := by rw [hzk 5 (by decide) (by decide)]; exact h5
  have g7 : f7 7 = nI o := by rw [hzk 7 (by decide) (by decide)]; exact h7
  -- a wrong place
  have bad : ∀ b', c ≤ b' → zA f7 E b' → f7 18 = 1 → (if z 18 = 0 then pTail st E c else none) = none → ok (x_M_transaction_206 fu st fu (nI t) v6 (0 : Int64) f7 u1 u2 u3 u4 (upd u5 t (nI k)) (upd u6 t (nI o)) u7 u8 u9 u10 u11 u12 u13 u14 u15 u16 u17 u18 u19 u20 u21 (upd u22 t (nI c))) (P161 st (if z 18 = 0 then pTail st E c else none) a t k c o z u1 u2 u3 u4 u5 u6 u7 u8 u9 u10 u11 u12 u13 u14 u15 u16 u17 u18 u19 u20 u21 u22) := by
    intro b' hb' hg hg18 hW
    obtain ⟨fu', hfu'⟩ : ∃ m, fu = m + 1 := ⟨fu - 1, by omega⟩
    have := l_tr206w fu (by omega) st hst none (a := a) (t := t) (o := o) (k0 := 0) f7 hg hE ht (by omega) hg18 (fun O e h => absurd h (by simp)) g5 g7 (Nat.zero_le _) u1 u2 u3 u4 (upd u5 t (nI k)) (upd u6 t (nI o)) u7 u8 u9 u10 u11 u12 u13 u14 u15 u16 u17 u18 u19 u20 u21 (upd u22 t (nI c)) hu1 (by rw [pk_us, Nat.sub_zero]) fu' v6 0
    rw [← hfu'] at this
    refine ok_mono this (fun x hx => ?_)
    obtain ⟨z', v1, v2, v3, v4, v5, v6, v7, v8, v9, v10, v11, v12, v13, v14, v15, v16, v17, v18, v19, v20, v21, v22⟩ := x
    obtain ⟨y1, ⟨y2, y3, y4, y5, y6, y7, y8, y9, y10, y11⟩, ⟨y12, y13, y14, y15⟩, y16, y17⟩ := hx
    refine ⟨fz_t (fz_k hzk) y1, ⟨y2, y3, y6, y7, y8, y9, y10⟩, ⟨y12, y13, by rw [y4]; exact upd_kb _ _ _, by rw [y5]; exact upd_kb _ _ _, y14, y15, by rw [y11]; exact upd_kb _ _ _⟩, y16, Or.inl ⟨hW, ?_⟩⟩
    rcases y17 with ⟨-, y⟩ | ⟨O, e, h, -⟩
    · exact y
    · exact absurd h (by simp)
  rcases hq with ⟨v, b, hc, q1, q2, q3⟩ | ⟨hc, q1, ⟨b', hb', q2⟩, v, hv, q3⟩
  · replace q1 : v6 = lN v := q1
    replace q2 : f7 16 = nI b := q2
    replace q3 : f7 18 = z 18 := q3
    have hb := cnt_b hc
    have hz7 : zA f7 E b := ⟨g17, q2, hb.2.1, z4⟩
    rcases h18 with h18 | h18
    · rw [if_pos h18] at bad ⊢
      have et : pTail st E c = (pL (pOut st E) 0 v b).bind fun w => if w.2 + 4 ≤ E then some (w.1, w.2 + 4) else none := by
        unfold pTail
        rw [hc]
        rfl
      subst q1
      refine ok_mono (l_tr206 fu (by omega) st hst (a := a) (t := t) (m := v) hE ht (by omega) 2500 0 v fu b o 0 f7 u1 u2 u3 u4 (upd u5 t (nI k)) (upd u6 t (nI o)) u7 u8 u9 u10 u11 u12 u13 u14 u15 u16 u17 u18 u19 u20 u21 (upd u22 t (nI c)) (by omega) (by omega) (by omega) hz7 (by omega) (q3.trans h18) g5 g7 (by omega) (Nat.zero_le _) hu1 (by rw [pk_us, Nat.sub_zero])) (fun x hx => ?_)
      obtain ⟨z', v1, v2, v3, v4, v5, v6, v7, v8, v9, v10, v11, v12, v13, v14, v15, v16, v17, v18, v19, v20, v21, v22⟩ := x
      obtain ⟨y1, ⟨y2, y3, y4, y5, y6, y7, y8, y9, y10, y11⟩, ⟨y12, y13, y14, y15⟩, y16, y17⟩ := hx
      refine ⟨fz_t (fz_k hzk) y1, ⟨y2, y3, y6, y7, y8, y9, y10⟩, ⟨y12, y13, by rw [y4]; exact upd_kb _ _ _, by rw [y5]; exact upd_kb _ _ _, y14, y15, by rw [y11]; exact upd_kb _ _ _⟩, y16, ?_⟩
      rw [et]
      rcases y17 with ⟨y, y'⟩ | ⟨O, e, h, w0, w1, w2, w3, w4, w5, w6, w7, w8, w9, w10⟩
      · refine Or.inl ⟨?_, y'⟩
        cases hp : pL (pOut st E) 0 v b with
        | none => rfl
        | some w =>
          show (if w.2 + 4 ≤ E then some (w.1, w.2 + 4) else none) = none
          rw [if_neg (y w.1 w.2 hp)]
      · refine Or.inr ⟨O, e + 4, ?_, w1, w2, w3, ?_, w5, w6, w7, ?_, ?_, ?_, ?_, ?_, w10⟩
        · rw [h]
          exact if_pos w0
        · rw [w4]; exact hzk 6 (by decide) (by decide)
        · rw [y4]; exact pk_us
        · rw [y5]; exact pk_us
        · rw [w8, Nat.zero_add]
        · rw [w9, show e + 4 - 4 = e by omega]
        · rw [y11]; exact pk_us
    · exact bad b (by omega) hz7 (q3.trans h18) (if_neg (by rw [h18]; exact one_ne))
  · replace q1 : f7 18 = 1 := q1
    replace q2 : f7 16 = nI b' := q2
    refine bad b' hb'.1 ⟨g17, q2, hb'.2, z4⟩ q1 ?_
    by_cases g : z 18 = 0
    · rw [if_pos g]
      unfold pTail
      rw [hc]
      rfl
    · rw [if_neg g]
def P39 (st : Nat → Int32) (W : Option (List In3 × Nat × List In3 × Nat)) (a t k0 i o : Nat) (z : Nat → Int32) (u1 u2 u3 u4 u5 u6 u7 u8 u9 u10 u11 u12 u13 : Nat → Int32) (u14 : Nat → Int64) (u15 u16 u17 u18 u19 u20 u21 u22 : Nat → Int32) (x : T23) : Prop := match x with
  | (z', v1, v2, v3, v4, v5, v6, v7, v8, v9, v10, v11, v12, v13, v14, v15, v16, v17, _, _, _, _, v22) =>
    fz z z' ∧ (v1 = u1 ∧ v4 = u4) ∧ (kb u2 v2 t ∧ kb u3 v3 (8 * t) ∧ kb u5 v5 t ∧ kb u6 v6 t ∧ kb u7 v7 t ∧ kb u8 v8 t ∧ kb u22 v22 t) ∧ (kb u9 v9 i ∧ kb u10 v10 i ∧ kb u11 v11 i ∧ kb u12 v12 i ∧ kb u13 v13 i) ∧ (kbL u14 v14 o ∧ kb u15 v15 o ∧ kb u16 v16 o ∧ kb u17 v17 o) ∧ ((W = none ∧ z' 18 = 1) ∨ ∃ I c O e, W = some (I, c, O, e) ∧ z' 18 = 0 ∧ z' 16 = nI e ∧ z' 5 = nI (t + 1) ∧ z' 6 = nI (i + I.length) ∧ z' 7 = nI (o + O.length) ∧ v2 t = nI (e - a) ∧ (∀ j, j < 8 → v3 (8 * t + j) = idW st a (e - a) j) ∧ v5 t = nI (k0 + I.length) ∧ v6 t = nI o ∧ v7 t = nI O.length ∧ v8 t = nI (leP st (e - 4) 4) ∧ v22 t = nI c ∧ hin st v9 v10 v11 v12 v13 i I ∧ hout st v14 v15 v16 v17 t o O)
set_option maxHeartbeats 600000 in
/-- from 161 to the loop's end -/
theorem tr39e (fu : Nat) (hfu : 3000 ≤ fu) (st : Nat → Int32) (hst : ∀ j, fits .byte (.int (st j)) = true) (W : Option (List In3 × Nat × List In3 × Nat)) {E a t k0 i c o : Nat} (z : Nat → Int32) (hz : zA z E c) (hE : E ≤ 20000) (ht : t ≤ 2000) (hac : a ≤ c) (h18 : z 18 = 0 ∨ z 18 = 1) (hW1 : z 18 = 1 → W = none) (hW0 : z 18 = 0 → W = (pTail st E c).bind fun x => some ([], c, x.1, x.2)) (h5 : z 5 = nI t) (h6 : z 6 = nI i) (h7 : z 7 = nI o) (ho : 9 * o ≤ c) (hk : k0 ≤ i) (u1 u2 u3 u4 u5 u6 u7 u8 u9 u10 u11 u12 u13 : Nat → Int32) (u14 : Nat → Int64) (u15 u16 u17 u18 u19 u20 u21 u22 : Nat → Int32) (hu1 : u1 t = nI a) (hu4 : u4 t = nI (i - k0)) : ok (xb_M_transaction_161 fu st (nI t) z u1 u2 u3 u4 u5 u6 u7 u8 u9 u10 u11 u12 u13 u14 u15 u16 u17 u18 u19 u20 u21 u22) (P39 st W a t k0 i o z u1 u2 u3 u4 u5 u6 u7 u8 u9 u10 u11 u12 u13 u14 u15 u16 u17 u18 u19 u20 u21 u22) := by
  refine ok_mono (l_tr161 fu hfu st hst (i := i - k0) (k := k0) z hz hE ht hac h18 h5 (by rw [h6]; congr 1; omega) h7 ho u1 u2 u3 u4 u5 u6 u7 u8 u9 u10 u11 u12 u13 u14 u15 u16 u17 u18 u19 u20 u21 u22 hu1 hu4) (fun x hx => ?_)
  obtain ⟨z', v1, v2, v3, v4, v5, v6, v7, v8, v9, v10, v11, v12, v13, v14, v15, v16, v17, v18, v19, v20, v21, v22⟩ := x
  obtain ⟨y1, ⟨y2, y3, y4, y5, y6, y7, y8⟩, y9, y10, y11⟩ := hx
  refine ⟨y1, ⟨y2, y3⟩, y9, ⟨by rw [y4]; exact kb_r _ _, by rw [y5]; exact kb_r _ _, by rw [y6]; exact kb_r _ _, by rw [y7]; exact kb_r _ _, by rw [y8]; exact kb_r _ _⟩, y10, ?_⟩
  rcases h18 with q | q
  · rw [if_pos q] at y11
    rw [hW0 q]
    rcases y11 with ⟨y, y'⟩ | ⟨O, e, h, w1, w2, w3, w4, w5, w6, w7, w8, w9, w10, w11, w12, w13⟩
    · exact Or.inl ⟨by rw [y]; rfl, y'⟩
    · refine Or.inr ⟨[], c, O, e, by rw [h]; rfl, w1, w2, w3, ?_, w5, w6, w7, w8, w9, w10, w11, w12, fun j hj => absurd hj (Nat.not_lt_zero _), w13⟩
      rw [w4, h6]
      rfl
  · rw [if_neg (by rw [q]; exact one_ne)] at y11
    rcases y11 with ⟨-, y'⟩ | ⟨O, e, h, -⟩
    · exact Or.inl ⟨hW1 q, y'⟩
    · exact absurd h (by simp)
set_option maxHeartbeats 600000 in
/-- a wrong place: no more inputs -/
theorem tr39w (fu : Nat) (hfu : 3000 ≤ fu) (st : Nat → Int32) (hst : ∀ j, fits .byte (.int (st j)) = true) {E a t k0 i c o : Nat} (z : Nat → Int32) (hz : zA z E c) (hE : E ≤ 20000) (ht : t ≤ 2000) (hac : a ≤ c) (h18 : z 18 = 1) (h5 : z 5 = nI t) (h6 : z 6 = nI i) (h7 : z 7 = nI o) (ho : 9 * o ≤ c) (hk : k0 ≤ i) (u1 u2 u3 u4 u5 u6 u7 u8 u9 u10 u11 u12 u13 : Nat → Int32) (u14 : Nat → Int64) (u15 u16 u17 u18 u19 u20 u21 u22 : Nat → Int32) (hu1 : u1 t = nI a) (hu4 : u4 t = nI (i - k0)) (n : Nat) (x2 x4 : Int64) : ok (x_M_transaction_39 fu st (n + 1) (nI t) x2 x4 z u1 u2 u3 u4 u5 u6 u7 u8 u9 u10 u11 u12 u13 u14 u15 u16 u17 u18 u19 u20 u21 u22) (P39 st none a t k0 i o z u1 u2 u3 u4 u5 u6 u7 u8 u9 u10 u11 u12 u13 u14 u15 u16 u17 u18 u19 u20 u21 u22) := by
  show ok (xb_M_transaction_39 fu st (x_M_transaction_39 fu st n) (nI t) x2 x4 z u1 u2 u3 u4 u5 u6 u7 u8 u9 u10 u11 u12 u13 u14 u15 u16 u17 u18 u19 u20 u21 u22) _
  unfold xb_M_transaction_39
  have go := tr39e fu hfu st hst none (k0 := k0) (i := i) z hz hE ht hac (Or.inr h18) (fun _ => rfl) (fun q => absurd (h18.symm.trans q) one_ne) h5 h6 h7 ho hk u1 u2 u3 u4 u5 u6 u7 u8 u9 u10 u11 u12 u13 u14 u15 u16 u17 u18 u19 u20 u21 u22 hu1 hu4
  exact ok_ite (fun _ => go) (fun _ => ok_f (by rw [h18]; exact one_ne) go)
