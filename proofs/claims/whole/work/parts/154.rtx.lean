-- the end of a transaction in the reference
def P308 (st : Nat → Int32) (E a t k b : Nat) (z : Nat → Int32) (u1 u2 u3 u4 u5 u6 u7 u8 u9 u10 u11 u12 u13 : Nat → Int32) (u14 : Nat → Int64) (u15 u16 u17 u18 u19 u20 u21 u22 : Nat → Int32) (x : T23) : Prop := match x with
  | (z', v1, v2, v3, v4, v5, v6, v7, v8, v9, v10, v11, v12, v13, v14, v15, v16, v17, _, _, _, _, v22) =>
    fz z z' ∧ (v1 = u1 ∧ v4 = u4 ∧ v5 = u5 ∧ v6 = u6 ∧ v9 = u9 ∧ v10 = u10 ∧ v11 = u11 ∧ v12 = u12 ∧ v13 = u13 ∧ v14 = u14 ∧ v15 = u15 ∧ v16 = u16 ∧ v17 = u17 ∧ v22 = u22) ∧ (kb u2 v2 t ∧ kb u3 v3 (8 * t) ∧ kb u7 v7 t ∧ kb u8 v8 t) ∧ (((z 18 = 1 ∨ E < b + 4) ∧ z' 18 = 1) ∨ (z 18 = 0 ∧ b + 4 ≤ E ∧ z' 18 = 0 ∧ z' 16 = nI (b + 4) ∧ z' 5 = nI (t + 1) ∧ z' 6 = z 6 ∧ z' 7 = z 7 ∧ v2 t = nI (b + 4 - a) ∧ (∀ j, j < 8 → v3 (8 * t + j) = idW st a (b + 4 - a) j) ∧ v7 t = nI k ∧ v8 t = nI (leP st b 4)))
set_option maxHeartbeats 400000 in
theorem leP_32 (p : Nat → Int32) (o : Nat) : ∀ k, k ≤ 4 → leP p o k < 2 ^ 32 := fun k hk => Nat.lt_of_lt_of_le (leP_lt p o k) (Nat.pow_le_pow_right (by decide) (by omega))
set_option maxHeartbeats 400000 in
theorem l_tr308 (fu : Nat) (hfu : 1600 ≤ fu) (st : Nat → Int32) (hst : ∀ j, fits .byte (.int (st j)) = true) {E a t o k b : Nat} (z : Nat → Int32) (hz : zA z E b) (hE : E ≤ 20000) (ht : t ≤ 2000) (hab : a ≤ b) (h18 : z 18 = 0 ∨ z 18 = 1) (h5 : z 5 = nI t) (h7 : z 7 = nI (o + k)) (u1 u2 u3 u4 u5 u6 u7 u8 u9 u10 u11 u12 u13 : Nat → Int32) (u14 : Nat → Int64) (u15 u16 u17 u18 u19 u20 u21 u22 : Nat → Int32) (hu1 : u1 t = nI a) (hu6 : u6 t = nI o) : ok (xb_M_transaction_308 fu st (nI t) z u1 u2 u3 u4 u5 u6 u7 u8 u9 u10 u11 u12 u13 u14 u15 u16 u17 u18 u19 u20 u21 u22) (P308 st E a t k b z u1 u2 u3 u4 u5 u6 u7 u8 u9 u10 u11 u12 u13 u14 u15 u16 u17 u18 u19 u20 u21 u22) := by
  unfold xb_M_transaction_308
  have hin : inb (nI t) 2200 = true := inb_nI (by omega) (by decide)
  have hz0 := hz
  obtain ⟨z1, z2, z3, z4⟩ := hz0
  have ec : (nI t).toNatClampNeg = t := nI_clamp (n := t) (by omega)
  rw [h7, ec, hu6]
  refine ok_gd hin (ok_bnd (ok_bn (show nI (o + k) - nI o = nI k from by rw [pk_sub (by omega)]; congr 1; omega) (ok_gd hin (ok_bnd ?_))))
  rw [show (4 : Int32) = nI 4 from rfl]
  refine ok_bd2 (v_M_get fu (by omega) st z (n := 4) (by decide) hz) (fun v4 f5 h => ?_)
  obtain ⟨hzk, h⟩ := h
  replace hzk : zk z f5 := hzk
  rcases h with ⟨g, e1, e2, e3⟩ | ⟨g, e1, e2, e3⟩
  · replace e1 : v4 = lN (leP st b 4) := e1
    replace e2 : f5 16 = nI (b + 4) := e2
    replace e3 : f5 18 = z 18 := e3
    subst e1
    rw [iN_l, e2, hu1]
    refine ok_bnd (ok_gd hin (ok_bnd (ok_gd hin (ok_bnd (ok_bn (show nI (b + 4) - nI a = nI (b + 4 - a) from pk_sub (by omega)) (ok_gd hin (ok_bnd ?_)))))))
    rcases h18 with q | q
    · refine ok_t (e3.trans q) (ok_gd hin (ok_bnd (ok_gd hin (ok_bnd ?_))))
      rw [pk_us]
      refine ok_bd4 (v_M_twice fu hfu f5 103000 st (by decide) (a := a) (N := b + 4 - a) (by omega) (by omega) u18 u19 u20 u21 (fun j _ => hst _)) (fun f13 f14 f15 f16 hh => ?_)
      replace hh : ∀ j, f15 j = if j < 32 then dbl (fun i => st (a + i)) (b + 4 - a) j else u20 j := hh
      refine l_tr385 fu st _ ht f5 (by rw [hzk 5 (by decide) (by decide)]; exact h5) _ _ u3 _ _ _ _ _ _ _ _ _ _ _ _ _ _ _ _ f15 _ _ (fun v3 k3 h3 => ?_) 8 0 fu u3 (by omega) (by omega) (kb_r _ _) (fun j hj => absurd hj (Nat.not_lt_zero _))
      refine ⟨fz_t (fz_k hzk) (fz_u (Or.inl rfl)), ⟨rfl, rfl, rfl, rfl, rfl, rfl, rfl, rfl, rfl, rfl, rfl, rfl, rfl, rfl⟩, ⟨upd_kb _ _ _, k3, upd_kb _ _ _, upd_kb _ _ _⟩, Or.inr ⟨q, g, ?_, ?_, pk_us, ?_, ?_, pk_us, fun j hj => ?_, pk_us, pk_us⟩⟩
      · rw [pk_un (by decide), e3, q]
      · rw [pk_un (by decide), e2]
      · rw [pk_un (by decide)]; exact hzk 6 (by decide) (by decide)
      · rw [pk_un (by decide)]; exact hzk 7 (by decide) (by decide)
      · rw [h3 j hj]
        unfold idW
        congr 1
        exact leP_c (fun i hi => by rw [hh, if_pos (by omega)])
    · refine ok_f (by rw [e3, q]; exact one_ne) (ok_some ⟨fz_k hzk, ⟨rfl, rfl, rfl, rfl, rfl, rfl, rfl, rfl, rfl, rfl, rfl, rfl, rfl, rfl⟩, ⟨upd_kb _ _ _, kb_r _ _, upd_kb _ _ _, upd_kb _ _ _⟩, Or.inl ⟨Or.inl q, e3.trans q⟩⟩)
  · replace e1 : v4 = 0 := e1
    replace e2 : f5 16 = nI E := e2
    replace e3 : f5 18 = 1 := e3
    refine ok_bnd (ok_gd hin (ok_bnd (ok_gd hin (ok_bnd (ok_bnd (ok_gd hin (ok_bnd ?_)))))))
    exact ok_f (by rw [e3]; exact one_ne) (ok_some ⟨fz_k hzk, ⟨rfl, rfl, rfl, rfl, rfl, rfl, rfl, rfl, rfl, rfl, rfl, rfl, rfl, rfl⟩, ⟨upd_kb _ _ _, kb_r _ _, upd_kb _ _ _, upd_kb _ _ _⟩, Or.inl ⟨Or.inr g, e3⟩⟩)
/-- behind the inputs' end -/
def P206 (st : Nat → Int32) (W : Option (List In3 × Nat)) (E a t k0 o : Nat) (z : Nat → Int32) (u1 u2 u3 u4 u5 u6 u7 u8 u9 u10 u11 u12 u13 : Nat → Int32) (u14 : Nat → Int64) (u15 u16 u17 u18 u19 u20 u21 u22 : Nat → Int32) (x : T23) : Prop := match x with
  | (z', v1, v2, v3, v4, v5, v6, v7, v8, v9, v10, v11, v12, v13, v14, v15, v16, v17, _, _, _, _, v22) =>
    fz z z' ∧ (v1 = u1 ∧ v4 = u4 ∧ v5 = u5 ∧ v6 = u6 ∧ v9 = u9 ∧ v10 = u10 ∧ v11 = u11 ∧ v12 = u12 ∧ v13 = u13 ∧ v22 = u22) ∧ (kb u2 v2 t ∧ kb u3 v3 (8 * t) ∧ kb u7 v7 t ∧ kb u8 v8 t) ∧ (kbL u14 v14 o ∧ kb u15 v15 o ∧ kb u16 v16 o ∧ kb u17 v17 o) ∧ (((∀ O e, W = some (O, e) → ¬ e + 4 ≤ E) ∧ z' 18 = 1) ∨ ∃ O e, W = some (O, e) ∧ e + 4 ≤ E ∧ z' 18 = 0 ∧ z' 16 = nI (e + 4) ∧ z' 5 = nI (t + 1) ∧ z' 6 = z 6 ∧ z' 7 = nI (o + O.length) ∧ v2 t = nI (e + 4 - a) ∧ (∀ j, j < 8 → v3 (8 * t + j) = idW st a (e + 4 - a) j) ∧ v7 t = nI (k0 + O.length) ∧ v8 t = nI (leP st e 4) ∧ hout st v14 v15 v16 v17 t o O)
set_option maxHeartbeats 400000 in
theorem lgL (x y : Nat) (hx : x < 2 ^ 62) (hy : y < 2 ^ 62) : 0 ≤ lg_cmp (lN x) (lN y) ↔ y ≤ x := lg_n x y hx hy
set_option maxHeartbeats 400000 in
theorem updL_kb (u : Nat → Int64) (k : Nat) (x : Int64) : kbL u (vp_updL u k x) k := fun j hj => pk_uLn (by omega)
set_option maxHeartbeats 400000 in
/-- a wrong place: the outputs aren't read -/
theorem l_tr206w (fu : Nat) (hfu : 1600 ≤ fu) (st : Nat → Int32) (hst : ∀ j, fits .byte (.int (st j)) = true) (W : Option (List In3 × Nat)) {E a t o k0 b : Nat} (z : Nat → Int32) (hz : zA z E b) (hE : E ≤ 20000) (ht : t ≤ 2000) (hab : a ≤ b) (h18 : z 18 = 1) (hW : ∀ O e, W = some (O, e) → ¬ e + 4 ≤ E) (h5 : z 5 = nI t) (h7 : z 7 = nI o) (hk0 : k0 ≤ o) (u1 u2 u3 u4 u5 u6 u7 u8 u9 u10 u11 u12 u13 : Nat → Int32) (u14 : Nat → Int64) (u15 u16 u17 u18 u19 u20 u21 u22 : Nat → Int32) (hu1 : u1 t = nI a) (hu6 : u6 t = nI (o - k0)) (n : Nat) (x2 x4 : Int64) : ok (x_M_transaction_206 fu st (n + 1) (nI t) x2 x4 z u1 u2 u3 u4 u5 u6 u7 u8 u9 u10 u11 u12 u13 u14 u15 u16 u17 u18 u19 u20 u21 u22) (P206 st W E a t k0 o z u1 u2 u3 u4 u5 u6 u7 u8 u9 u10 u11 u12 u13 u14 u15 u16 u17 u18 u19 u20 u21 u22) := by
  show ok (xb_M_transaction_206 fu st (x_M_transaction_206 fu st n) (nI t) x2 x4 z u1 u2 u3 u4 u5 u6 u7 u8 u9 u10 u11 u12 u13 u14 u15 u16 u17 u18 u19 u20 u21 u22) _
  unfold xb_M_transaction_206
  have go : ok (xb_M_transaction_308 fu st (nI t) z u1 u2 u3 u4 u5 u6 u7 u8 u9 u10 u11 u12 u13 u14 u15 u16 u17 u18 u19 u20 u21 u22) (P206 st W E a t k0 o z u1 u2 u3 u4 u5 u6 u7 u8 u9 u10 u11 u12 u13 u14 u15 u16 u17 u18 u19 u20 u21 u22) := by
    refine ok_mono (l_tr308 fu hfu st hst (o := o - k0) (k := k0) z hz hE ht hab (Or.inr h18) h5 (by rw [h7]; congr 1; omega) u1 u2 u3 u4 u5 u6 u7 u8 u9 u10 u11 u12 u13 u14 u15 u16 u17 u18 u19 u20 u21 u22 hu1 hu6) (fun x hx => ?_)
    obtain ⟨z', v1, v2, v3, v4, v5, v6, v7, v8, v9, v10, v11, v12, v13, v14, v15, v16, v17, v18, v19, v20, v21, v22⟩ := x
    obtain ⟨y1, ⟨y2, y3, y4, y5, y6, y7, y8, y9, y10, y11, y12, y13, y14, y15⟩, y16, y17⟩ := hx
    refine ⟨y1, ⟨y2, y3, y4, y5, y6, y7, y8, y9, y10, y15⟩, y16, ⟨by rw [y11]; exact fun _ _ => rfl, by rw [y12]; exact kb_r _ _, by rw [y13]; exact kb_r _ _, by rw [y14]; exact kb_r _ _⟩, Or.inl ⟨hW, ?_⟩⟩
    rcases y17 with ⟨-, y⟩ | ⟨y, -⟩
    · exact y
    · exact absurd (h18.symm.trans y) one_ne
  exact ok_ite (fun _ => go) (fun _ => ok_f (by rw [h18]; exact one_ne) go)
