-- the end of a transaction in the reference
def P308 (st : Nat → Int32) (E a t k b : Nat) (z : Nat → Int32) (u1 u2 u3 u4 u5 u6 u7 u8 u9 u10 u11 u12 u13 : Nat → Int32) (u14 : Nat → Int64) (u15 u16 u17 u18 u19 u20 u21 u22 : Nat → Int32) (x : T23) : Prop := match x with
  | (z', v1, v2, v3, v4, v5, v6, v7, v8, v9, v10, v11, v12, v13, v14, v15, v16, v17, _, _, _, _, v22) =>
    fz z z' ∧ (v1 = u1 ∧ v4 = u4 ∧ v5 = u5 ∧ v6 = u6 ∧ v9 = u9 ∧ v10 = u10 ∧ v11 = u11 ∧ v12 = u12 ∧ v13 = u13 ∧ v14 = u14 ∧ v15 = u15 ∧ v16 = u16 ∧ v17 = u17 ∧ v22 = u22) ∧ (kb u2 v2 t ∧ kb u3 v3 (8 * t) ∧ kb u7 v7 t ∧ kb u8 v8 t) ∧ (((z 18 = 1 ∨ E < b + 4) ∧ z' 18 = 1) ∨ (z 18 = 0 ∧ b + 4 ≤ E ∧ z' 18 = 0 ∧ z' 16 = nI (b + 4) ∧ z' 5 = nI (t + 1) ∧ z' 6 = z 6 ∧ z' 7 = z 7 ∧ v2 t = nI (b + 4 - a) ∧ (∀ j, j < 8 → v3 (8 * t + j) = idW st a (b + 4 - a) j) ∧ v7 t = nI k ∧ v8 t = nI (leP st b 4)))
set_option maxHeartbeats 600000 in
theorem leP_32 (p : Nat → Int32) (o : Nat) : ∀ k, k ≤ 4 → leP p o k < 2 ^ 32 := fun k hk => Nat.lt_of_lt_of_le (leP_lt p o k) (Nat.pow_le_pow_right (by decide) (by omega))
set_option maxHeartbeats 600000 in
theorem l_tr308 (fu : Nat) (hfu : 1600 ≤ fu) (st : Nat → Int32) (hst : ∀ j, fits .byte (.int (st j)) = true) {E a t o k b : Nat} (z : Nat → Int32) (hz : zA z E b) (hE : E ≤ 20000) (ht : t ≤ 2000) (hab : a ≤ b) (h18 : z 18 = 0 ∨ z 18 = 1) (h5 : z 5 = nI t) (h7 : z 7 = nI (o + k)) (u1 u2 u3 u4 u5 u6 u7 u8 u9 u10 u11 u12 u13 : Nat → Int32) (u14 : Nat → Int64) (u15 u16 u17 u18 u19 u20 u21 u22 : Nat → Int32) (hu1 : u1 t = nI a) (hu6 : u6 t = nI o) : ok (xb_M_transaction_308 fu st (nI t) z u1 u2 u3 u4 u5 u6 u7 u8 u9 u10 u11 u12 u13 u14 u15 u16 u17 u18 u19 u20 u21 u22) (P308 st E a t k b z u1 u2 u3 u4 u5 u6 u7 u8 u9 u10 u11 u12 u13 u14 u15 u16 u17 u18 u19 u20 u21 u22) := by
  unfold xb_M_transaction_308
  have hin : inb (nI t) 2200 = true := inb_nI (by omega) (by decide)
  have hz0 := hz
  obtain ⟨z1, z2, z3, z4⟩ := hz0
  have ec : (nI t).toNatClampNeg = t := nI_clamp (n := t) (by omega)
  rw [h7, ec, hu6]
  refine ok_gd hin (ok_bnd (ok_bn (show nI (o + k) - nI o = nI k from by rw [pk_sub (by omega)]; congr 1; omega) (ok_gd hin (ok_bnd ?_))))
  rw [show (4 : Int32) = nI 4 from rfl]
  refine ok_bd2 (v_M_get fu (by omega) st z (n := 4) (by decide) hz) (fun v4 f5 h => ?_)
  obtain ⟨hzk, h⟩ := h
  replace hzk : zk z f5 := hzk
  rcases h with ⟨g, e1, e2, e3⟩ | ⟨g, e1, e2, e3⟩
  · replace e1 : v4 = lN (leP st b 4) := e1
    replace e2 : f5 16 = nI (b + 4) := e2
    replace e3 : f5 18 = z 18 := e3
    subst e1
    rw [iN_l, e2, hu1]
    refine ok_bnd (ok_gd hin (ok_bnd (ok_gd hin (ok_bnd (ok_bn (show nI (b + 4) - nI a = nI (b + 4 - a) from pk_sub (by omega)) (ok_gd hin (ok_bnd ?_)))))))
    rcases h18 with q | q
    · refine ok_t (e3.trans q) (ok_gd hin (ok_bnd (ok_gd hin (ok_bnd ?_))))
      rw [pk_us]
      refine ok_bd4 (v_M_twice fu hfu f5 103000 st (by decide) (a := a) (N := b + 4 - a) (by omega) (by omega) u18 u19 u20 u21 (fun j _ => hst _)) (fun f13 f14 f15 f16 hh => ?_)
      replace hh : ∀ j, f15 j = if j < 32 then dbl (fun i => st (a + i)) (b + 4 - a) j else u20 j := hh
      refine l_tr385 fu st _ ht f5 (by rw [hzk 5 (by decide) (by decide)]; exact h5) _ _ u3 _ _ _ _ _ _ _ _ _ _ _ _ _ _ _ _ f15 _ _ (fun v3 k3 h3 => ?_) 8 0 fu u3 (by omega) (by omega) (kb_r _ _) (fun j hj => absurd hj (Nat.not_lt_zero _))
      refine ⟨fz_t (fz_k hzk) (fz_u (Or.inl rfl)), ⟨rfl, rfl, rfl, rfl, rfl, rfl, rfl, rfl, rfl, rfl, rfl, rfl, rfl, rfl⟩, ⟨upd_kb _ _ _, k3, upd_kb _ _ _, upd_kb _ _ _⟩, Or.inr ⟨q, g, ?_, ?_, pk_us, ?_, ?_, pk_us, fun j hj => ?_, pk_us, pk_us⟩⟩
      · rw [pk_un (by decide), e3, q]
      · rw [pk_un (by decide), e2]
      · rw [pk_un (by decide)]; exact hzk 6 (by decide) (by decide)
      · rw [pk_un (by decide)]; exact hzk 7 (by decide) (by decide)
      · rw [h3 j hj]
        unfold idW
        congr 1
        exact leP_c (fun i hi => by rw [hh, if_pos (by omega)])
    · refine ok_f (by rw [e3, q]; exact one_ne) (ok_some ⟨fz_k hzk, ⟨rfl, rfl, rfl, rfl, rfl, rfl, rfl, rfl, rfl, rfl, rfl, rfl, rfl, rfl⟩, ⟨upd_kb _ _ _, kb_r _ _, upd_kb _ _ _, upd_kb _ _ _⟩, Or.inl ⟨Or.inl q, e3.trans q⟩⟩)
  · replace e1 : v4 = 0 := e1
    replace e2 : f5 16 = nI E := e2
    replace e3 : f5 18 = 1 := e3
    refine ok_bnd (ok_gd hin (ok_bnd (ok_gd hin (ok_bnd (ok_bnd (ok_gd hin (ok_bnd ?_)))))))
    exact ok_f (by rw [e3]; exact one_ne) (ok_some ⟨fz_k hzk, ⟨rfl, rfl, rfl, rfl, rfl, rfl, rfl, rfl, rfl, rfl, rfl, rfl, rfl, rfl⟩, ⟨upd_kb _ _ _, kb_r _ _, upd_kb _ _ _, upd_kb _ _ _⟩, Or.inl ⟨Or.inr g, e3⟩⟩)
/-- behind the inputs' end -/
def P206 (st : Nat → Int32) (W : Option (List In3 × Nat)) (E a t k0 o : Nat) (z : Nat → Int32) (u1 u2 u3 u4 u5 u6 u7 u8 u9 u10 u11 u12 u13 : Nat → Int32) (u14 : Nat → Int64) (u15 u16 u17 u18 u19 u20 u21 u22 : Nat → Int32) (x : T23) : Prop := match x with
  | (z', v1, v2, v3, v4, v5, v6, v7, v8, v9, v10, v11, v12, v13, v14, v15, v16, v17, _, _, _, _, v22) =>
    fz z z' ∧ (v1 = u1 ∧ v4 = u4 ∧ v5 = u5 ∧ v6 = u6 ∧ v9 = u9 ∧ v10 = u10 ∧ v11 = u11 ∧ v12 = u12 ∧ v13 = u13 ∧ v22 = u22) ∧ (kb u2 v2 t ∧ kb u3 v3 (8 * t) ∧ kb u7 v7 t ∧ kb u8 v8 t) ∧ (kbL u14 v14 o ∧ kb u15 v15 o ∧ kb u16 v16 o ∧ kb u17 v17 o) ∧ (((∀ O e, W = some (O, e) → ¬ e + 4 ≤ E) ∧ z' 18 = 1) ∨ ∃ O e, W = some (O, e) ∧ e + 4 ≤ E ∧ z' 18 = 0 ∧ z' 16 = nI (e + 4) ∧ z' 5 = nI (t + 1) ∧ z' 6 = z 6 ∧ z' 7 = nI (o + O.length) ∧ v2 t = nI (e + 4 - a) ∧ (∀ j, j < 8 → v3 (8 * t + j) = idW st a (e + 4 - a) j) ∧ v7 t = nI (k0 + O.length) ∧ v8 t = nI (leP st e 4) ∧ hout st v14 v15 v16 v17 t o O)
set_option maxHeartbeats 600000 in
theorem lgL (x y : Nat) (hx : x < 2 ^ 62) (hy : y < 2 ^ 62) : 0 ≤ lg_cmp (lN x) (lN y) ↔ y ≤ x := lg_n x y hx hy
set_option maxHeartbeats 600000 in
theorem updL_kb (u : Nat → Int64) (k : Nat) (x : Int64) : kbL u (vp_updL u k x) k := fun j hj => pk_uLn (by omega)
set_option maxHeartbeats 600000 in
/-- a wrong place: the outputs aren't read -/
theorem l_tr206w (fu : Nat) (hfu : 1600 ≤ fu) (st : Nat → Int32) (hst : ∀ j, fits .byte (.int (st j)) = true) (W : Option (List In3 × Nat)) {E a t o k0 b : Nat} (z : Nat → Int32) (hz : zA z E b) (hE : E ≤ 20000) (ht : t ≤ 2000) (hab : a ≤ b) (h18 : z 18 = 1) (hW : ∀ O e, W = some (O, e) → ¬ e + 4 ≤ E) (h5 : z 5 = nI t) (h7 : z 7 = nI o) (hk0 : k0 ≤ o) (u1 u2 u3 u4 u5 u6 u7 u8 u9 u10 u11 u12 u13 : Nat → Int32) (u14 : Nat → Int64) (u15 u16 u17 u18 u19 u20 u21 u22 : Nat → Int32) (hu1 : u1 t = nI a) (hu6 : u6 t = nI (o - k0)) (n : Nat) (x2 x4 : Int64) : ok (x_M_transaction_206 fu st (n + 1) (nI t) x2 x4 z u1 u2 u3 u4 u5 u6 u7 u8 u9 u10 u11 u12 u13 u14 u15 u16 u17 u18 u19 u20 u21 u22) (P206 st W E a t k0 o z u1 u2 u3 u4 u5 u6 u7 u8 u9 u10 u11 u12 u13 u14 u15 u16 u17 u18 u19 u20 u21 u22) := by
  show ok (xb_M_transaction_206 fu st (x_M_transaction_206 fu st n) (nI t) x2 x4 z u1 u2 u3 u4 u5 u6 u7 u8 u9 u10 u11 u12 u13 u14 u15 u16 u17 u18 u19 u20 u21 u22) _
  unfold xb_M_transaction_206
  have go : ok (xb_M_transaction_308 fu st (nI t) z u1 u2 u3 u4 u5 u6 u7 u8 u9 u10 u11 u12 u13 u14 u15 u16 u17 u18 u19 u20 u21 u22) (P206 st W E a t k0 o z u1 u2 u3 u4 u5 u6 u7 u8 u9 u10 u11 u12 u13 u14 u15 u16 u17 u18 u19 u20 u21 u22) := by
    refine ok_mono (l_tr308 fu hfu st hst (o := o - k0) (k := k0) z hz hE ht hab (Or.inr h18) h5 (by rw [h7]; congr 1; omega) u1 u2 u3 u4 u5 u6 u7 u8 u9 u10 u11 u12 u13 u14 u15 u16 u17 u18 u19 u20 u21 u22 hu1 hu6) (fun x hx => ?_)
    obtain ⟨z', v1, v2, v3, v4, v5, v6, v7, v8, v9, v10, v11, v12, v13, v14, v15, v16, v17, v18, v19, v20, v21, v22⟩ := x
    obtain ⟨y1, ⟨y2, y3, y4, y5, y6, y7, y8, y9, y10, y11, y12, y13, y14, y15⟩, y16, y17⟩ := hx
    refine ⟨y1, ⟨y2, y3, y4, y5, y6, y7, y8, y9, y10, y15⟩, y16, ⟨by rw [y11]; exact fun _ _ => rfl, by rw [y12]; exact kb_r _ _, by rw [y13]; exact kb_r _ _, by rw [y14]; exact kb_r _ _⟩, Or.inl ⟨hW, ?_⟩⟩
    rcases y17 with ⟨-, y⟩ | ⟨y, -⟩
    · exact y
    · exact absurd (h18.symm.trans y) one_ne
  exact ok_ite (fun _ => go) (fun _ => ok_f (by rw [h18]; exact one_ne) go)
set_option maxHeartbeats 600000 in
theorem pOut_n {p : Nat → Int32} {E a : Nat} (h : cnt p E (a + 8) = none) : pOut p E a = none := by
  unfold pOut
  rw [h]
  rfl
set_option maxHeartbeats 600000 in
theorem pL_n {f : Nat → Option (Nat × Nat)} {z r a : Nat} (h : f a = none) : pL f z (r + 1) a = none := by
  show (f a).bind _ = none
  rw [h]
  rfl
set_option maxHeartbeats 600000 in
theorem pL_s {f : Nat → Option (Nat × Nat)} {z r a s l : Nat} (h : f a = some (s, l)) : pL f z (r + 1) a = (pL f z r (s + l + z)).bind fun w => some ((a, s, l) :: w.1, w.2) := by
  show (f a).bind _ = _
  rw [h]
  rfl
set_option maxHeartbeats 600000 in
theorem tr206s (fu : Nat) (hfu : 1600 ≤ fu) (st : Nat → Int32) (hst : ∀ j, fits .byte (.int (st j)) = true) {E a t m : Nat} (hE : E ≤ 20000) (ht : t ≤ 2000) (hm : m < 2 ^ 33) (f : Nat) (ih : ∀ k r n b o k0 (z : Nat → Int32), 0 < f → ∀ (u1 u2 u3 u4 u5 u6 u7 u8 u9 u10 u11 u12 u13 : Nat → Int32) (u14 : Nat → Int64) (u15 u16 u17 u18 u19 u20 u21 u22 : Nat → Int32), k + r = m → E < b + 9 * (f - 1) + 9 → f - 1 + 1 < n → zA z E b → a ≤ b → z 18 = 0 → z 5 = nI t → z 7 = nI o → 9 * o ≤ b → k0 ≤ o → u1 t = nI a → u6 t = nI (o - k0) → ok (x_M_transaction_206 fu st n (nI t) (lN m) (lN k) z u1 u2 u3 u4 u5 u6 u7 u8 u9 u10 u11 u12 u13 u14 u15 u16 u17 u18 u19 u20 u21 u22) (P206 st (pL (pOut st E) 0 r b) E a t k0 o z u1 u2 u3 u4 u5 u6 u7 u8 u9 u10 u11 u12 u13 u14 u15 u16 u17 u18 u19 u20 u21 u22)) : ∀ k r n b o k0 (z : Nat → Int32) (u1 u2 u3 u4 u5 u6 u7 u8 u9 u10 u11 u12 u13 : Nat → Int32) (u14 : Nat → Int64) (u15 u16 u17 u18 u19 u20 u21 u22 : Nat → Int32), k + r = m → E < b + 9 * f + 9 → f + 1 < n → zA z E b → a ≤ b → z 18 = 0 → z 5 = nI t → z 7 = nI o → 9 * o ≤ b → k0 ≤ o → u1 t = nI a → u6 t = nI (o - k0) → ok (x_M_transaction_206 fu st n (nI t) (lN m) (lN k) z u1 u2 u3 u4 u5 u6 u7 u8 u9 u10 u11 u12 u13 u14 u15 u16 u17 u18 u19 u20 u21 u22) (P206 st (pL (pOut st E) 0 r b) E a t k0 o z u1 u2 u3 u4 u5 u6 u7 u8 u9 u10 u11 u12 u13 u14 u15 u16 u17 u18 u19 u20 u21 u22) := by
  intro k r n b o k0 z u1 u2 u3 u4 u5 u6 u7 u8 u9 u10 u11 u12 u13 u14 u15 u16 u17 u18 u19 u20 u21 u22 hk hf hn hz hab h18 h5 h7 ho hk0 hu1 hu6
  obtain ⟨n, rfl⟩ : ∃ m, n = m + 1 + 1 := ⟨n - 2, by omega⟩
  have hz0 := hz
  obtain ⟨z1, z2, z3, z4⟩ := hz0
  show ok (xb_M_transaction_206 fu st (x_M_transaction_206 fu st (n + 1)) (nI t) (lN m) (lN k) z u1 u2 u3 u4 u5 u6 u7 u8 u9 u10 u11 u12 u13 u14 u15 u16 u17 u18 u19 u20 u21 u22) _
  unfold xb_M_transaction_206
  cases r with
  | zero =>
    refine ok_t ((lgL k m (by omega) (by omega)).mpr (by omega)) ?_
    refine ok_mono (l_tr308 fu hfu st hst (o := o - k0) (k := k0) z hz hE ht hab (Or.inl h18) h5 (by rw [h7]; congr 1; omega) u1 u2 u3 u4 u5 u6 u7 u8 u9 u10 u11 u12 u13 u14 u15 u16 u17 u18 u19 u20 u21 u22 hu1 hu6) (fun x hx => ?_)
    obtain ⟨z', v1, v2, v3, v4, v5, v6, v7, v8, v9, v10, v11, v12, v13, v14, v15, v16, v17, v18, v19, v20, v21, v22⟩ := x
    obtain ⟨y1, ⟨y2, y3, y4, y5, y6, y7, y8, y9, y10, y11, y12, y13, y14, y15⟩, y16, y17⟩ := hx
    refine ⟨y1, ⟨y2, y3, y4, y5, y6, y7, y8, y9, y10, y15⟩, y16, ⟨by rw [y11]; exact fun _ _ => rfl, by rw [y12]; exact kb_r _ _, by rw [y13]; exact kb_r _ _, by rw [y14]; exact kb_r _ _⟩, ?_⟩
    rcases y17 with ⟨y, y'⟩ | ⟨-, q0, q1, q2, q3, q4, q5, q6, q7, q8, q9⟩
    · refine Or.inl ⟨fun O e h => ?_, y'⟩
      have e2 : b = e := congrArg Prod.snd (Option.some.inj h)
      rcases y with y | y
      · exact absurd (h18.symm.trans y) (by decide)
      · omega
    · refine Or.inr ⟨[], b, rfl, q0, q1, q2, q3, q4, ?_, q6, q7, q8, q9, fun j hj => absurd hj (Nat.not_lt_zero _)⟩
      rw [q5, h7]
      rfl
  | succ r =>
    refine ok_f (fun q => by have := (lgL k m (by omega) (by omega)).mp q; omega) (ok_t h18 ?_)
    have hin : inb (nI o) 11600 = true := inb_nI (by omega) (by decide)
    have ec : (nI o).toNatClampNeg = o := nI_clamp (n := o) (by omega)
    have eK : lN k + (1 : Int64) = lN (k + 1) := lN_a k 1
    -- all that is wrong
    have bad : ∀ (g : Nat → Int32) (w14 : Nat → Int64) (w15 w16 w17 : Nat → Int32) b', b ≤ b' → zA g E b' → zk z g → g 18 = 1 → pOut st E b = none → kbL u14 w14 o → kb u15 w15 o → kb u16 w16 o → kb u17 w17 o → ok (xb_M_transaction_299 fu st (x_M_transaction_206 fu st (n + 1)) (nI t) (lN m) (lN k) g u1 u2 u3 u4 u5 u6 u7 u8 u9 u10 u11 u12 u13 w14 w15 w16 w17 u18 u19 u20 u21 u22) (P206 st (pL (pOut st E) 0 (r + 1) b) E a t k0 o z u1 u2 u3 u4 u5 u6 u7 u8 u9 u10 u11 u12 u13 u14 u15 u16 u17 u18 u19 u20 u21 u22) := by
      intro g w14 w15 w16 w17 b' hb' hg hzk hg18 hno k14 k15 k16 k17
      unfold xb_M_transaction_299
      refine ok_bn eK ?_
      refine ok_mono (l_tr206w fu hfu st hst (pL (pOut st E) 0 (r + 1) b) (a := a) (o := o) (k0 := k0) g hg hE ht (by omega) hg18 (fun O e h => ?_) ?_ ?_ hk0 u1 u2 u3 u4 u5 u6 u7 u8 u9 u10 u11 u12 u13 w14 w15 w16 w17 u18 u19 u20 u21 u22 hu1 hu6 n (lN m) (lN (k + 1))) (fun x hx => ?_)
      · rw [pL_n hno] at h
        exact absurd h (by simp)
      · rw [hzk 5 (by decide) (by decide)]; exact h5
      · rw [hzk 7 (by decide) (by decide)]; exact h7
      · obtain ⟨z', v1, v2, v3, v4, v5, v6, v7, v8, v9, v10, v11, v12, v13, v14, v15, v16, v17, v18, v19, v20, v21, v22⟩ := x
        obtain ⟨y1, y2, y3, ⟨y4, y5, y6, y7⟩, y8⟩ := hx
        refine ⟨fz_t (fz_k hzk) y1, y2, y3, ⟨fun j hj => (y4 j hj).trans (k14 j hj), kb_t k15 y5, kb_t k16 y6, kb_t k17 y7⟩, ?_⟩
        rcases y8 with y8 | ⟨O, e, h, -⟩
        · exact Or.inl y8
        · rw [pL_n hno] at h
          exact absurd h (by simp)
    rw [h7, show (8 : Int32) = nI 8 from rfl]
    refine ok_bd2 (v_M_get fu (by omega) st z (n := 8) (by decide) hz) (fun w1 f2 hq => ?_)
    obtain ⟨hzk2, hq⟩ := hq
    replace hzk2 : zk z f2 := hzk2
    rw [ec]
    refine ok_gd hin (ok_bnd ?_)
    have f7 : f2 7 = nI o := by rw [hzk2 7 (by decide) (by decide)]; exact h7
    have f17 : f2 17 = nI E := by rw [hzk2 17 (by decide) (by decide)]; exact z1
    rcases hq with ⟨g, e1, e2, e3⟩ | ⟨g, e1, e2, e3⟩
    · replace e1 : w1 = lN (leP st b 8) := e1
      replace e2 : f2 16 = nI (b + 8) := e2
      replace e3 : f2 18 = z 18 := e3
      have hz2 : zA f2 E (b + 8) := ⟨f17, e2, g, z4⟩
      refine ok_bd2 (v_M_count0 fu (by omega) st f2 hz2) (fun w4 f5 hq => ?_)
      obtain ⟨hzk5, hq⟩ := hq
      replace hzk5 : zk f2 f5 := hzk5
      have g7 : f5 7 = nI o := by rw [hzk5 7 (by decide) (by decide)]; exact f7
      have g17 : f5 17 = nI E := by rw [hzk5 17 (by decide) (by decide)]; exact f17
      rw [g7, ec]
      refine ok_gd hin (ok_bnd (ok_bnd (ok_gd hin (ok_bnd (ok_gd hin (ok_bnd ?_))))))
      rcases hq with ⟨l, s, hc, q1, q2, q3⟩ | ⟨hc, q1, ⟨b', hb', q2⟩, v, hv, q3⟩
      · replace q1 : w4 = lN l := q1
        replace q2 : f5 16 = nI s := q2
        replace q3 : f5 18 = f2 18 := q3
        have hb := cnt_b hc
        subst q1
        have hz5 : zA f5 E s := ⟨g17, q2, by omega, z4⟩
        refine ok_bd1 (v_M_skip fu f5 (v := l) (by omega) hz5) (fun f10 hq => ?_)
        obtain ⟨hzk10, hq⟩ := hq
        have hzkA := zk_t hzk2 (zk_t hzk5 hzk10)
        rw [iN_l, q2]
        rcases hq with ⟨p1, p2, p3⟩ | ⟨p1, p2, p3⟩
        · have hpo : pOut st E b = some (s, l) := by
            unfold pOut
            rw [hc]
            exact if_pos p1
          have h10 : f10 18 = 0 := by rw [p3, q3, e3, h18]
          refine ok_t h10 ?_
          rw [show f10 7 = nI o from by rw [hzk10 7 (by decide) (by decide)]; exact g7]
          refine ok_bn (nI_1 o) (ok_bnd ?_)
          unfold xb_M_transaction_299
          refine ok_bn eK ?_
          have hfz : fz z (upd f10 7 (nI (o + 1))) := fz_t (fz_k hzkA) (fz_u (Or.inr (Or.inr (Or.inl rfl))))
          have zAn : zA (upd f10 7 (nI (o + 1))) E (s + l) := ⟨by rw [pk_un (by decide), hzk10 17 (by decide) (by decide)]; exact g17, by rw [pk_un (by decide)]; exact p2, p1, z4⟩
          refine ok_mono (ih (k + 1) r (n + 1) (s + l) (o + 1) (k0 + 1) (upd f10 7 (nI (o + 1))) (by omega) u1 u2 u3 u4 u5 u6 u7 u8 u9 u10 u11 u12 u13 (vp_updL u14 o w1) (upd u15 o (nI s)) (upd u16 o (nI l)) (upd u17 o (nI t)) u18 u19 u20 u21 u22 (by omega) (by omega) (by omega) zAn (by omega) (by rw [pk_un (by decide)]; exact h10) (by rw [pk_un (by decide), hzkA 5 (by decide) (by decide)]; exact h5) pk_us (by omega) (by omega) hu1 (by rw [hu6]; congr 1; omega)) (fun x hx => ?_)
          obtain ⟨z', v1, v2, v3, v4, v5, v6, v7, v8, v9, v10, v11, v12, v13, v14, v15, v16, v17, v18, v19, v20, v21, v22⟩ := x
          obtain ⟨y1, y2, y3, ⟨y4, y5, y6, y7⟩, y8⟩ := hx
          refine ⟨fz_t hfz y1, y2, y3, ⟨fun j hj => by rw [y4 j (by omega), pk_uLn (by omega)], fun j hj => by rw [y5 j (by omega), pk_un (by omega)], fun j hj => by rw [y6 j (by omega), pk_un (by omega)], fun j hj => by rw [y7 j (by omega), pk_un (by omega)]⟩, ?_⟩
          rw [pL_s hpo]
          rcases y8 with ⟨y8, y9⟩ | ⟨O, e, h, y9, y10, y11, y12, y13, y14, y15, y16, y17, y18, y19⟩
          · refine Or.inl ⟨fun O e h => ?_, y9⟩
            obtain ⟨⟨O', e'⟩, g1, g2⟩ := Option.bind_eq_some_iff.mp h
            have g2 : e' = e := congrArg Prod.snd (Option.some.inj g2)
            rw [← g2]
            exact y8 O' e' g1
          · refine Or.inr ⟨(b, s, l) :: O, e, ?_, y9, y10, y11, y12, ?_, ?_, y15, y16, ?_, y18, hout_c ⟨?_, ?_, ?_, ?_⟩ y19⟩
            · rw [Nat.add_zero, h]
              rfl
            · rw [y13, pk_un (by decide)]
              exact hzkA 6 (by decide) (by decide)
            · rw [y14, List.length_cons]
              congr 1
              omega
            · rw [y17, List.length_cons]
              congr 1
              omega
            · rw [y4 o (by omega), pk_uLs, e1]
            · rw [y5 o (by omega), pk_us]
            · rw [y6 o (by omega), pk_us]
            · rw [y7 o (by omega), pk_us]
        · refine ok_f (by rw [p3]; exact one_ne) (bad f10 _ _ _ _ s (by omega) ⟨by rw [hzk10 17 (by decide) (by decide)]; exact g17, p2, by omega, z4⟩ hzkA p3 ?_ (updL_kb _ _ _) (upd_kb _ _ _) (upd_kb _ _ _) (upd_kb _ _ _))
          unfold pOut
          rw [hc]
          exact if_neg (Nat.not_le_of_lt p1)
      · replace q1 : f5 18 = 1 := q1
        replace q2 : f5 16 = nI b' := q2
        replace q3 : w4 = lN v := q3
        subst q3
        have hz5 : zA f5 E b' := ⟨g17, q2, hb'.2, z4⟩
        refine ok_bd1 (v_M_skip fu f5 (v := v) (by omega) hz5) (fun f10 hq => ?_)
        obtain ⟨hzk10, hq⟩ := hq
        have hzkA := zk_t hzk2 (zk_t hzk5 hzk10)
        have h17 : f10 17 = nI E := by rw [hzk10 17 (by decide) (by decide)]; exact g17
        rcases hq with ⟨p1, p2, p3⟩ | ⟨p1, p2, p3⟩
        · exact ok_f (by rw [p3, q1]; exact one_ne) (bad f10 _ _ _ _ (b' + v) (by omega) ⟨h17, p2, p1, z4⟩ hzkA (by rw [p3, q1]) (pOut_n hc) (updL_kb _ _ _) (upd_kb _ _ _) (upd_kb _ _ _) (upd_kb _ _ _))
        · exact ok_f (by rw [p3]; exact one_ne) (bad f10 _ _ _ _ b' (by omega) ⟨h17, p2, hb'.2, z4⟩ hzkA p3 (pOut_n hc) (updL_kb _ _ _) (upd_kb _ _ _) (upd_kb _ _ _) (upd_kb _ _ _))
    · replace e2 : f2 16 = nI E := e2
      replace e3 : f2 18 = 1 := e3
      have hc0 : cnt st E (b + 8) = none := by
        unfold cnt
        rw [if_pos (by omega)]
      have hz2 : zA f2 E E := ⟨f17, e2, Nat.le_refl _, z4⟩
      refine ok_bd2 (v_M_count0 fu (by omega) st f2 hz2) (fun w4 f5 hq => ?_)
      obtain ⟨hzk5, hq⟩ := hq
      replace hzk5 : zk f2 f5 := hzk5
      have g7 : f5 7 = nI o := by rw [hzk5 7 (by decide) (by decide)]; exact f7
      have g17 : f5 17 = nI E := by rw [hzk5 17 (by decide) (by decide)]; exact f17
      rw [g7, ec]
      refine ok_gd hin (ok_bnd (ok_bnd (ok_gd hin (ok_bnd (ok_gd hin (ok_bnd ?_))))))
      have hw : f5 18 = 1 ∧ (∃ b', (E ≤ b' ∧ b' ≤ E) ∧ f5 16 = nI b') ∧ ∃ v, v < 2 ^ 33 ∧ w4 = lN v := by
        rcases hq with ⟨l, s, hc, q1, q2, q3⟩ | ⟨hc, q1, q2, q3⟩
        · have := cnt_b hc
          omega
        · exact ⟨q1, q2, q3⟩
      obtain ⟨q1, ⟨b', hb', q2⟩, v, hv, q3⟩ := hw
      subst q3
      have hz5 : zA f5 E b' := ⟨g17, q2, hb'.2, z4⟩
      refine ok_bd1 (v_M_skip fu f5 (v := v) (by omega) hz5) (fun f10 hq => ?_)
      obtain ⟨hzk10, hq⟩ := hq
      have hzkA := zk_t hzk2 (zk_t hzk5 hzk10)
      have h17 : f10 17 = nI E := by rw [hzk10 17 (by decide) (by decide)]; exact g17
      rcases hq with ⟨p1, p2, p3⟩ | ⟨p1, p2, p3⟩
      · exact ok_f (by rw [p3, q1]; exact one_ne) (bad f10 _ _ _ _ (b' + v) (by omega) ⟨h17, p2, p1, z4⟩ hzkA (by rw [p3, q1]) (pOut_n hc0) (updL_kb _ _ _) (upd_kb _ _ _) (upd_kb _ _ _) (upd_kb _ _ _))
      · exact ok_f (by rw [p3]; exact one_ne) (bad f10 _ _ _ _ b' (by omega) ⟨h17, p2, hb'.2, z4⟩ hzkA p3 (pOut_n hc0) (updL_kb _ _ _) (upd_kb _ _ _) (upd_kb _ _ _) (upd_kb _ _ _))
set_option maxHeartbeats 600000 in
theorem l_tr206 (fu : Nat) (hfu : 1600 ≤ fu) (st : Nat → Int32) (hst : ∀ j, fits .byte (.int (st j)) = true) {E a t m : Nat} (hE : E ≤ 20000) (ht : t ≤ 2000) (hm : m < 2 ^ 33) : ∀ f k r n b o k0 (z : Nat → Int32) (u1 u2 u3 u4 u5 u6 u7 u8 u9 u10 u11 u12 u13 : Nat → Int32) (u14 : Nat → Int64) (u15 u16 u17 u18 u19 u20 u21 u22 : Nat → Int32), k + r = m → E < b + 9 * f + 9 → f + 1 < n → zA z E b → a ≤ b → z 18 = 0 → z 5 = nI t → z 7 = nI o → 9 * o ≤ b → k0 ≤ o → u1 t = nI a → u6 t = nI (o - k0) → ok (x_M_transaction_206 fu st n (nI t) (lN m) (lN k) z u1 u2 u3 u4 u5 u6 u7 u8 u9 u10 u11 u12 u13 u14 u15 u16 u17 u18 u19 u20 u21 u22) (P206 st (pL (pOut st E) 0 r b) E a t k0 o z u1 u2 u3 u4 u5 u6 u7 u8 u9 u10 u11 u12 u13 u14 u15 u16 u17 u18 u19 u20 u21 u22) := by
  intro f
  induction f with
  | zero => exact tr206s fu hfu st hst hE ht hm 0 (fun _ _ _ _ _ _ _ q => absurd q (Nat.not_lt_zero _))
  | succ f ih => exact tr206s fu hfu st hst hE ht hm (f + 1) (fun k r n b o k0 z _ => ih k r n b o k0 z)
