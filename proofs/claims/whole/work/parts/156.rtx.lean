-- the reference's inputs, one after the other
set_option maxHeartbeats 600000 in
theorem g_sk (fu : Nat) (z : Nat → Int32) {E a v : Nat} (hv : v < 2 ^ 62) (hz : zA z E a) : ok (x_M_skip fu (lN v) z) (fun f => zk z f ∧ ∃ b, a ≤ b ∧ zA f E b ∧ ((a + v ≤ E ∧ b = a + v ∧ f 18 = z 18) ∨ (E < a + v ∧ f 18 = 1))) := by
  refine ok_mono (v_M_skip fu z hv hz) (fun f h => ⟨h.1, ?_⟩)
  have f17 : f 17 = nI E := by rw [h.1 17 (by decide) (by decide)]; exact hz.1
  rcases h.2 with ⟨p1, p2, p3⟩ | ⟨p1, p2, p3⟩
  · exact ⟨a + v, by omega, ⟨f17, p2, p1, hz.2.2.2⟩, Or.inl ⟨p1, rfl, p3⟩⟩
  · exact ⟨a, Nat.le_refl _, ⟨f17, p2, hz.2.2.1, hz.2.2.2⟩, Or.inr ⟨p1, p3⟩⟩
set_option maxHeartbeats 600000 in
theorem g_ge (fu : Nat) (hfu : 10 ≤ fu) (st z : Nat → Int32) {E a n : Nat} (hn : n ≤ 8) (hz : zA z E a) : ok (x_M_get fu st (nI n) z) (fun t => zk z t.2 ∧ ∃ b, a ≤ b ∧ zA t.2 E b ∧ ((a + n ≤ E ∧ b = a + n ∧ t.1 = lN (leP st a n) ∧ t.2 18 = z 18) ∨ (E < a + n ∧ t.2 18 = 1))) := by
  refine ok_mono (v_M_get fu hfu st z hn hz) (fun t h => ⟨h.1, ?_⟩)
  have f17 : t.2 17 = nI E := by rw [h.1 17 (by decide) (by decide)]; exact hz.1
  rcases h.2 with ⟨p1, p2, p3, p4⟩ | ⟨p1, p2, p3, p4⟩
  · exact ⟨a + n, by omega, ⟨f17, p3, p1, hz.2.2.2⟩, Or.inl ⟨p1, rfl, p2, p4⟩⟩
  · exact ⟨E, hz.2.2.1, ⟨f17, p3, Nat.le_refl _, hz.2.2.2⟩, Or.inr ⟨p1, p4⟩⟩
set_option maxHeartbeats 600000 in
theorem g_co (fu : Nat) (hfu : 10 ≤ fu) (st z : Nat → Int32) {E a : Nat} (hz : zA z E a) : ok (x_M_count0 fu st z) (fun t => zk z t.2 ∧ ∃ b v, a ≤ b ∧ zA t.2 E b ∧ v < 2 ^ 33 ∧ t.1 = lN v ∧ ((cnt st E a = some (v, b) ∧ t.2 18 = z 18) ∨ (cnt st E a = none ∧ t.2 18 = 1))) := by
  refine ok_mono (v_M_count0 fu hfu st z hz) (fun t h => ⟨h.1, ?_⟩)
  have f17 : t.2 17 = nI E := by rw [h.1 17 (by decide) (by decide)]; exact hz.1
  rcases h.2 with ⟨v, b, hc, q1, q2, q3⟩ | ⟨hc, q1, ⟨b, hb, q2⟩, v, hv, q3⟩
  · have hb := cnt_b hc
    exact ⟨b, v, by omega, ⟨f17, q2, hb.2.1, hz.2.2.2⟩, by omega, q1, Or.inl ⟨hc, q3⟩⟩
  · exact ⟨b, v, hb.1, ⟨f17, q2, hb.2, hz.2.2.2⟩, hv, q3, Or.inr ⟨hc, q1⟩⟩
set_option maxHeartbeats 600000 in
theorem tr39s (fu : Nat) (hfu : 3000 ≤ fu) (st : Nat → Int32) (hst : ∀ j, fits .byte (.int (st j)) = true) {E a t m o : Nat} (hE : E ≤ 20000) (ht : t ≤ 2000) (hm : m < 2 ^ 33) (f : Nat) (ih : ∀ k r n b i k0 (z : Nat → Int32), 0 < f → ∀ (u1 u2 u3 u4 u5 u6 u7 u8 u9 u10 u11 u12 u13 : Nat → Int32) (u14 : Nat → Int64) (u15 u16 u17 u18 u19 u20 u21 u22 : Nat → Int32), k + r = m → E < b + 41 * (f - 1) + 41 → f - 1 + 1 < n → zA z E b → a ≤ b → z 18 = 0 → z 5 = nI t → z 6 = nI i → z 7 = nI o → 41 * i ≤ b → 9 * o ≤ b → k0 ≤ i → u1 t = nI a → u4 t = nI (i - k0) → ok (x_M_transaction_39 fu st n (nI t) (lN m) (lN k) z u1 u2 u3 u4 u5 u6 u7 u8 u9 u10 u11 u12 u13 u14 u15 u16 u17 u18 u19 u20 u21 u22) (P39 st (pMid st E r b) a t k0 i o z u1 u2 u3 u4 u5 u6 u7 u8 u9 u10 u11 u12 u13 u14 u15 u16 u17 u18 u19 u20 u21 u22)) : ∀ k r n b i k0 (z : Nat → Int32) (u1 u2 u3 u4 u5 u6 u7 u8 u9 u10 u11 u12 u13 : Nat → Int32) (u14 : Nat → Int64) (u15 u16 u17 u18 u19 u20 u21 u22 : Nat → Int32), k + r = m → E < b + 41 * f + 41 → f + 1 < n → zA z E b → a ≤ b → z 18 = 0 → z 5 = nI t → z 6 = nI i → z 7 = nI o → 41 * i ≤ b → 9 * o ≤ b → k0 ≤ i → u1 t = nI a → u4 t = nI (i - k0) → ok (x_M_transaction_39 fu st n (nI t) (lN m) (lN k) z u1 u2 u3 u4 u5 u6 u7 u8 u9 u10 u11 u12 u13 u14 u15 u16 u17 u18 u19 u20 u21 u22) (P39 st (pMid st E r b) a t k0 i o z u1 u2 u3 u4 u5 u6 u7 u8 u9 u10 u11 u12 u13 u14 u15 u16 u17 u18 u19 u20 u21 u22) := by
  intro k r n b i k0 z u1 u2 u3 u4 u5 u6 u7 u8 u9 u10 u11 u12 u13 u14 u15 u16 u17 u18 u19 u20 u21 u22 hk hf hn hz hab h18 h5 h6 h7 hi ho hk0 hu1 hu4
  obtain ⟨n, rfl⟩ : ∃ m, n = m + 1 + 1 := ⟨n - 2, by omega⟩
  have hz0 := hz
  obtain ⟨z1, z2, z3, z4⟩ := hz0
  show ok (xb_M_transaction_39 fu st (x_M_transaction_39 fu st (n + 1)) (nI t) (lN m) (lN k) z u1 u2 u3 u4 u5 u6 u7 u8 u9 u10 u11 u12 u13 u14 u15 u16 u17 u18 u19 u20 u21 u22) _
  unfold xb_M_transaction_39
  cases r with
  | zero =>
    refine ok_t ((lgL k m (by omega) (by omega)).mpr (by omega)) ?_
    exact tr39e fu hfu st hst _ z hz hE ht hab (Or.inl h18) (fun q => absurd (h18.symm.trans q) (by decide)) (fun _ => rfl) h5 h6 h7 ho hk0 u1 u2 u3 u4 u5 u6 u7 u8 u9 u10 u11 u12 u13 u14 u15 u16 u17 u18 u19 u20 u21 u22 hu1 hu4
  | succ r =>
    refine ok_f (fun q => by have := (lgL k m (by omega) (by omega)).mp q; omega) (ok_t h18 ?_)
    have hin : inb (nI i) 2600 = true := inb_nI (by omega) (by decide)
    have ec : (nI i).toNatClampNeg = i := nI_clamp (n := i) (by omega)
    have eK : lN k + (1 : Int64) = lN (k + 1) := lN_a k 1
    rw [h6, z2, ec]
    refine ok_gd hin (ok_bnd ?_)
    rw [show (36 : Int64) = lN 36 from rfl]
    refine ok_bd1 (g_sk fu z (v := 36) (by decide) hz) (fun f2 hq => ?_)
    obtain ⟨k2, b2, l2, hz2, c2⟩ := hq
    refine ok_bd2 (g_co fu (by omega) st f2 hz2) (fun w3 f4 hq => ?_)
    obtain ⟨k4, b4, l, l4, hz4, hl, e3, c4⟩ := hq
    replace k4 : zk f2 f4 := k4
    replace hz4 : zA f4 E b4 := hz4
    replace e3 : w3 = lN l := e3
    subst e3
    have s6 : f4 6 = nI i := by rw [k4 6 (by decide) (by decide), k2 6 (by decide) (by decide)]; exact h6
    rw [s6, ec, iN_l, hz4.2.1]
    refine ok_gd hin (ok_bnd (ok_bnd (ok_gd hin (ok_bnd ?_))))
    refine ok_bd1 (g_sk fu f4 (v := l) (by omega) hz4) (fun f8 hq => ?_)
    obtain ⟨k8, b8, l8, hz8, c8⟩ := hq
    have s8 : f8 6 = nI i := by rw [k8 6 (by decide) (by decide)]; exact s6
    rw [show (4 : Int32) = nI 4 from rfl]
    refine ok_bd2 (g_ge fu (by omega) st f8 (n := 4) (by decide) hz8) (fun w9 f10 hq => ?_)
    obtain ⟨k10, b10, l10, hz10, c10⟩ := hq
    replace k10 : zk f8 f10 := k10
    replace hz10 : zA f10 E b10 := hz10
    have s10 : f10 6 = nI i := by rw [k10 6 (by decide) (by decide)]; exact s8
    have kA : zk z f10 := zk_t k2 (zk_t k4 (zk_t k8 k10))
    rw [s8, s10, ec, nar0]
    refine ok_bnd (ok_gd hin (ok_bnd (ok_gd hin (ok_bnd ?_))))
    -- what has come out
    have out : (f10 18 = 1 ∧ pIn st E b = none) ∨ (f10 18 = 0 ∧ pIn st E b = some (b4, l) ∧ b10 = b4 + l + 4 ∧ w9 = lN (leP st (b4 + l) 4)) := by
      rcases c2 with ⟨p1, p2, p3⟩ | ⟨p1, p3⟩
      · subst p2
        rcases c4 with ⟨q1, q2⟩ | ⟨q1, q2⟩
        · replace q2 : f4 18 = f2 18 := q2
          rcases c8 with ⟨r1, r2, r3⟩ | ⟨r1, r3⟩
          · subst r2
            rcases c10 with ⟨t1, t2, t3, t4⟩ | ⟨t1, t4⟩
            · replace t4 : f10 18 = f8 18 := t4
              refine Or.inr ⟨by rw [t4, r3, q2, p3, h18], ?_, t2, t3⟩
              unfold pIn
              rw [q1]
              exact if_pos t1
            · refine Or.inl ⟨t4, ?_⟩
              unfold pIn
              rw [q1]
              exact if_neg (Nat.not_le_of_lt t1)
          · have t4 : f10 18 = 1 := by
              rcases c10 with ⟨-, -, -, t4⟩ | ⟨-, t4⟩
              · exact (show f10 18 = f8 18 from t4).trans r3
              · exact t4
            refine Or.inl ⟨t4, ?_⟩
            unfold pIn
            rw [q1]
            exact if_neg (fun s => by have s' : b4 + l + 4 ≤ E := s; omega)
        · replace q2 : f4 18 = 1 := q2
          have r3 : f8 18 = 1 := by
            rcases c8 with ⟨-, -, r3⟩ | ⟨-, r3⟩
            · exact r3.trans q2
            · exact r3
          have t4 : f10 18 = 1 := by
            rcases c10 with ⟨-, -, -, t4⟩ | ⟨-, t4⟩
            · exact (show f10 18 = f8 18 from t4).trans r3
            · exact t4
          refine Or.inl ⟨t4, ?_⟩
          unfold pIn
          rw [q1]
          rfl
      · have q2 : f4 18 = 1 := by
          rcases c4 with ⟨-, q2⟩ | ⟨-, q2⟩
          · exact (show f4 18 = f2 18 from q2).trans p3
          · exact q2
        have r3 : f8 18 = 1 := by
          rcases c8 with ⟨-, -, r3⟩ | ⟨-, r3⟩
          · exact r3.trans q2
          · exact r3
        have t4 : f10 18 = 1 := by
          rcases c10 with ⟨-, -, -, t4⟩ | ⟨-, t4⟩
          · exact (show f10 18 = f8 18 from t4).trans r3
          · exact t4
        refine Or.inl ⟨t4, ?_⟩
        unfold pIn cnt
        rw [if_pos (by omega)]
        rfl
    have d5 : f10 5 = nI t := by rw [kA 5 (by decide) (by decide)]; exact h5
    have d7 : f10 7 = nI o := by rw [kA 7 (by decide) (by decide)]; exact h7
    rcases out with ⟨o1, o2⟩ | ⟨o1, o2, o3, o4⟩
    · refine ok_f (by rw [o1]; exact one_ne) ?_
      unfold xb_M_transaction_152
      refine ok_bn eK ?_
      refine ok_mono (tr39w fu hfu st hst (a := a) (k0 := k0) (i := i) (o := o) f10 hz10 hE ht (by omega) o1 d5 s10 d7 (by omega) hk0 u1 u2 u3 u4 u5 u6 u7 u8 (upd u9 i (nI b)) (upd u10 i (nI b4)) (upd u11 i (nI l)) (upd u12 i w9.toInt32) (upd u13 i 0) u14 u15 u16 u17 u18 u19 u20 u21 u22 hu1 hu4 n (lN m) (lN (k + 1))) (fun x hx => ?_)
      obtain ⟨z', v1, v2, v3, v4, v5, v6, v7, v8, v9, v10, v11, v12, v13, v14, v15, v16, v17, v18, v19, v20, v21, v22⟩ := x
      obtain ⟨y1, y2, y3, ⟨y4, y5, y6, y7, y8⟩, y9, y10⟩ := hx
      refine ⟨fz_t (fz_k kA) y1, y2, y3, ⟨kb_t (upd_kb _ _ _) y4, kb_t (upd_kb _ _ _) y5, kb_t (upd_kb _ _ _) y6, kb_t (upd_kb _ _ _) y7, kb_t (upd_kb _ _ _) y8⟩, y9, Or.inl ⟨?_, ?_⟩⟩
      · unfold pMid
        rw [pL_n o2]
        rfl
      · rcases y10 with ⟨-, y⟩ | ⟨I, c, O, e, h, -⟩
        · exact y
        · exact absurd h (by simp)
    · have hb := pIn_b o2
      refine ok_t o1 (ok_bn (nI_1 i) (ok_bnd ?_))
      unfold xb_M_transaction_152
      refine ok_bn eK ?_
      rw [o4, iN_l]
      have hfz : fz z (upd f10 6 (nI (i + 1))) := fz_t (fz_k kA) (fz_u (Or.inr (Or.inl rfl)))
      have zAn : zA (upd f10 6 (nI (i + 1))) E (b4 + l + 4) := ⟨by rw [pk_un (by decide)]; exact hz10.1, by rw [pk_un (by decide), hz10.2.1, o3], hb.2.2, z4⟩
      refine ok_mono (ih (k + 1) r (n + 1) (b4 + l + 4) (i + 1) (k0 + 1) (upd f10 6 (nI (i + 1))) (by omega) u1 u2 u3 u4 u5 u6 u7 u8 (upd u9 i (nI b)) (upd u10 i (nI b4)) (upd u11 i (nI l)) (upd u12 i (nI (leP st (b4 + l) 4))) (upd u13 i 0) u14 u15 u16 u17 u18 u19 u20 u21 u22 (by omega) (by omega) (by omega) zAn (by omega) (by rw [pk_un (by decide)]; exact o1) (by rw [pk_un (by decide)]; exact d5) pk_us (by rw [pk_un (by decide)]; exact d7) (by omega) (by omega) (by omega) hu1 (by rw [hu4]; congr 1; omega)) (fun x hx => ?_)
      obtain ⟨z', v1, v2, v3, v4, v5, v6, v7, v8, v9, v10, v11, v12, v13, v14, v15, v16, v17, v18, v19, v20, v21, v22⟩ := x
      obtain ⟨y1, y2, y3, ⟨y4, y5, y6, y7, y8⟩, y9, y10⟩ := hx
      refine ⟨fz_t hfz y1, y2, y3, ⟨fun j hj => by rw [y4 j (by omega), pk_un (by omega)], fun j hj => by rw [y5 j (by omega), pk_un (by omega)], fun j hj => by rw [y6 j (by omega), pk_un (by omega)], fun j hj => by rw [y7 j (by omega), pk_un (by omega)], fun j hj => by rw [y8 j (by omega), pk_un (by omega)]⟩, y9, ?_⟩
      have em : pMid st E (r + 1) b = (pMid st E r (b4 + l + 4)).bind fun w => some ((b, b4, l) :: w.1, w.2) := by
        unfold pMid
        rw [pL_s o2]
        cases hp : pL (pIn st E) 4 r (b4 + l + 4) with
        | none => rfl
        | some w =>
          show (pTail st E w.2).bind _ = ((pTail st E w.2).bind _).bind _
          cases hq : pTail st E w.2 with
          | none => rfl
          | some y => rfl
      rw [em]
      rcases y10 with ⟨y, y'⟩ | ⟨I, c, O, e, h, w1, w2, w3, w4, w5, w6, w7, w8, w9', w10, w11, w12, w13, w14⟩
      · exact Or.inl ⟨by rw [y]; rfl, y'⟩
      · refine Or.inr ⟨(b, b4, l) :: I, c, O, e, by rw [h]; rfl, w1, w2, w3, ?_, w5, w6, w7, ?_, w9', w10, w11, w12, hin_c ⟨?_, ?_, ?_, ?_, ?_⟩ w13, w14⟩
        · rw [w4, List.length_cons]
          congr 1
          omega
        · rw [w8, List.length_cons]
          congr 1
          omega
        · rw [y4 i (by omega), pk_us]
        · rw [y5 i (by omega), pk_us]
        · rw [y6 i (by omega), pk_us]
        · rw [y7 i (by omega), pk_us]
        · rw [y8 i (by omega), pk_us]
set_option maxHeartbeats 600000 in
theorem l_tr39 (fu : Nat) (hfu : 3000 ≤ fu) (st : Nat → Int32) (hst : ∀ j, fits .byte (.int (st j)) = true) {E a t m o : Nat} (hE : E ≤ 20000) (ht : t ≤ 2000) (hm : m < 2 ^ 33) : ∀ f k r n b i k0 (z : Nat → Int32) (u1 u2 u3 u4 u5 u6 u7 u8 u9 u10 u11 u12 u13 : Nat → Int32) (u14 : Nat → Int64) (u15 u16 u17 u18 u19 u20 u21 u22 : Nat → Int32), k + r = m → E < b + 41 * f + 41 → f + 1 < n → zA z E b → a ≤ b → z 18 = 0 → z 5 = nI t → z 6 = nI i → z 7 = nI o → 41 * i ≤ b → 9 * o ≤ b → k0 ≤ i → u1 t = nI a → u4 t = nI (i - k0) → ok (x_M_transaction_39 fu st n (nI t) (lN m) (lN k) z u1 u2 u3 u4 u5 u6 u7 u8 u9 u10 u11 u12 u13 u14 u15 u16 u17 u18 u19 u20 u21 u22) (P39 st (pMid st E r b) a t k0 i o z u1 u2 u3 u4 u5 u6 u7 u8 u9 u10 u11 u12 u13 u14 u15 u16 u17 u18 u19 u20 u21 u22) := by
  intro f
  induction f with
  | zero => exact tr39s fu hfu st hst hE ht hm 0 (fun _ _ _ _ _ _ _ q => absurd q (Nat.not_lt_zero _))
  | succ f ih => exact tr39s fu hfu st hst hE ht hm (f + 1) (fun k r n b i k0 z _ => ih k r n b i k0 z)
set_option maxHeartbeats 600000 in
/-- the reference reads a transaction -/
theorem v_M_transaction (fu : Nat) (hfu : 3000 ≤ fu) (st : Nat → Int32) (hst : ∀ j, fits .byte (.int (st j)) = true) {E a t i o : Nat} (z : Nat → Int32) (hz : zA z E a) (hE : E ≤ 20000) (h18 : z 18 = 0) (h5 : z 5 = nI t) (h6 : z 6 = nI i) (h7 : z 7 = nI o) (ht : 10 * t ≤ a) (hi : 41 * i ≤ a) (ho : 9 * o ≤ a) (u1 u2 u3 u4 u5 u6 u7 u8 u9 u10 u11 u12 u13 : Nat → Int32) (u14 : Nat → Int64) (u15 u16 u17 u18 u19 u20 u21 u22 : Nat → Int32) : ok (x_M_transaction fu st z u1 u2 u3 u4 u5 u6 u7 u8 u9 u10 u11 u12 u13 u14 u15 u16 u17 u18 u19 u20 u21 u22) (trP st (pTx st E a) E a t i o z u1 u2 u3 u4 u5 u6 u7 u8 u9 u10 u11 u12 u13 u14 u15 u16 u17 u18 u19 u20 u21 u22) := by
  unfold x_M_transaction
  have hz0 := hz
  obtain ⟨z1, z2, z3, z4⟩ := hz0
  have hin : inb (nI t) 2200 = true := inb_nI (by omega) (by decide)
  have ec : (nI t).toNatClampNeg = t := nI_clamp (n := t) (by omega)
  rw [h5, ec, z2]
  refine ok_gd hin (ok_bnd ?_)
  rw [show (4 : Int32) = nI 4 from rfl]
  refine ok_bd2 (g_ge fu (by omega) st z (n := 4) (by decide) hz) (fun w2 f3 hq => ?_)
  obtain ⟨k3, b3, l3, hz3, c3⟩ := hq
  replace k3 : zk z f3 := k3
  replace hz3 : zA f3 E b3 := hz3
  have s6 : f3 6 = nI i := by rw [k3 6 (by decide) (by decide)]; exact h6
  rw [s6]
  refine ok_gd hin (ok_bnd ?_)
  refine ok_bd2 (g_co fu (by omega) st f3 hz3) (fun w5 f6 hq => ?_)
  obtain ⟨k6, b6, v, l6, hz6, hv, e5, c6⟩ := hq
  replace k6 : zk f3 f6 := k6
  replace hz6 : zA f6 E b6 := hz6
  replace e5 : w5 = lN v := e5
  subst e5
  have kA := zk_t k3 k6
  have d5 : f6 5 = nI t := by rw [kA 5 (by decide) (by decide)]; exact h5
  have d6 : f6 6 = nI i := by rw [kA 6 (by decide) (by decide)]; exact h6
  have d7 : f6 7 = nI o := by rw [kA 7 (by decide) (by decide)]; exact h7
  have out : (f6 18 = 1 ∧ pTx st E a = none) ∨ (f6 18 = 0 ∧ pTx st E a = pMid st E v b6) := by
    rcases c3 with ⟨p1, p2, -, p3⟩ | ⟨p1, p3⟩
    · replace p3 : f3 18 = z 18 := p3
      subst p2
      rcases c6 with ⟨q1, q2⟩ | ⟨q1, q2⟩
      · refine Or.inr ⟨(show f6 18 = f3 18 from q2).trans (p3.trans h18), ?_⟩
        unfold pTx
        rw [q1]
        rfl
      · refine Or.inl ⟨q2, ?_⟩
        unfold pTx
        rw [q1]
        rfl
    · replace p3 : f3 18 = 1 := p3
      refine Or.inl ⟨?_, ?_⟩
      · rcases c6 with ⟨-, q2⟩ | ⟨-, q2⟩
        · exact (show f6 18 = f3 18 from q2).trans p3
        · exact q2
      · unfold pTx cnt
        rw [if_pos (by omega)]
        rfl
  have fin : ∀ W, ok (x_M_transaction_39 fu st fu (nI t) (lN v) (0 : Int64) f6 (upd u1 t (nI a)) u2 u3 (upd u4 t (nI i)) u5 u6 u7 u8 u9 u10 u11 u12 u13 u14 u15 u16 u17 u18 u19 u20 u21 u22) (P39 st W a t 0 i o f6 (upd u1 t (nI a)) u2 u3 (upd u4 t (nI i)) u5 u6 u7 u8 u9 u10 u11 u12 u13 u14 u15 u16 u17 u18 u19 u20 u21 u22) → pTx st E a = W → ok (x_M_transaction_39 fu st fu (nI t) (lN v) (0 : Int64) f6 (upd u1 t (nI a)) u2 u3 (upd u4 t (nI i)) u5 u6 u7 u8 u9 u10 u11 u12 u13 u14 u15 u16 u17 u18 u19 u20 u21 u22) (trP st (pTx st E a) E a t i o z u1 u2 u3 u4 u5 u6 u7 u8 u9 u10 u11 u12 u13 u14 u15 u16 u17 u18 u19 u20 u21 u22) := by
    intro W h hW
    rw [hW]
    refine ok_mono h (fun x hx => ?_)
    obtain ⟨z', v1, v2, v3, v4, v5, v6, v7, v8, v9, v10, v11, v12, v13, v14, v15, v16, v17, v18, v19, v20, v21, v22⟩ := x
    obtain ⟨y1, ⟨y2, y3⟩, ⟨y4, y5, y6, y7, y8, y9, y10⟩, y11, y12, y13⟩ := hx
    refine ⟨fz_t (fz_k kA) y1, ⟨⟨by rw [y2]; exact upd_kb _ _ _, y4, y5, by rw [y3]; exact upd_kb _ _ _, y6, y7, y8, y9, y10⟩, y11, y12⟩, ?_⟩
    rcases y13 with y | ⟨I, c, O, e, h, w1, w2, w3, w4, w5, w6, w7, w8, w9, w10, w11, w12, w13, w14⟩
    · exact Or.inl y
    · refine Or.inr ⟨I, c, O, e, h, w1, w2, w3, w4, w5, ⟨by rw [y2]; exact pk_us, w6, w7, by rw [y3]; exact pk_us, ?_, w9, w10, w11, w12⟩, w13, w14⟩
      rw [w8, Nat.zero_add]
  rcases out with ⟨o1, o2⟩ | ⟨o1, o2⟩
  · refine fin none ?_ o2
    obtain ⟨fu', hfu'⟩ : ∃ m, fu = m + 1 := ⟨fu - 1, by omega⟩
    have := tr39w fu hfu st hst (a := a) (t := t) (k0 := 0) (i := i) (o := o) f6 hz6 hE (by omega) (by omega) o1 d5 d6 d7 (by omega) (Nat.zero_le _) (upd u1 t (nI a)) u2 u3 (upd u4 t (nI i)) u5 u6 u7 u8 u9 u10 u11 u12 u13 u14 u15 u16 u17 u18 u19 u20 u21 u22 pk_us (by rw [pk_us, Nat.sub_zero]) fu' (lN v) 0
    rw [← hfu'] at this
    exact this
  · refine fin _ ?_ o2
    exact l_tr39 fu hfu st hst (a := a) (t := t) (m := v) (o := o) hE (by omega) hv 600 0 v fu b6 i 0 f6 (upd u1 t (nI a)) u2 u3 (upd u4 t (nI i)) u5 u6 u7 u8 u9 u10 u11 u12 u13 u14 u15 u16 u17 u18 u19 u20 u21 u22 (by omega) (by omega) (by omega) hz6 (by omega) o1 d5 d6 d7 (by omega) (by omega) (Nat.zero_le _) pk_us (by rw [pk_us, Nat.sub_zero])
