-- what an input's scripts work with
set_option maxHeartbeats 400000 in
theorem pTx_i {g : Nat → Int32} {E a : Nat} {I O : List In3} {c e : Nat} (h : pTx g E a = some (I, c, O, e)) (hf : ftB g) (hE : E ≤ 3000) : ∃ b, bl g (a + 4) (b - (a + 4)) = cbL I.length ∧ a + 4 ≤ b ∧ cgI b I c := by
  have hb3 := pTx_b h
  unfold pTx at h
  obtain ⟨⟨v, b⟩, h1, h2⟩ := Option.bind_eq_some_iff.mp h
  replace h2 : pMid g E v b = some (I, c, O, e) := h2
  unfold pMid at h2
  obtain ⟨⟨I', c'⟩, h3, h4⟩ := Option.bind_eq_some_iff.mp h2
  obtain ⟨⟨O', e'⟩, h5, h6⟩ := Option.bind_eq_some_iff.mp h4
  have h6 := Option.some.inj h6
  have q1 : I' = I := congrArg Prod.fst h6
  have q2 : c' = c := congrArg (fun x => x.2.1) h6
  subst q1 q2
  have l1 := pL_b (pIn_f g E) v b I' c' h3
  have hl : I'.length = v := l1.1
  have hcb := cnt_cb hf h1 (by omega)
  have hb := cnt_b h1
  refine ⟨b, ?_, by omega, pL_cg v b I' c' h3⟩
  rw [hl]
  exact hcb
set_option maxHeartbeats 400000 in
theorem pTx_o {g : Nat → Int32} {E a : Nat} {I O : List In3} {c e : Nat} (h : pTx g E a = some (I, c, O, e)) (hf : ftB g) {x : In3} (hx : x ∈ O) (h1000 : x.2.2 ≤ 1000) : bl g (x.1 + 8) (x.2.1 - (x.1 + 8)) = cbL x.2.2 ∧ x.1 + 8 ≤ x.2.1 := by
  unfold pTx at h
  obtain ⟨⟨v, b⟩, h1, h2⟩ := Option.bind_eq_some_iff.mp h
  replace h2 : pMid g E v b = some (I, c, O, e) := h2
  unfold pMid at h2
  obtain ⟨⟨I', c'⟩, h3, h4⟩ := Option.bind_eq_some_iff.mp h2
  obtain ⟨⟨O', e'⟩, h5, h6⟩ := Option.bind_eq_some_iff.mp h4
  have h6 := Option.some.inj h6
  have q3 : O' = O := congrArg (fun x => x.2.2.1) h6
  subst q3
  replace h5 : pTail g E c' = some (O', e') := h5
  unfold pTail at h5
  obtain ⟨⟨m, d⟩, h7, h8⟩ := Option.bind_eq_some_iff.mp h5
  obtain ⟨⟨O2, e2⟩, h9, h10⟩ := Option.bind_eq_some_iff.mp h8
  replace h10 : (if e2 + 4 ≤ E then some (O2, e2 + 4) else none) = some (O', e') := h10
  have hO : O2 = O' := by
    by_cases q : e2 + 4 ≤ E
    · rw [if_pos q] at h10
      exact congrArg Prod.fst (Option.some.inj h10)
    · rw [if_neg q] at h10
      exact absurd h10 (by simp)
  subst hO
  have h11 := pL_all _ _ _ _ h9 x hx
  unfold pOut at h11
  obtain ⟨⟨v', p'⟩, h12, h13⟩ := Option.bind_eq_some_iff.mp h11
  replace h13 : (if p' + v' ≤ E then some (p', v') else none) = some (x.2.1, x.2.2) := h13
  by_cases q : p' + v' ≤ E
  · rw [if_pos q] at h13
    have h13 := Option.some.inj h13
    have y1 : p' = x.2.1 := congrArg Prod.fst h13
    have y2 : v' = x.2.2 := congrArg Prod.snd h13
    subst y1 y2
    have hb := cnt_b h12
    exact ⟨cnt_cb hf h12 (by omega), by omega⟩
  · rw [if_neg q] at h13
    exact absurd h13 (by simp)
set_option maxHeartbeats 400000 in
theorem gD_d3 {L : List In3} {j : Nat} (h : j < L.length) : L.getD j d3 ∈ L := by
  rw [← gD3 _ h]
  exact List.getElem_mem h
set_option maxHeartbeats 2000000 in
theorem msX_mk {P : Nat → Prop} {q : Nat → Nat} {C : Nat → va_E} {cy : Nat → ClassId} {nb : Nat} {par hgt tim : Nat → Nat} {bit : Nat → Int32} {bad : Nat → Bool} {rw : Nat → List Int32} {vl : Nat → Bool} {mk : Nat → Nat} {sl : Cn → Int32} (hB : bkR P q C cy nb par hgt tim bit bad rw vl mk sl) (hA : bkA rw hgt tim nb) {b t k : Nat} (hb0 : 0 < b) (hb : b < nb) (ht : t < (TLb rw b).length) (hk : k < (txO rw b t).2.1.length) {u3 u4 u5 u6 u7 u8 u9 u10 u11 : Nat → Int32} (hl : lyR C q cy (.ref (q (kB b + 1))) (rw b).length (TLb rw b) u3 u4 u5 u6 u7 u8 u9 u10 u11) {x : Cn} (hx : cVd rw nb x) : msX P C q cy (.ref (q (ck rw x))) (nI t) (nI (nIn ((TLb rw b).take t) + k)) (msG (lf (rw b)) (cnS rw x) k (txO rw b t)) := by
  have hbk := hA.2 b hb0 hb
  have hnn := bk_n hbk
  have h3000 := hbk.2.1
  have hx0 : 0 < x.1 := by
    rcases Nat.eq_zero_or_pos x.1 with z | z
    · have := hx.1.2
      rw [z, TLb_0 hA.1] at this
      exact absurd this (Nat.not_lt_zero _)
    · exact z
  have hxk := hA.2 x.1 hx0 hx.1.1
  have hi : nIn ((TLb rw b).take (t + 1)) = nIn ((TLb rw b).take t) + (txO rw b t).2.1.length := nIn_tk (TLb rw b) t ht
  have hm2 := nIn_m2 (TLb rw b) (t := t + 1) (t' := (TLb rw b).length) (by omega)
  rw [List.take_length] at hm2
  obtain ⟨⟨p0, p1, -⟩, c0, c1, -⟩ := hB.1 b hb
  obtain ⟨⟨pb, pr, -⟩, cb, cr, -⟩ := hB.1 x.1 hx.1.1
  obtain ⟨px, cx⟩ := hB.2 x hx
  obtain ⟨⟨b0, a1, a2, a3, a4, a5, a6, a7⟩, hL⟩ := hl
  obtain ⟨⟨x1, x2, x3, x4, -, -⟩, y1, -⟩ := laH_x (TLb rw b) 0 0 0 hL t ht
  rw [Nat.zero_add] at x1 x2 x3 x4 y1
  rw [Nat.zero_add] at x3 x4
  rw [hi] at x4
  obtain ⟨⟨z1, z2, z3, z4, z5⟩, ⟨z6, z7⟩, -⟩ := bk_t hbk ht
  have hcO : cnO rw x ∈ (txO rw x.1 x.2.1).2.2.2.1 := gD_d3 hx.2
  have wO := (bk_t hxk hx.1.2).1.2.2.2.2 (cnO rw x) hcO
  have hTx : txO rw x.1 x.2.1 ∈ TLb rw x.1 := gDm hx.1.2
  obtain ⟨o1, o2⟩ := pTx_o (pBl_at hxk.1 hTx) hxk.2.2.1 hcO wO.2.2.1
  have hTb : txO rw b t ∈ TLb rw b := gDm ht
  obtain ⟨b', i1, i2, i3⟩ := pTx_i (pBl_at hbk.1 hTb) hbk.2.2.1 h3000
  have hkb : ∀ y, 256 ≤ kB y := fun y => by unfold kB; omega
  have hk1 := hkb b
  have hk2 := hkb x.1
  have hk3 := ck_b (rw := rw) x
  refine ⟨kB b + 1, ck rw x, kB x.1, kB x.1 + 1, (rw b).length, (rw x.1).length, lf (rw b), lf (rw x.1), u3, u4, u6, u8, (cnO rw x).1 + 8, (cnO rw x).2.1 + (cnO rw x).2.2, t, nIn ((TLb rw b).take t), k, txO rw b t, cnS rw x, b', ⟨rfl, rfl, rfl⟩, ⟨⟨⟨by omega, p1⟩, ⟨by omega, px⟩, ⟨by omega, pb⟩, by omega, pr⟩, ⟨_, _, _, _, _, b0⟩, c1, a1, a2, a4, a6, ⟨_, cx, rfl, rfl, rfl⟩, ⟨_, cb, rfl⟩, cr⟩, ⟨x1, x2, x3, x4, fun j hj => ?_, by omega, by omega⟩, ⟨by omega, by omega, ?_, z3, by omega, z2, by omega, wO.2.1, ?_⟩, hbk.2.2.1, hxk.2.2.1, ?_, i1, i2, i3, rfl⟩
  · obtain ⟨w1, w2, w3⟩ := y1 j hj
    have eI : ((TLb rw b).getD t d5).2.1[j] = (txO rw b t).2.1.getD j d3 := gD3 _ hj
    rw [eI] at w1 w3
    exact ⟨w1, w3⟩
  · have := hxk.2.1
    omega
  · have := hxk.2.1
    omega
  · have el : (cnS rw x).length = (cnO rw x).2.2 := bl_len _ _ _
    rw [el, ← o1]
    show bl (lf (rw x.1)) ((cnO rw x).1 + 8) _ = bl (lf (rw x.1)) ((cnO rw x).1 + 8) ((cnO rw x).2.1 - ((cnO rw x).1 + 8)) ++ bl (lf (rw x.1)) (cnO rw x).2.1 (cnO rw x).2.2
    rw [show (cnO rw x).2.1 + (cnO rw x).2.2 - ((cnO rw x).1 + 8) = ((cnO rw x).2.1 - ((cnO rw x).1 + 8)) + (cnO rw x).2.2 from by omega, bl_app, show (cnO rw x).1 + 8 + ((cnO rw x).2.1 - ((cnO rw x).1 + 8)) = (cnO rw x).2.1 from by omega]
/-- the machine stands, whatever it holds -/
def mcX {F : Type} [Lean.Grind.Field F] [DecidableEq F] (c : Int → F) (C : Nat → va_E) (q : Nat → Nat) (cy : Nat → ClassId) : Prop := ∃ h oh op i1 i2 fr ly tx inn co mit D m o tk se, maR c C q cy h oh op i1 i2 fr ly tx inn co mit D m o tk ∧ C 116 = .inl (cy 1, 2, .inl se) ∧ ftB D ∧ smD D
set_option maxHeartbeats 400000 in
theorem mcX_q {F : Type} [Lean.Grind.Field F] [DecidableEq F] {c : Int → F} {C C' : Nat → va_E} {q q' : Nat → Nat} {cy : Nat → ClassId} (h : mcX c C q cy) (e : ∀ k, k < 120 ∧ k ≠ 29 → k ≠ 103 → k ≠ 104 → k ≠ 105 → C' k = C k) (eq : ∀ k, k < 138 ∧ k ≠ 29 ∧ k ≠ 137 ∧ k ≠ 135 → q' k = q k) : mcX c C' q' cy := by
  obtain ⟨h, oh, op, i1, i2, fr, ly, tx, inn, co, mit, D, m, o, tk, se, H, e116, hD, hs⟩ := h
  refine ⟨h, oh, op, i1, i2, fr, ly, tx, inn, co, mit, D, m, o, tk, se, ?_, (e 116 (by decide) (by decide) (by decide) (by decide)).trans e116, hD, hs⟩
  have H' : maR c C' q cy h oh op i1 i2 fr ly tx inn co mit D m o tk := maR_c H (fun k hk => e k (by omega) (by omega) (by omega) (by omega)) ((e 110 (by decide) (by decide) (by decide) (by decide)).trans H.1.1) ((e 102 (by decide) (by decide) (by decide) (by decide)).trans H.1.2.1) ((e 117 (by decide) (by decide) (by decide) (by decide)).trans H.1.2.2.1) ((e 118 (by decide) (by decide) (by decide) (by decide)).trans H.1.2.2.2.1) ((e 119 (by decide) (by decide) (by decide) (by decide)).trans H.1.2.2.2.2)
  exact maR_q H' (fun k hk => ⟨rfl, eq k hk⟩)
