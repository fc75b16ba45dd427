-- script and signed of the reference
def zq (z z' : Nat → Int32) : Prop := ∀ j, j = 1 ∨ j = 3 ∨ j = 4 ∨ j = 5 ∨ j = 6 ∨ j = 7 ∨ j = 19 → z' j = z j
set_option maxHeartbeats 2000000 in
theorem z02_q {z z' : Nat → Int32} (h : z02 z z') : zq z z' := fun j hj => h j (by omega) (by omega)
/-- these lengths of the first script are right -/
def scN (R : List Int32) (n : Nat) : Prop := n ≤ R.length ∧ n ≤ 1000 ∧ R.length - n ≤ 1000
def scT (R : List Int32) (row z : Nat → Int32) (a : Int32) (x : T31) : Prop := match x with
  | (v, z', _, _, _, _, _, _, _, _, _, _, _, _, _, _, _, _, _, _, _, _, _, _, _, _, _, th, _, _, _) => zq z z' ∧ ftB th ∧ ((∃ n, scN R n ∧ a = nI n ∧ z' 2 = 0 ∧ tf (scrS (fun _ _ => false) hsF (bl (lf R) 0 n) (bl (lf R) n (R.length - n)) = true) v ∧ rRow z' row []) ∨ ((∀ n, scN R n → a ≠ nI n) ∧ z' 2 = 1 ∧ rRow z' row R))
set_option maxHeartbeats 2000000 in
theorem v_M_script (fu : Nat) (hfu : 1600 ≤ fu) (a : Int32) {z row : Nat → Int32} {R : List Int32} (h : rRow z row R) (st e1 e2 e3 e4 e5 e6 e7 e8 : Nat → Int32) (u1 u2 u3 u4 u5 u6 u7 u8 u9 u10 u11 u12 u13 u14 u15 u16 u17 u18 u19 u20 u21 u22 u23 u24 u25 u26 u27 u28 u29 : Nat → Int32) (hth : ftB u26) : ok (x_M_script fu row st e1 e2 e3 e4 e5 e6 e7 e8 a z u1 u2 u3 u4 u5 u6 u7 u8 u9 u10 u11 u12 u13 u14 u15 u16 u17 u18 u19 u20 u21 u22 u23 u24 u25 u26 u27 u28 u29) (scT R row z a) := by
  have hl := h.2.1
  have wrong : (∀ n, scN R n → a ≠ nI n) → ok (xb_M_script_32 fu row st e1 e2 e3 e4 e5 e6 e7 e8 a z u1 u2 u3 u4 u5 u6 u7 u8 u9 u10 u11 u12 u13 u14 u15 u16 u17 u18 u19 u20 u21 u22 u23 u24 u25 u26 u27 u28 u29) (scT R row z a) := fun q => by
    unfold xb_M_script_32 xb_M_script_37
    exact ok_bnd (ok_f (by rw [pk_us]; decide) (ok_some ⟨z02_q (z02_2 z 1), hth, Or.inr ⟨q, (show upd z 2 1 2 = 1 from pk_us), rRow_2 h 1⟩⟩))
  unfold x_M_script
  rw [h.1]
  rcases pk_ix a (n := 1001) (by decide) with q | q | ⟨n, q, rfl⟩
  · exact ok_t q (wrong fun n hn e => by rw [e] at q; exact absurd ((nI_ltI (a := n) (b := 0) (by have := hn.2.1; omega) (by omega)).mp q) (Nat.not_lt_zero _))
  · have q0 : ¬ a < 0 := fun g => by
      have h1 : nI 1001 < 0 := Int32.lt_of_le_of_lt q g
      exact absurd h1 (by decide)
    have W := wrong fun n hn e => by
      rw [e] at q
      exact absurd ((nI_leI (a := 1001) (b := n) (by omega) (by have := hn.2.1; omega)).mp q) (by have := hn.2.1; omega)
    refine ok_f q0 ?_
    by_cases q1 : nI R.length < a
    · exact ok_t q1 W
    · exact ok_f q1 (ok_t (Int32.lt_of_lt_of_le (by decide : (1000 : Int32) < nI 1001) q) W)
  refine ok_f (fun g => absurd ((nI_ltI (a := n) (b := 0) (by omega) (by omega)).mp g) (Nat.not_lt_zero _)) ?_
  have inj : ∀ m, scN R m → nI n = nI m → n = m := fun m hm e => (nI_eq32 (a := n) (b := m) (by omega) (by have := hm.2.1; omega)).mp e
  by_cases q1 : R.length < n
  · exact ok_t ((nI_ltI (a := R.length) (b := n) (by omega) (by omega)).mpr q1) (wrong fun m hm e => by
      have := inj m hm e
      have := hm.1
      omega)
  refine ok_f (fun g => q1 ((nI_ltI (a := R.length) (b := n) (by omega) (by omega)).mp g)) (ok_f (fun g => absurd ((nI_ltI (a := 1000) (b := n) (by omega) (by omega)).mp g) (by omega)) ?_)
  refine ok_bn (e' := nI (R.length - n)) (nI_sb (by omega)) ?_
  by_cases q2 : R.length - n ≤ 1000
  case neg =>
    exact ok_f (fun g => q2 ((nI_leI (a := R.length - n) (b := 1000) (by omega) (by omega)).mp g)) (wrong fun m hm e => by
      have := inj m hm e
      subst this
      exact q2 hm.2.2)
  refine ok_t ((nI_leI (a := R.length - n) (b := 1000) (by omega) (by omega)).mpr q2) ?_
  unfold xb_M_script_37
  refine ok_bnd (ok_t (by rw [pk_us]; decide) ?_)
  have e0 : upd z 2 (0 : Int32) 0 = nI R.length := by rw [pk_un (by decide)]; exact h.1
  rw [e0]
  refine ok_bn (e' := nI (R.length - n)) (nI_sb (by omega)) (ok_bnd (ok_bnd ?_))
  have s12 : upd (upd (upd z 2 0) 0 0) 12 (-1) 12 = (-1 : Int32) := pk_us
  have s0 : upd (upd (upd z 2 0) 0 0) 12 (-1) 0 = (0 : Int32) := by rw [pk_un (by decide), pk_us]
  have s2 : upd (upd (upd z 2 0) 0 0) 12 (-1) 2 = (0 : Int32) := by rw [pk_un (by decide), pk_un (by decide), pk_us]
  have sj : ∀ j, j ≠ 0 → j ≠ 2 → j ≠ 12 → upd (upd (upd z 2 0) 0 0) 12 (-1) j = z j := fun j h0 h2 h12 => by rw [pk_un h12, pk_un h0, pk_un h2]
  generalize upd (upd (upd z 2 0) 0 0) 12 (-1) = zz at *
  refine ok_bd31 (v_M_isTrue0 fu hfu (fun _ _ => false) st e1 e2 e3 e4 e5 e6 e7 e8 (sgE_n fu st e1 e2 e3 e4 e5 e6 e7 e8 s12) (n1 := 3000) (h1 := row) (by decide) h.2.2.2.1 (a := 0) (N := n) (b := n) (M := R.length - n) (by omega) (by omega) q2 (by omega) (zf_r zz) hth u1 u2 u3 u4 u5 u6 u7 u8 u9 u10 u11 u12 u13 u14 u15 u16 u17 u18 u19 u20 u21 u22 u23 u24 u25 u27 u28 u29) (fun v zt f1 f2 f3 f4 f5 f6 f7 f8 f9 f10 f11 f12 f13 f14 f15 f16 f17 f18 f19 f20 f21 f22 f23 f24 f25 th g1 g2 g3 hq => ?_)
  obtain ⟨t1, t2, t3⟩ := hq
  replace t1 : tf (scrS (fun _ _ => false) hsF (bl row 0 n) (bl row n (R.length - n)) = true) v := t1
  replace t2 : zf zz zt := t2
  rw [rRow_w h (by omega), bl_c (R.length - n) n n (fun i hi => h.2.2.1 (n + i) (by omega))] at t1
  refine ok_gd (tf_isb t1) (ok_some ⟨fun j hj => ?_, t3, Or.inl ⟨n, ⟨by omega, by omega, q2⟩, rfl, ?_, t1, ?_, Nat.zero_le _, fun j hj => absurd hj (Nat.not_lt_zero _), h.2.2.2.1, fun j => ?_⟩⟩)
  · rw [t2 j (by omega) (by omega) (by omega) (by omega)]
    exact sj j (by omega) (by omega) (by omega)
  · rw [t2 2 (by decide) (by decide) (by decide) (by decide)]; exact s2
  · rw [t2 0 (by decide) (by decide) (by decide) (by decide)]; exact s0
  · show fits .byte (.int (([] : List Int32).getD j 0)) = true
    rw [List.getD_nil]; decide
/-- these lengths of a key are right -/
def sdN (R : List Int32) (n : Nat) : Prop := n ≤ 100 ∧ 32 + n + 1 ≤ R.length ∧ R.length ≤ 32 + n + 80
abbrev T24g : Type := Int32 × (Nat → Int32) × (Nat → Int32) × (Nat → Int32) × (Nat → Int32) × (Nat → Int32) × (Nat → Int32) × (Nat → Int32) × (Nat → Int32) × (Nat → Int32) × (Nat → Int32) × (Nat → Int32) × (Nat → Int32) × (Nat → Int32) × (Nat → Int32) × (Nat → Int32) × (Nat → Int32) × (Nat → Int32) × (Nat → Int32) × (Nat → Int32) × (Nat → Int32) × (Nat → Int32) × (Nat → Int32) × (Nat → Int32)
def sdT {F : Type} [Lean.Grind.Field F] [DecidableEq F] (c : Int → F) (R : List Int32) (row z : Nat → Int32) (a : Int32) (x : T24g) : Prop := match x with
  | (v, z', _, _, _, _, _, _, _, _, _, _, _, _, _, _, _, _, _, _, _, _, _, _) => zq z z' ∧ rRow z' row R ∧ ((∃ n, sdN R n ∧ a = nI n ∧ z' 2 = 0 ∧ tf (sgO c (beN (lf R) 0 32) (bl (lf R) 32 n) (bl (lf R) (32 + n) (R.length - 32 - n))) v) ∨ ((∀ n, sdN R n → a ≠ nI n) ∧ z' 2 = 1))
set_option maxHeartbeats 2000000 in
theorem v_M_signed {F : Type} [Lean.Grind.Field F] [DecidableEq F] {c : Int → F} (hc : cH pP c) (fu : Nat) (hfu : 2 ^ 257 ≤ fu) (one : Nat → Int32) (hone : V one 8 = 1) (a : Int32) {z row : Nat → Int32} {R : List Int32} (h : rRow z row R) (u1 u2 u3 u4 u5 u6 u7 u8 u9 u10 u11 u12 u13 u14 u15 u16 u17 u18 u19 u20 u21 u22 : Nat → Int32) : ok (x_M_signed fu row one a z u1 u2 u3 u4 u5 u6 u7 u8 u9 u10 u11 u12 u13 u14 u15 u16 u17 u18 u19 u20 u21 u22) (sdT c R row z a) := by
  have hl := h.2.1
  have wrong : ∀ x2, (∀ n, sdN R n → a ≠ nI n) → ok (xb_M_signed_32 fu row one a x2 z u1 u2 u3 u4 u5 u6 u7 u8 u9 u10 u11 u12 u13 u14 u15 u16 u17 u18 u19 u20 u21 u22) (sdT c R row z a) := fun x2 q => by
    unfold xb_M_signed_32 xb_M_signed_37
    exact ok_bnd (ok_f (by rw [pk_us]; decide) (ok_some ⟨z02_q (z02_2 z 1), rRow_2 h 1, Or.inr ⟨q, (show upd z 2 1 2 = 1 from pk_us)⟩⟩))
  unfold x_M_signed
  rw [h.1]
  refine ok_bnd (ok_bnd ?_)
  rcases pk_ix a (n := 101) (by decide) with q | q | ⟨n, q, rfl⟩
  · exact ok_t q (wrong _ fun n hn e => by rw [e] at q; exact absurd ((nI_ltI (a := n) (b := 0) (by have := hn.1; omega) (by omega)).mp q) (Nat.not_lt_zero _))
  · have q0 : ¬ a < 0 := fun g => by
      have h1 : nI 101 < 0 := Int32.lt_of_le_of_lt q g
      exact absurd h1 (by decide)
    refine ok_f q0 (ok_t (Int32.lt_of_lt_of_le (by decide : (100 : Int32) < nI 101) q) (wrong _ fun n hn e => ?_))
    rw [e] at q
    exact absurd ((nI_leI (a := 101) (b := n) (by omega) (by have := hn.1; omega)).mp q) (by have := hn.1; omega)
  refine ok_f (fun g => absurd ((nI_ltI (a := n) (b := 0) (by omega) (by omega)).mp g) (Nat.not_lt_zero _)) (ok_f (fun g => absurd ((nI_ltI (a := 100) (b := n) (by omega) (by omega)).mp g) (by omega)) ?_)
  have inj : ∀ m, sdN R m → nI n = nI m → n = m := fun m hm e => (nI_eq32 (a := n) (b := m) (by omega) (by have := hm.1; omega)).mp e
  have iv : (nI R.length - 32 - nI n).toInt = (R.length : Int) - 32 - n := by
    rw [Int32.toInt_sub, Int32.toInt_sub, i_nI (by omega), i_nI (by omega), show Int32.toInt 32 = 32 from rfl, Int.bmod_eq_of_le (n := (R.length : Int) - 32) (by omega) (by omega), Int.bmod_eq_of_le (by omega) (by omega)]
  by_cases q1 : R.length < 32 + n + 1
  · refine ok_t (Int32.lt_iff_toInt_lt.mpr (by rw [iv]; show _ < (1 : Int); omega)) (wrong _ fun m hm e => ?_)
    have := inj m hm e
    have := hm.2.1
    omega
  refine ok_f (fun g => by
    have := Int32.lt_iff_toInt_lt.mp g
    rw [iv] at this
    replace this : (R.length : Int) - 32 - n < 1 := this
    omega) ?_
  have ev : nI R.length - 32 - nI n = nI (R.length - 32 - n) := by
    rw [show (32 : Int32) = nI 32 from rfl, nI_sb (by omega), nI_sb (by omega)]
  rw [ev]
  by_cases q2 : R.length ≤ 32 + n + 80
  case neg =>
    refine ok_f (fun g => absurd ((nI_leI (a := R.length - 32 - n) (b := 80) (by omega) (by omega)).mp g) (by omega)) (wrong _ fun m hm e => ?_)
    have := inj m hm e
    have := hm.2.2
    omega
  refine ok_t ((nI_leI (a := R.length - 32 - n) (b := 80) (by omega) (by omega)).mpr (by omega)) ?_
  unfold xb_M_signed_37
  refine ok_bnd (ok_t (by rw [pk_us]; decide) (ok_gd (by decide) (ok_gd (bfit_nI (a := 0) (n := 32) (by decide) (by decide) (fun j _ => h.2.2.2.1 _)) (ok_bnd (ok_bn (e' := nI (32 + n)) (nI_add 32 n) ?_)))))
  have eb : beN (va_cpy row u1 (Int32.toNatClampNeg 0) (Int32.toNatClampNeg 0) (Int32.toNatClampNeg 32)) 0 32 = beN (lf R) 0 32 := beN_c 32 fun i hi => by
    rw [pk_cpy_in (by show 0 ≤ _; omega) (by show 0 + i < 0 + 32; omega)]
    show row (0 + (0 + i - 0)) = lf R (0 + i)
    rw [Nat.zero_add, Nat.zero_add, Nat.sub_zero]
    exact h.2.2.1 i (by omega)
  generalize va_cpy row u1 (Int32.toNatClampNeg 0) (Int32.toNatClampNeg 0) (Int32.toNatClampNeg 32) = hs at *
  refine ok_bd23 (v_isSigned hc fu hfu hs one hone 3000 (by decide) row (a := 32) (n := n) (b := 32 + n) (m := R.length - 32 - n) (by omega) (by omega) (upd z 2 0) u2 u3 u4 u5 u6 u7 u8 u9 u10 u11 u12 u13 u14 u15 u16 u17 u18 u19 u20 u21 u22) (fun v zt f1 f2 f3 f4 f5 f6 f7 f8 f9 f10 f11 f12 f13 f14 f15 f16 f17 f18 f19 f20 f21 hq => ?_)
  obtain ⟨t1, t2⟩ := hq
  replace t1 : ∀ j, j ≠ 8 → zt j = upd z 2 0 j := t1
  rw [eb, sgO_i c (beN (lf R) 0 32) row, bl_c n 32 32 (fun i hi => h.2.2.1 (32 + i) (by omega)), bl_c (R.length - 32 - n) (32 + n) (32 + n) (fun i hi => h.2.2.1 (32 + n + i) (by omega))] at t2
  replace t2 : tf (sgO c (beN (lf R) 0 32) (bl (lf R) 32 n) (bl (lf R) (32 + n) (R.length - 32 - n))) v := t2.elim (fun q => Or.inl ⟨q.2, q.1⟩) (fun q => Or.inr ⟨q.2, q.1⟩)
  refine ok_gd (tf_isb t2) (ok_some ⟨fun j hj => ?_, ⟨?_, h.2⟩, Or.inl ⟨n, ⟨by omega, by omega, q2⟩, rfl, ?_, t2⟩⟩)
  · rw [t1 j (by omega), pk_un (by omega)]
  · rw [t1 0 (by decide), pk_un (by decide)]; exact h.1
  · rw [t1 2 (by decide), pk_us]
